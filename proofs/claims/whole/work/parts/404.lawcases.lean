set_option maxHeartbeats 4000000 in
set_option maxRecDepth 100000 in
theorem law_fix {p : Program} {l : Launch} {e : Env} {s : State} {m : MethodId} {below : List Frame} {meth : Method} {c : Code} {E : Ec} {b L : Nat} {xs : Nat → Int32} {I : (Nat → Gr) → Gr → Prop} (hL : L ≤ 3072) (C0 : lw_At p s m meth c b L xs) (X : ctX E (fun q : Nat => s.heap.size ≤ q) s) (hp : hp_fix I) {i : Nat} {x3 : Int32} (ex : x3 = nI i) (hi : i + 6 ≤ L) (q : Nat → Nat → Nat) (C : Nat → Gr) (M : Gr) (hI : I C M) (H : Heap) (locs : List Loc) (ls : Array Slot) (hP : sP E (gsL E q C M) H) (hD : sD (fun q : Nat => s.heap.size ≤ q) (gsL E q C M)) (hS : va_S (fun q : Nat => s.heap.size ≤ q) s.heap H locs) (hl : lv_has ls 4 [(0, .ref b), (1, .ref (q 0 0)), (2, .ref (q 16 0)), (3, .int x3)]) (KK : ∀ (q : Nat → Nat → Nat) (C : Nat → Gr) (M : Gr) (H : Heap) (locs : List Loc) (ls : Array Slot), I C M → sP E (gsL E q C M) H → sD (fun q : Nat => s.heap.size ≤ q) (gsL E q C M) → va_S (fun q : Nat => s.heap.size ≤ q) s.heap H locs → lv_has ls 4 [(0, .ref b), (1, .ref (q 0 0)), (2, .ref (q 16 0)), (3, .int x3)] → W p l e room_1 s m #[Value.ref b] below meth c H locs 600000 7302250 (lw_Z below #[Value.ref b] s) (F0 m 1109 ls [])) : W p l e room_1 s m #[Value.ref b] below meth c H locs 600000 7302250 (lw_Z below #[Value.ref b] s) (F0 m 518 ls []) := by
  obtain ⟨hx, hb, hr, hml, hown, hts, hX, hbl, hlocks, hgv⟩ := C0
  have hg : ∀ w ∈ gtbl, w.before #[Value.ref b] s = true := fun w h => hts w (gtbl_tbl h)
  have hbA : ¬ (fun q : Nat => s.heap.size ≤ q) b := Nat.not_le.mpr hbl
  obtain ⟨u, w, hu, hw, euw, hI⟩ := hp C M hI (xs (Int32.toNatClampNeg (x3 + 1))) (xs (Int32.toNatClampNeg (x3 + 2)))
  refine lv_aload_n hx hb dL_law_518 rfl (lv_at hl 1 rfl) ?_
  refine lv_aload_n hx hb dL_law_519 rfl (lv_at hl 0 rfl) ?_
  refine lv_iload_n hx hb dL_law_520 rfl (lv_at hl 3 rfl) ?_
  refine lv_iconst (v := 1) hx hb dL_law_521 (by decide) ?_
  refine lv_iadd hx hb dL_law_522 ?_
  refine va_sld hx hb hX hbl hbA hS (lw_at 1 ex hi (by decide) hL) dL_law_523 ?_
  refine lv_aload_n hx hb dL_law_524 rfl (lv_at hl 0 rfl) ?_
  refine lv_iload_n hx hb dL_law_525 rfl (lv_at hl 3 rfl) ?_
  refine lv_iconst (v := 2) hx hb dL_law_526 (by decide) ?_
  refine lv_iadd hx hb dL_law_527 ?_
  refine va_sld hx hb hX hbl hbA hS (lw_at 2 ex hi (by decide) hL) dL_law_528 ?_
  have hC : ([0, 1, 8, 13] : List Nat).map (fun i => ([cw_X11 E (q 0) (q 1 0) (q 2 0) (q 4 0) (q 6 0) (q 8 0) (q 9 0) (q 10 0) (q 11 0) (q 12 0) (q 13 0) (q 14 0) (q 15 0) (C 0), cw_X8 E (q 1) (C 1), cw_X4 E (q 2) (q 3 0), cw_X9 E (q 3) (C 3), cw_X0 E (q 4) (q 5 0), cw_X9 E (q 5) (C 5), cw_X5 E (q 6) (q 7 0) (C 6), cw_X9 E (q 7) (C 7), cw_X6 E (q 8) (C 8), cw_X2 E (q 9) (C 9), cw_X10 E (q 10) (C 10), cw_X3 E (q 11) (C 11), cw_X3 E (q 12) (C 12), cw_X7 E (q 13) (C 13), cw_X7 E (q 14) (C 14), cw_X7 E (q 15) (C 15), cw_X12 E (q 16) M])[i]?) = ([cw_X11 E (q 0) (q 1 0) (q 2 0) (q 4 0) (q 6 0) (q 8 0) (q 9 0) (q 10 0) (q 11 0) (q 12 0) (q 13 0) (q 14 0) (q 15 0) (C 0), cw_X8 E (q 1) (C 1), cw_X6 E (q 8) (C 8), cw_X7 E (q 13) (C 13)] : List va_W).map some := rfl
  refine sg_i (gs' := [cw_X11 E (q 0) (q 1 0) (q 2 0) (q 4 0) (q 6 0) (q 8 0) (q 9 0) (q 10 0) (q 11 0) (q 12 0) (q 13 0) (q 14 0) (q 15 0) (C 0), cw_X8 E (q 1) u.2, cw_X4 E (q 2) (q 3 0), cw_X9 E (q 3) (C 3), cw_X0 E (q 4) (q 5 0), cw_X9 E (q 5) (C 5), cw_X5 E (q 6) (q 7 0) (C 6), cw_X9 E (q 7) (C 7), cw_X6 E (q 8) (C 8), cw_X2 E (q 9) (C 9), cw_X10 E (q 10) (C 10), cw_X3 E (q 11) (C 11), cw_X3 E (q 12) (C 12), cw_X7 E (q 13) (C 13), cw_X7 E (q 14) (C 14), cw_X7 E (q 15) (C 15), cw_X12 E (q 16) M]) (gc := [cw_X11 E (q 0) (q 1 0) (q 2 0) (q 4 0) (q 6 0) (q 8 0) (q 9 0) (q 10 0) (q 11 0) (q 12 0) (q 13 0) (q 14 0) (q 15 0) (C 0), cw_X8 E (q 1) (C 1), cw_X6 E (q 8) (C 8), cw_X7 E (q 13) (C 13)]) (g1 := [cw_X11 E (q 0) (q 1 0) (q 2 0) (q 4 0) (q 6 0) (q 8 0) (q 9 0) (q 10 0) (q 11 0) (q 12 0) (q 13 0) (q 14 0) (q 15 0) (C 0), cw_X8 E (q 1) u.2, cw_X6 E (q 8) (C 8), cw_X7 E (q 13) (C 13)]) X hP hD hS [0, 1, 8, 13] (by decide) (va_runV (C := RX11) (As := [.int (xs (Int32.toNatClampNeg (x3 + 1))), .int (xs (Int32.toNatClampNeg (x3 + 2)))]) (rest := []) ⟨hx, hb, hml, hown, hg⟩ (c_X11_fix l E (q 0) (q 1) (q 8) (q 13) (q 2 0) (q 4 0) (q 6 0) (q 9 0) (q 10 0) (q 11 0) (q 12 0) (q 14 0) (q 15 0) H.size (C 0) (C 1) (C 8) (C 13) (xs (Int32.toNatClampNeg (x3 + 1))) (xs (Int32.toNatClampNeg (x3 + 2))) u hu) (cwV 2 hg (gwV wm_L_58 wi_X11_fix wsl_X11_fix wini_X11 wco_X11_fix) rfl rfl rfl (by decide +kernel) ⟨Nat.le_of_ble_eq_true rfl, Nat.le_of_ble_eq_true rfl⟩) ⟨ct_blind, sg_rv X.1 hP 0 rfl rfl rfl, sg_pre X hP hD hS [0, 1, 8, 13] (by decide) hC _⟩ rfl rfl hl.1 rfl (lv_room (Nat.le_of_ble_eq_true rfl)) dL_law_529 ⟨Nat.le_of_ble_eq_true rfl, Nat.le_of_ble_eq_true rfl⟩) hC rfl rfl rfl (fun H locs hP hD hS => ?_)
  clear hC
  refine lv_aload_n hx hb dL_law_532 rfl (lv_at hl 2 rfl) ?_
  refine lv_aload_n hx hb dL_law_533 rfl (lv_at hl 0 rfl) ?_
  refine lv_iload_n hx hb dL_law_534 rfl (lv_at hl 3 rfl) ?_
  refine lv_iconst (v := 1) hx hb dL_law_535 (by decide) ?_
  refine lv_iadd hx hb dL_law_536 ?_
  refine va_sld hx hb hX hbl hbA hS (lw_at 1 ex hi (by decide) hL) dL_law_537 ?_
  refine lv_aload_n hx hb dL_law_538 rfl (lv_at hl 0 rfl) ?_
  refine lv_iload_n hx hb dL_law_539 rfl (lv_at hl 3 rfl) ?_
  refine lv_iconst (v := 2) hx hb dL_law_540 (by decide) ?_
  refine lv_iadd hx hb dL_law_541 ?_
  refine va_sld hx hb hX hbl hbA hS (lw_at 2 ex hi (by decide) hL) dL_law_542 ?_
  have hC : ([16] : List Nat).map (fun i => ([cw_X11 E (q 0) (q 1 0) (q 2 0) (q 4 0) (q 6 0) (q 8 0) (q 9 0) (q 10 0) (q 11 0) (q 12 0) (q 13 0) (q 14 0) (q 15 0) (C 0), cw_X8 E (q 1) u.2, cw_X4 E (q 2) (q 3 0), cw_X9 E (q 3) (C 3), cw_X0 E (q 4) (q 5 0), cw_X9 E (q 5) (C 5), cw_X5 E (q 6) (q 7 0) (C 6), cw_X9 E (q 7) (C 7), cw_X6 E (q 8) (C 8), cw_X2 E (q 9) (C 9), cw_X10 E (q 10) (C 10), cw_X3 E (q 11) (C 11), cw_X3 E (q 12) (C 12), cw_X7 E (q 13) (C 13), cw_X7 E (q 14) (C 14), cw_X7 E (q 15) (C 15), cw_X12 E (q 16) M])[i]?) = ([cw_X12 E (q 16) M] : List va_W).map some := rfl
  refine sg_i (gs' := [cw_X11 E (q 0) (q 1 0) (q 2 0) (q 4 0) (q 6 0) (q 8 0) (q 9 0) (q 10 0) (q 11 0) (q 12 0) (q 13 0) (q 14 0) (q 15 0) (C 0), cw_X8 E (q 1) u.2, cw_X4 E (q 2) (q 3 0), cw_X9 E (q 3) (C 3), cw_X0 E (q 4) (q 5 0), cw_X9 E (q 5) (C 5), cw_X5 E (q 6) (q 7 0) (C 6), cw_X9 E (q 7) (C 7), cw_X6 E (q 8) (C 8), cw_X2 E (q 9) (C 9), cw_X10 E (q 10) (C 10), cw_X3 E (q 11) (C 11), cw_X3 E (q 12) (C 12), cw_X7 E (q 13) (C 13), cw_X7 E (q 14) (C 14), cw_X7 E (q 15) (C 15), cw_X12 E (q 16) w.2]) (gc := [cw_X12 E (q 16) M]) (g1 := [cw_X12 E (q 16) w.2]) X hP hD hS [16] (by decide) (va_runV (C := RX12) (As := [.int (xs (Int32.toNatClampNeg (x3 + 1))), .int (xs (Int32.toNatClampNeg (x3 + 2)))]) (rest := [.int u.1]) ⟨hx, hb, hml, hown, hg⟩ (c_X12_fix l E (q 16) H.size M (xs (Int32.toNatClampNeg (x3 + 1))) (xs (Int32.toNatClampNeg (x3 + 2))) w hw) (cwV 2 hg (gwV wm_L_61 wi_X12_fix wsl_X12_fix wini_X12 wco_X12_fix) rfl rfl rfl (by decide +kernel) ⟨Nat.le_of_ble_eq_true rfl, Nat.le_of_ble_eq_true rfl⟩) ⟨ct_blind, sg_rv X.1 hP 16 rfl rfl rfl, sg_pre X hP hD hS [16] (by decide) hC _⟩ rfl rfl hl.1 rfl (lv_room (Nat.le_of_ble_eq_true rfl)) dL_law_543 ⟨Nat.le_of_ble_eq_true rfl, Nat.le_of_ble_eq_true rfl⟩) hC rfl rfl rfl (fun H locs hP hD hS => ?_)
  clear hC
  refine lv_icmp_eq (tgt := 1109) hx hb dL_law_546 (by decide) (fun _ => ?_) (fun c9 => absurd euw c9)
  exact KK q (va_up C 1 u.2) w.2 H locs ls hI hP hD hS hl
set_option maxHeartbeats 4000000 in
set_option maxRecDepth 100000 in
theorem law_bearings {p : Program} {l : Launch} {e : Env} {s : State} {m : MethodId} {below : List Frame} {meth : Method} {c : Code} {E : Ec} {b L : Nat} {xs : Nat → Int32} {I : (Nat → Gr) → Gr → Prop} (hL : L ≤ 3072) (C0 : lw_At p s m meth c b L xs) (X : ctX E (fun q : Nat => s.heap.size ≤ q) s) (hp : hp_bearings I) {i : Nat} {x3 : Int32} (ex : x3 = nI i) (hi : i + 6 ≤ L) (q : Nat → Nat → Nat) (C : Nat → Gr) (M : Gr) (hI : I C M) (H : Heap) (locs : List Loc) (ls : Array Slot) (hP : sP E (gsL E q C M) H) (hD : sD (fun q : Nat => s.heap.size ≤ q) (gsL E q C M)) (hS : va_S (fun q : Nat => s.heap.size ≤ q) s.heap H locs) (hl : lv_has ls 4 [(0, .ref b), (1, .ref (q 0 0)), (2, .ref (q 16 0)), (3, .int x3)]) (KK : ∀ (q : Nat → Nat → Nat) (C : Nat → Gr) (M : Gr) (H : Heap) (locs : List Loc) (ls : Array Slot), I C M → sP E (gsL E q C M) H → sD (fun q : Nat => s.heap.size ≤ q) (gsL E q C M) → va_S (fun q : Nat => s.heap.size ≤ q) s.heap H locs → lv_has ls 4 [(0, .ref b), (1, .ref (q 0 0)), (2, .ref (q 16 0)), (3, .int x3)] → W p l e room_1 s m #[Value.ref b] below meth c H locs 600000 7302250 (lw_Z below #[Value.ref b] s) (F0 m 1109 ls [])) : W p l e room_1 s m #[Value.ref b] below meth c H locs 600000 7302250 (lw_Z below #[Value.ref b] s) (F0 m 551 ls []) := by
  obtain ⟨hx, hb, hr, hml, hown, hts, hX, hbl, hlocks, hgv⟩ := C0
  have hg : ∀ w ∈ gtbl, w.before #[Value.ref b] s = true := fun w h => hts w (gtbl_tbl h)
  have hbA : ¬ (fun q : Nat => s.heap.size ≤ q) b := Nat.not_le.mpr hbl
  obtain ⟨u, w, hu, hw, euw, hI⟩ := hp C M hI (xs (Int32.toNatClampNeg (x3 + 1))) (xs (Int32.toNatClampNeg (x3 + 2))) (xs (Int32.toNatClampNeg (x3 + 3))) (xs (Int32.toNatClampNeg (x3 + 4)))
  refine lv_aload_n hx hb dL_law_551 rfl (lv_at hl 1 rfl) ?_
  refine lv_aload_n hx hb dL_law_552 rfl (lv_at hl 0 rfl) ?_
  refine lv_iload_n hx hb dL_law_553 rfl (lv_at hl 3 rfl) ?_
  refine lv_iconst (v := 1) hx hb dL_law_554 (by decide) ?_
  refine lv_iadd hx hb dL_law_555 ?_
  refine va_sld hx hb hX hbl hbA hS (lw_at 1 ex hi (by decide) hL) dL_law_556 ?_
  refine lv_aload_n hx hb dL_law_557 rfl (lv_at hl 0 rfl) ?_
  refine lv_iload_n hx hb dL_law_558 rfl (lv_at hl 3 rfl) ?_
  refine lv_iconst (v := 2) hx hb dL_law_559 (by decide) ?_
  refine lv_iadd hx hb dL_law_560 ?_
  refine va_sld hx hb hX hbl hbA hS (lw_at 2 ex hi (by decide) hL) dL_law_561 ?_
  refine lv_aload_n hx hb dL_law_562 rfl (lv_at hl 0 rfl) ?_
  refine lv_iload_n hx hb dL_law_563 rfl (lv_at hl 3 rfl) ?_
  refine lv_iconst (v := 3) hx hb dL_law_564 (by decide) ?_
  refine lv_iadd hx hb dL_law_565 ?_
  refine va_sld hx hb hX hbl hbA hS (lw_at 3 ex hi (by decide) hL) dL_law_566 ?_
  refine lv_aload_n hx hb dL_law_567 rfl (lv_at hl 0 rfl) ?_
  refine lv_iload_n hx hb dL_law_568 rfl (lv_at hl 3 rfl) ?_
  refine lv_iconst (v := 4) hx hb dL_law_569 (by decide) ?_
  refine lv_iadd hx hb dL_law_570 ?_
  refine va_sld hx hb hX hbl hbA hS (lw_at 4 ex hi (by decide) hL) dL_law_571 ?_
  have hC : ([0, 13, 8] : List Nat).map (fun i => ([cw_X11 E (q 0) (q 1 0) (q 2 0) (q 4 0) (q 6 0) (q 8 0) (q 9 0) (q 10 0) (q 11 0) (q 12 0) (q 13 0) (q 14 0) (q 15 0) (C 0), cw_X8 E (q 1) (C 1), cw_X4 E (q 2) (q 3 0), cw_X9 E (q 3) (C 3), cw_X0 E (q 4) (q 5 0), cw_X9 E (q 5) (C 5), cw_X5 E (q 6) (q 7 0) (C 6), cw_X9 E (q 7) (C 7), cw_X6 E (q 8) (C 8), cw_X2 E (q 9) (C 9), cw_X10 E (q 10) (C 10), cw_X3 E (q 11) (C 11), cw_X3 E (q 12) (C 12), cw_X7 E (q 13) (C 13), cw_X7 E (q 14) (C 14), cw_X7 E (q 15) (C 15), cw_X12 E (q 16) M])[i]?) = ([cw_X11 E (q 0) (q 1 0) (q 2 0) (q 4 0) (q 6 0) (q 8 0) (q 9 0) (q 10 0) (q 11 0) (q 12 0) (q 13 0) (q 14 0) (q 15 0) (C 0), cw_X7 E (q 13) (C 13), cw_X6 E (q 8) (C 8)] : List va_W).map some := rfl
  refine sg_i (gs' := [cw_X11 E (q 0) (q 1 0) (q 2 0) (q 4 0) (q 6 0) (q 8 0) (q 9 0) (q 10 0) (q 11 0) (q 12 0) (q 13 0) (q 14 0) (q 15 0) (C 0), cw_X8 E (q 1) (C 1), cw_X4 E (q 2) (q 3 0), cw_X9 E (q 3) (C 3), cw_X0 E (q 4) (q 5 0), cw_X9 E (q 5) (C 5), cw_X5 E (q 6) (q 7 0) (C 6), cw_X9 E (q 7) (C 7), cw_X6 E (q 8) (C 8), cw_X2 E (q 9) (C 9), cw_X10 E (q 10) (C 10), cw_X3 E (q 11) (C 11), cw_X3 E (q 12) (C 12), cw_X7 E (q 13) (C 13), cw_X7 E (q 14) (C 14), cw_X7 E (q 15) (C 15), cw_X12 E (q 16) M]) (gc := [cw_X11 E (q 0) (q 1 0) (q 2 0) (q 4 0) (q 6 0) (q 8 0) (q 9 0) (q 10 0) (q 11 0) (q 12 0) (q 13 0) (q 14 0) (q 15 0) (C 0), cw_X7 E (q 13) (C 13), cw_X6 E (q 8) (C 8)]) (g1 := [cw_X11 E (q 0) (q 1 0) (q 2 0) (q 4 0) (q 6 0) (q 8 0) (q 9 0) (q 10 0) (q 11 0) (q 12 0) (q 13 0) (q 14 0) (q 15 0) (C 0), cw_X7 E (q 13) (C 13), cw_X6 E (q 8) (C 8)]) X hP hD hS [0, 13, 8] (by decide) (va_runV (C := RX11) (As := [.int (xs (Int32.toNatClampNeg (x3 + 1))), .int (xs (Int32.toNatClampNeg (x3 + 2))), .int (xs (Int32.toNatClampNeg (x3 + 3))), .int (xs (Int32.toNatClampNeg (x3 + 4)))]) (rest := []) ⟨hx, hb, hml, hown, hg⟩ (c_X11_bearings l E (q 0) (q 13) (q 8) (q 1 0) (q 2 0) (q 4 0) (q 6 0) (q 9 0) (q 10 0) (q 11 0) (q 12 0) (q 14 0) (q 15 0) H.size (C 0) (C 13) (C 8) (xs (Int32.toNatClampNeg (x3 + 1))) (xs (Int32.toNatClampNeg (x3 + 2))) (xs (Int32.toNatClampNeg (x3 + 3))) (xs (Int32.toNatClampNeg (x3 + 4))) u hu) (cwV 4 hg (gwV wm_L_62 wi_X11_bearings wsl_X11_bearings wini_X11 wco_X11_bearings) rfl rfl rfl (by decide +kernel) ⟨Nat.le_of_ble_eq_true rfl, Nat.le_of_ble_eq_true rfl⟩) ⟨ct_blind, sg_rv X.1 hP 0 rfl rfl rfl, sg_pre X hP hD hS [0, 13, 8] (by decide) hC _⟩ rfl rfl hl.1 rfl (lv_room (Nat.le_of_ble_eq_true rfl)) dL_law_572 ⟨Nat.le_of_ble_eq_true rfl, Nat.le_of_ble_eq_true rfl⟩) hC rfl rfl rfl (fun H locs hP hD hS => ?_)
  clear hC
  refine lv_aload_n hx hb dL_law_575 rfl (lv_at hl 2 rfl) ?_
  refine lv_aload_n hx hb dL_law_576 rfl (lv_at hl 0 rfl) ?_
  refine lv_iload_n hx hb dL_law_577 rfl (lv_at hl 3 rfl) ?_
  refine lv_iconst (v := 1) hx hb dL_law_578 (by decide) ?_
  refine lv_iadd hx hb dL_law_579 ?_
  refine va_sld hx hb hX hbl hbA hS (lw_at 1 ex hi (by decide) hL) dL_law_580 ?_
  refine lv_aload_n hx hb dL_law_581 rfl (lv_at hl 0 rfl) ?_
  refine lv_iload_n hx hb dL_law_582 rfl (lv_at hl 3 rfl) ?_
  refine lv_iconst (v := 2) hx hb dL_law_583 (by decide) ?_
  refine lv_iadd hx hb dL_law_584 ?_
  refine va_sld hx hb hX hbl hbA hS (lw_at 2 ex hi (by decide) hL) dL_law_585 ?_
  refine lv_aload_n hx hb dL_law_586 rfl (lv_at hl 0 rfl) ?_
  refine lv_iload_n hx hb dL_law_587 rfl (lv_at hl 3 rfl) ?_
  refine lv_iconst (v := 3) hx hb dL_law_588 (by decide) ?_
  refine lv_iadd hx hb dL_law_589 ?_
  refine va_sld hx hb hX hbl hbA hS (lw_at 3 ex hi (by decide) hL) dL_law_590 ?_
  refine lv_aload_n hx hb dL_law_591 rfl (lv_at hl 0 rfl) ?_
  refine lv_iload_n hx hb dL_law_592 rfl (lv_at hl 3 rfl) ?_
  refine lv_iconst (v := 4) hx hb dL_law_593 (by decide) ?_
  refine lv_iadd hx hb dL_law_594 ?_
  refine va_sld hx hb hX hbl hbA hS (lw_at 4 ex hi (by decide) hL) dL_law_595 ?_
  have hC : ([16] : List Nat).map (fun i => ([cw_X11 E (q 0) (q 1 0) (q 2 0) (q 4 0) (q 6 0) (q 8 0) (q 9 0) (q 10 0) (q 11 0) (q 12 0) (q 13 0) (q 14 0) (q 15 0) (C 0), cw_X8 E (q 1) (C 1), cw_X4 E (q 2) (q 3 0), cw_X9 E (q 3) (C 3), cw_X0 E (q 4) (q 5 0), cw_X9 E (q 5) (C 5), cw_X5 E (q 6) (q 7 0) (C 6), cw_X9 E (q 7) (C 7), cw_X6 E (q 8) (C 8), cw_X2 E (q 9) (C 9), cw_X10 E (q 10) (C 10), cw_X3 E (q 11) (C 11), cw_X3 E (q 12) (C 12), cw_X7 E (q 13) (C 13), cw_X7 E (q 14) (C 14), cw_X7 E (q 15) (C 15), cw_X12 E (q 16) M])[i]?) = ([cw_X12 E (q 16) M] : List va_W).map some := rfl
  refine sg_i (gs' := [cw_X11 E (q 0) (q 1 0) (q 2 0) (q 4 0) (q 6 0) (q 8 0) (q 9 0) (q 10 0) (q 11 0) (q 12 0) (q 13 0) (q 14 0) (q 15 0) (C 0), cw_X8 E (q 1) (C 1), cw_X4 E (q 2) (q 3 0), cw_X9 E (q 3) (C 3), cw_X0 E (q 4) (q 5 0), cw_X9 E (q 5) (C 5), cw_X5 E (q 6) (q 7 0) (C 6), cw_X9 E (q 7) (C 7), cw_X6 E (q 8) (C 8), cw_X2 E (q 9) (C 9), cw_X10 E (q 10) (C 10), cw_X3 E (q 11) (C 11), cw_X3 E (q 12) (C 12), cw_X7 E (q 13) (C 13), cw_X7 E (q 14) (C 14), cw_X7 E (q 15) (C 15), cw_X12 E (q 16) M]) (gc := [cw_X12 E (q 16) M]) (g1 := [cw_X12 E (q 16) M]) X hP hD hS [16] (by decide) (va_runV (C := RX12) (As := [.int (xs (Int32.toNatClampNeg (x3 + 1))), .int (xs (Int32.toNatClampNeg (x3 + 2))), .int (xs (Int32.toNatClampNeg (x3 + 3))), .int (xs (Int32.toNatClampNeg (x3 + 4)))]) (rest := [.int u]) ⟨hx, hb, hml, hown, hg⟩ (c_X12_bearings l E (q 16) H.size M (xs (Int32.toNatClampNeg (x3 + 1))) (xs (Int32.toNatClampNeg (x3 + 2))) (xs (Int32.toNatClampNeg (x3 + 3))) (xs (Int32.toNatClampNeg (x3 + 4))) w hw) (cwV 4 hg (gwV wm_L_66 wi_X12_bearings wsl_X12_bearings wini_X12 wco_X12_bearings) rfl rfl rfl (by decide +kernel) ⟨Nat.le_of_ble_eq_true rfl, Nat.le_of_ble_eq_true rfl⟩) ⟨ct_blind, sg_rv X.1 hP 16 rfl rfl rfl, sg_pre X hP hD hS [16] (by decide) hC _⟩ rfl rfl hl.1 rfl (lv_room (Nat.le_of_ble_eq_true rfl)) dL_law_596 ⟨Nat.le_of_ble_eq_true rfl, Nat.le_of_ble_eq_true rfl⟩) hC rfl rfl rfl (fun H locs hP hD hS => ?_)
  clear hC
  refine lv_icmp_eq (tgt := 1109) hx hb dL_law_599 (by decide) (fun _ => ?_) (fun c9 => absurd euw c9)
  exact KK q C M H locs ls hI hP hD hS hl
set_option maxHeartbeats 4000000 in
set_option maxRecDepth 100000 in
theorem law_allTheSea {p : Program} {l : Launch} {e : Env} {s : State} {m : MethodId} {below : List Frame} {meth : Method} {c : Code} {E : Ec} {b L : Nat} {xs : Nat → Int32} {I : (Nat → Gr) → Gr → Prop} (hL : L ≤ 3072) (C0 : lw_At p s m meth c b L xs) (X : ctX E (fun q : Nat => s.heap.size ≤ q) s) (hp : hp_allTheSea I) {i : Nat} {x3 : Int32} (ex : x3 = nI i) (hi : i + 6 ≤ L) (q : Nat → Nat → Nat) (C : Nat → Gr) (M : Gr) (hI : I C M) (H : Heap) (locs : List Loc) (ls : Array Slot) (hP : sP E (gsL E q C M) H) (hD : sD (fun q : Nat => s.heap.size ≤ q) (gsL E q C M)) (hS : va_S (fun q : Nat => s.heap.size ≤ q) s.heap H locs) (hl : lv_has ls 4 [(0, .ref b), (1, .ref (q 0 0)), (2, .ref (q 16 0)), (3, .int x3)]) (KK : ∀ (q : Nat → Nat → Nat) (C : Nat → Gr) (M : Gr) (H : Heap) (locs : List Loc) (ls : Array Slot), I C M → sP E (gsL E q C M) H → sD (fun q : Nat => s.heap.size ≤ q) (gsL E q C M) → va_S (fun q : Nat => s.heap.size ≤ q) s.heap H locs → lv_has ls 4 [(0, .ref b), (1, .ref (q 0 0)), (2, .ref (q 16 0)), (3, .int x3)] → W p l e room_1 s m #[Value.ref b] below meth c H locs 600000 7302250 (lw_Z below #[Value.ref b] s) (F0 m 1109 ls [])) : W p l e room_1 s m #[Value.ref b] below meth c H locs 600000 7302250 (lw_Z below #[Value.ref b] s) (F0 m 604 ls []) := by
  obtain ⟨hx, hb, hr, hml, hown, hts, hX, hbl, hlocks, hgv⟩ := C0
  have hg : ∀ w ∈ gtbl, w.before #[Value.ref b] s = true := fun w h => hts w (gtbl_tbl h)
  have hbA : ¬ (fun q : Nat => s.heap.size ≤ q) b := Nat.not_le.mpr hbl
  obtain ⟨u, w, hu, hw, euw, hI⟩ := hp C M hI (xs (Int32.toNatClampNeg (x3 + 1))) (xs (Int32.toNatClampNeg (x3 + 2)))
  refine lv_aload_n hx hb dL_law_604 rfl (lv_at hl 1 rfl) ?_
  refine lv_aload_n hx hb dL_law_605 rfl (lv_at hl 0 rfl) ?_
  refine lv_iload_n hx hb dL_law_606 rfl (lv_at hl 3 rfl) ?_
  refine lv_iconst (v := 1) hx hb dL_law_607 (by decide) ?_
  refine lv_iadd hx hb dL_law_608 ?_
  refine va_sld hx hb hX hbl hbA hS (lw_at 1 ex hi (by decide) hL) dL_law_609 ?_
  refine lv_aload_n hx hb dL_law_610 rfl (lv_at hl 0 rfl) ?_
  refine lv_iload_n hx hb dL_law_611 rfl (lv_at hl 3 rfl) ?_
  refine lv_iconst (v := 2) hx hb dL_law_612 (by decide) ?_
  refine lv_iadd hx hb dL_law_613 ?_
  refine va_sld hx hb hX hbl hbA hS (lw_at 2 ex hi (by decide) hL) dL_law_614 ?_
  have hC : ([0, 8, 13] : List Nat).map (fun i => ([cw_X11 E (q 0) (q 1 0) (q 2 0) (q 4 0) (q 6 0) (q 8 0) (q 9 0) (q 10 0) (q 11 0) (q 12 0) (q 13 0) (q 14 0) (q 15 0) (C 0), cw_X8 E (q 1) (C 1), cw_X4 E (q 2) (q 3 0), cw_X9 E (q 3) (C 3), cw_X0 E (q 4) (q 5 0), cw_X9 E (q 5) (C 5), cw_X5 E (q 6) (q 7 0) (C 6), cw_X9 E (q 7) (C 7), cw_X6 E (q 8) (C 8), cw_X2 E (q 9) (C 9), cw_X10 E (q 10) (C 10), cw_X3 E (q 11) (C 11), cw_X3 E (q 12) (C 12), cw_X7 E (q 13) (C 13), cw_X7 E (q 14) (C 14), cw_X7 E (q 15) (C 15), cw_X12 E (q 16) M])[i]?) = ([cw_X11 E (q 0) (q 1 0) (q 2 0) (q 4 0) (q 6 0) (q 8 0) (q 9 0) (q 10 0) (q 11 0) (q 12 0) (q 13 0) (q 14 0) (q 15 0) (C 0), cw_X6 E (q 8) (C 8), cw_X7 E (q 13) (C 13)] : List va_W).map some := rfl
  refine sg_i (gs' := [cw_X11 E (q 0) (q 1 0) (q 2 0) (q 4 0) (q 6 0) (q 8 0) (q 9 0) (q 10 0) (q 11 0) (q 12 0) (q 13 0) (q 14 0) (q 15 0) (C 0), cw_X8 E (q 1) (C 1), cw_X4 E (q 2) (q 3 0), cw_X9 E (q 3) (C 3), cw_X0 E (q 4) (q 5 0), cw_X9 E (q 5) (C 5), cw_X5 E (q 6) (q 7 0) (C 6), cw_X9 E (q 7) (C 7), cw_X6 E (q 8) u.2, cw_X2 E (q 9) (C 9), cw_X10 E (q 10) (C 10), cw_X3 E (q 11) (C 11), cw_X3 E (q 12) (C 12), cw_X7 E (q 13) (C 13), cw_X7 E (q 14) (C 14), cw_X7 E (q 15) (C 15), cw_X12 E (q 16) M]) (gc := [cw_X11 E (q 0) (q 1 0) (q 2 0) (q 4 0) (q 6 0) (q 8 0) (q 9 0) (q 10 0) (q 11 0) (q 12 0) (q 13 0) (q 14 0) (q 15 0) (C 0), cw_X6 E (q 8) (C 8), cw_X7 E (q 13) (C 13)]) (g1 := [cw_X11 E (q 0) (q 1 0) (q 2 0) (q 4 0) (q 6 0) (q 8 0) (q 9 0) (q 10 0) (q 11 0) (q 12 0) (q 13 0) (q 14 0) (q 15 0) (C 0), cw_X6 E (q 8) u.2, cw_X7 E (q 13) (C 13)]) X hP hD hS [0, 8, 13] (by decide) (va_runV (C := RX11) (As := [.int (xs (Int32.toNatClampNeg (x3 + 1))), .int (xs (Int32.toNatClampNeg (x3 + 2)))]) (rest := []) ⟨hx, hb, hml, hown, hg⟩ (c_X11_allTheSea l E (q 0) (q 8) (q 13) (q 1 0) (q 2 0) (q 4 0) (q 6 0) (q 9 0) (q 10 0) (q 11 0) (q 12 0) (q 14 0) (q 15 0) H.size (C 0) (C 8) (C 13) (xs (Int32.toNatClampNeg (x3 + 1))) (xs (Int32.toNatClampNeg (x3 + 2))) u hu) (cwV 2 hg (gwV wm_L_67 wi_X11_allTheSea wsl_X11_allTheSea wini_X11 wco_X11_allTheSea) rfl rfl rfl (by decide +kernel) ⟨Nat.le_of_ble_eq_true rfl, Nat.le_of_ble_eq_true rfl⟩) ⟨ct_blind, sg_rv X.1 hP 0 rfl rfl rfl, sg_pre X hP hD hS [0, 8, 13] (by decide) hC _⟩ rfl rfl hl.1 rfl (lv_room (Nat.le_of_ble_eq_true rfl)) dL_law_615 ⟨Nat.le_of_ble_eq_true rfl, Nat.le_of_ble_eq_true rfl⟩) hC rfl rfl rfl (fun H locs hP hD hS => ?_)
  clear hC
  refine lv_aload_n hx hb dL_law_618 rfl (lv_at hl 2 rfl) ?_
  refine lv_aload_n hx hb dL_law_619 rfl (lv_at hl 0 rfl) ?_
  refine lv_iload_n hx hb dL_law_620 rfl (lv_at hl 3 rfl) ?_
  refine lv_iconst (v := 1) hx hb dL_law_621 (by decide) ?_
  refine lv_iadd hx hb dL_law_622 ?_
  refine va_sld hx hb hX hbl hbA hS (lw_at 1 ex hi (by decide) hL) dL_law_623 ?_
  refine lv_aload_n hx hb dL_law_624 rfl (lv_at hl 0 rfl) ?_
  refine lv_iload_n hx hb dL_law_625 rfl (lv_at hl 3 rfl) ?_
  refine lv_iconst (v := 2) hx hb dL_law_626 (by decide) ?_
  refine lv_iadd hx hb dL_law_627 ?_
  refine va_sld hx hb hX hbl hbA hS (lw_at 2 ex hi (by decide) hL) dL_law_628 ?_
  have hC : ([16] : List Nat).map (fun i => ([cw_X11 E (q 0) (q 1 0) (q 2 0) (q 4 0) (q 6 0) (q 8 0) (q 9 0) (q 10 0) (q 11 0) (q 12 0) (q 13 0) (q 14 0) (q 15 0) (C 0), cw_X8 E (q 1) (C 1), cw_X4 E (q 2) (q 3 0), cw_X9 E (q 3) (C 3), cw_X0 E (q 4) (q 5 0), cw_X9 E (q 5) (C 5), cw_X5 E (q 6) (q 7 0) (C 6), cw_X9 E (q 7) (C 7), cw_X6 E (q 8) u.2, cw_X2 E (q 9) (C 9), cw_X10 E (q 10) (C 10), cw_X3 E (q 11) (C 11), cw_X3 E (q 12) (C 12), cw_X7 E (q 13) (C 13), cw_X7 E (q 14) (C 14), cw_X7 E (q 15) (C 15), cw_X12 E (q 16) M])[i]?) = ([cw_X12 E (q 16) M] : List va_W).map some := rfl
  refine sg_i (gs' := [cw_X11 E (q 0) (q 1 0) (q 2 0) (q 4 0) (q 6 0) (q 8 0) (q 9 0) (q 10 0) (q 11 0) (q 12 0) (q 13 0) (q 14 0) (q 15 0) (C 0), cw_X8 E (q 1) (C 1), cw_X4 E (q 2) (q 3 0), cw_X9 E (q 3) (C 3), cw_X0 E (q 4) (q 5 0), cw_X9 E (q 5) (C 5), cw_X5 E (q 6) (q 7 0) (C 6), cw_X9 E (q 7) (C 7), cw_X6 E (q 8) u.2, cw_X2 E (q 9) (C 9), cw_X10 E (q 10) (C 10), cw_X3 E (q 11) (C 11), cw_X3 E (q 12) (C 12), cw_X7 E (q 13) (C 13), cw_X7 E (q 14) (C 14), cw_X7 E (q 15) (C 15), cw_X12 E (q 16) M]) (gc := [cw_X12 E (q 16) M]) (g1 := [cw_X12 E (q 16) M]) X hP hD hS [16] (by decide) (va_runV (C := RX12) (As := [.int (xs (Int32.toNatClampNeg (x3 + 1))), .int (xs (Int32.toNatClampNeg (x3 + 2)))]) (rest := [.int u.1]) ⟨hx, hb, hml, hown, hg⟩ (c_X12_allTheSea l E (q 16) H.size M (xs (Int32.toNatClampNeg (x3 + 1))) (xs (Int32.toNatClampNeg (x3 + 2))) w hw) (cwV 2 hg (gwV wm_L_70 wi_X12_allTheSea wsl_X12_allTheSea wini_X12 wco_X12_allTheSea) rfl rfl rfl (by decide +kernel) ⟨Nat.le_of_ble_eq_true rfl, Nat.le_of_ble_eq_true rfl⟩) ⟨ct_blind, sg_rv X.1 hP 16 rfl rfl rfl, sg_pre X hP hD hS [16] (by decide) hC _⟩ rfl rfl hl.1 rfl (lv_room (Nat.le_of_ble_eq_true rfl)) dL_law_629 ⟨Nat.le_of_ble_eq_true rfl, Nat.le_of_ble_eq_true rfl⟩) hC rfl rfl rfl (fun H locs hP hD hS => ?_)
  clear hC
  refine lv_icmp_eq (tgt := 1109) hx hb dL_law_632 (by decide) (fun _ => ?_) (fun c9 => absurd euw c9)
  exact KK q (va_up C 8 u.2) M H locs ls hI hP hD hS hl
set_option maxHeartbeats 4000000 in
set_option maxRecDepth 100000 in
theorem law_quiet {p : Program} {l : Launch} {e : Env} {s : State} {m : MethodId} {below : List Frame} {meth : Method} {c : Code} {E : Ec} {b L : Nat} {xs : Nat → Int32} {I : (Nat → Gr) → Gr → Prop} (hL : L ≤ 3072) (C0 : lw_At p s m meth c b L xs) (X : ctX E (fun q : Nat => s.heap.size ≤ q) s) (hp : hp_quiet I) {i : Nat} {x3 : Int32} (ex : x3 = nI i) (hi : i + 6 ≤ L) (q : Nat → Nat → Nat) (C : Nat → Gr) (M : Gr) (hI : I C M) (H : Heap) (locs : List Loc) (ls : Array Slot) (hP : sP E (gsL E q C M) H) (hD : sD (fun q : Nat => s.heap.size ≤ q) (gsL E q C M)) (hS : va_S (fun q : Nat => s.heap.size ≤ q) s.heap H locs) (hl : lv_has ls 4 [(0, .ref b), (1, .ref (q 0 0)), (2, .ref (q 16 0)), (3, .int x3)]) (KK : ∀ (q : Nat → Nat → Nat) (C : Nat → Gr) (M : Gr) (H : Heap) (locs : List Loc) (ls : Array Slot), I C M → sP E (gsL E q C M) H → sD (fun q : Nat => s.heap.size ≤ q) (gsL E q C M) → va_S (fun q : Nat => s.heap.size ≤ q) s.heap H locs → lv_has ls 4 [(0, .ref b), (1, .ref (q 0 0)), (2, .ref (q 16 0)), (3, .int x3)] → W p l e room_1 s m #[Value.ref b] below meth c H locs 600000 7302250 (lw_Z below #[Value.ref b] s) (F0 m 1109 ls [])) : W p l e room_1 s m #[Value.ref b] below meth c H locs 600000 7302250 (lw_Z below #[Value.ref b] s) (F0 m 637 ls []) := by
  obtain ⟨hx, hb, hr, hml, hown, hts, hX, hbl, hlocks, hgv⟩ := C0
  have hg : ∀ w ∈ gtbl, w.before #[Value.ref b] s = true := fun w h => hts w (gtbl_tbl h)
  have hbA : ¬ (fun q : Nat => s.heap.size ≤ q) b := Nat.not_le.mpr hbl
  obtain ⟨u, w, hu, hw, euw, hI⟩ := hp C M hI (xs (Int32.toNatClampNeg (x3 + 1))) (xs (Int32.toNatClampNeg (x3 + 2)))
  refine lv_aload_n hx hb dL_law_637 rfl (lv_at hl 1 rfl) ?_
  refine lv_aload_n hx hb dL_law_638 rfl (lv_at hl 0 rfl) ?_
  refine lv_iload_n hx hb dL_law_639 rfl (lv_at hl 3 rfl) ?_
  refine lv_iconst (v := 1) hx hb dL_law_640 (by decide) ?_
  refine lv_iadd hx hb dL_law_641 ?_
  refine va_sld hx hb hX hbl hbA hS (lw_at 1 ex hi (by decide) hL) dL_law_642 ?_
  refine lv_aload_n hx hb dL_law_643 rfl (lv_at hl 0 rfl) ?_
  refine lv_iload_n hx hb dL_law_644 rfl (lv_at hl 3 rfl) ?_
  refine lv_iconst (v := 2) hx hb dL_law_645 (by decide) ?_
  refine lv_iadd hx hb dL_law_646 ?_
  refine va_sld hx hb hX hbl hbA hS (lw_at 2 ex hi (by decide) hL) dL_law_647 ?_
  have hC : ([0, 8, 13] : List Nat).map (fun i => ([cw_X11 E (q 0) (q 1 0) (q 2 0) (q 4 0) (q 6 0) (q 8 0) (q 9 0) (q 10 0) (q 11 0) (q 12 0) (q 13 0) (q 14 0) (q 15 0) (C 0), cw_X8 E (q 1) (C 1), cw_X4 E (q 2) (q 3 0), cw_X9 E (q 3) (C 3), cw_X0 E (q 4) (q 5 0), cw_X9 E (q 5) (C 5), cw_X5 E (q 6) (q 7 0) (C 6), cw_X9 E (q 7) (C 7), cw_X6 E (q 8) (C 8), cw_X2 E (q 9) (C 9), cw_X10 E (q 10) (C 10), cw_X3 E (q 11) (C 11), cw_X3 E (q 12) (C 12), cw_X7 E (q 13) (C 13), cw_X7 E (q 14) (C 14), cw_X7 E (q 15) (C 15), cw_X12 E (q 16) M])[i]?) = ([cw_X11 E (q 0) (q 1 0) (q 2 0) (q 4 0) (q 6 0) (q 8 0) (q 9 0) (q 10 0) (q 11 0) (q 12 0) (q 13 0) (q 14 0) (q 15 0) (C 0), cw_X6 E (q 8) (C 8), cw_X7 E (q 13) (C 13)] : List va_W).map some := rfl
  refine sg_i (gs' := [cw_X11 E (q 0) (q 1 0) (q 2 0) (q 4 0) (q 6 0) (q 8 0) (q 9 0) (q 10 0) (q 11 0) (q 12 0) (q 13 0) (q 14 0) (q 15 0) (C 0), cw_X8 E (q 1) (C 1), cw_X4 E (q 2) (q 3 0), cw_X9 E (q 3) (C 3), cw_X0 E (q 4) (q 5 0), cw_X9 E (q 5) (C 5), cw_X5 E (q 6) (q 7 0) (C 6), cw_X9 E (q 7) (C 7), cw_X6 E (q 8) (C 8), cw_X2 E (q 9) (C 9), cw_X10 E (q 10) (C 10), cw_X3 E (q 11) (C 11), cw_X3 E (q 12) (C 12), cw_X7 E (q 13) (C 13), cw_X7 E (q 14) (C 14), cw_X7 E (q 15) (C 15), cw_X12 E (q 16) M]) (gc := [cw_X11 E (q 0) (q 1 0) (q 2 0) (q 4 0) (q 6 0) (q 8 0) (q 9 0) (q 10 0) (q 11 0) (q 12 0) (q 13 0) (q 14 0) (q 15 0) (C 0), cw_X6 E (q 8) (C 8), cw_X7 E (q 13) (C 13)]) (g1 := [cw_X11 E (q 0) (q 1 0) (q 2 0) (q 4 0) (q 6 0) (q 8 0) (q 9 0) (q 10 0) (q 11 0) (q 12 0) (q 13 0) (q 14 0) (q 15 0) (C 0), cw_X6 E (q 8) (C 8), cw_X7 E (q 13) (C 13)]) X hP hD hS [0, 8, 13] (by decide) (va_runV (C := RX11) (As := [.int (xs (Int32.toNatClampNeg (x3 + 1))), .int (xs (Int32.toNatClampNeg (x3 + 2)))]) (rest := []) ⟨hx, hb, hml, hown, hg⟩ (c_X11_quiet l E (q 0) (q 8) (q 13) (q 1 0) (q 2 0) (q 4 0) (q 6 0) (q 9 0) (q 10 0) (q 11 0) (q 12 0) (q 14 0) (q 15 0) H.size (C 0) (C 8) (C 13) (xs (Int32.toNatClampNeg (x3 + 1))) (xs (Int32.toNatClampNeg (x3 + 2))) u hu) (cwV 2 hg (gwV wm_L_71 wi_X11_quiet wsl_X11_quiet wini_X11 wco_X11_quiet) rfl rfl rfl (by decide +kernel) ⟨Nat.le_of_ble_eq_true rfl, Nat.le_of_ble_eq_true rfl⟩) ⟨ct_blind, sg_rv X.1 hP 0 rfl rfl rfl, sg_pre X hP hD hS [0, 8, 13] (by decide) hC _⟩ rfl rfl hl.1 rfl (lv_room (Nat.le_of_ble_eq_true rfl)) dL_law_648 ⟨Nat.le_of_ble_eq_true rfl, Nat.le_of_ble_eq_true rfl⟩) hC rfl rfl rfl (fun H locs hP hD hS => ?_)
  clear hC
  refine lv_aload_n hx hb dL_law_651 rfl (lv_at hl 2 rfl) ?_
  refine lv_aload_n hx hb dL_law_652 rfl (lv_at hl 0 rfl) ?_
  refine lv_iload_n hx hb dL_law_653 rfl (lv_at hl 3 rfl) ?_
  refine lv_iconst (v := 1) hx hb dL_law_654 (by decide) ?_
  refine lv_iadd hx hb dL_law_655 ?_
  refine va_sld hx hb hX hbl hbA hS (lw_at 1 ex hi (by decide) hL) dL_law_656 ?_
  refine lv_aload_n hx hb dL_law_657 rfl (lv_at hl 0 rfl) ?_
  refine lv_iload_n hx hb dL_law_658 rfl (lv_at hl 3 rfl) ?_
  refine lv_iconst (v := 2) hx hb dL_law_659 (by decide) ?_
  refine lv_iadd hx hb dL_law_660 ?_
  refine va_sld hx hb hX hbl hbA hS (lw_at 2 ex hi (by decide) hL) dL_law_661 ?_
  have hC : ([16] : List Nat).map (fun i => ([cw_X11 E (q 0) (q 1 0) (q 2 0) (q 4 0) (q 6 0) (q 8 0) (q 9 0) (q 10 0) (q 11 0) (q 12 0) (q 13 0) (q 14 0) (q 15 0) (C 0), cw_X8 E (q 1) (C 1), cw_X4 E (q 2) (q 3 0), cw_X9 E (q 3) (C 3), cw_X0 E (q 4) (q 5 0), cw_X9 E (q 5) (C 5), cw_X5 E (q 6) (q 7 0) (C 6), cw_X9 E (q 7) (C 7), cw_X6 E (q 8) (C 8), cw_X2 E (q 9) (C 9), cw_X10 E (q 10) (C 10), cw_X3 E (q 11) (C 11), cw_X3 E (q 12) (C 12), cw_X7 E (q 13) (C 13), cw_X7 E (q 14) (C 14), cw_X7 E (q 15) (C 15), cw_X12 E (q 16) M])[i]?) = ([cw_X12 E (q 16) M] : List va_W).map some := rfl
  refine sg_i (gs' := [cw_X11 E (q 0) (q 1 0) (q 2 0) (q 4 0) (q 6 0) (q 8 0) (q 9 0) (q 10 0) (q 11 0) (q 12 0) (q 13 0) (q 14 0) (q 15 0) (C 0), cw_X8 E (q 1) (C 1), cw_X4 E (q 2) (q 3 0), cw_X9 E (q 3) (C 3), cw_X0 E (q 4) (q 5 0), cw_X9 E (q 5) (C 5), cw_X5 E (q 6) (q 7 0) (C 6), cw_X9 E (q 7) (C 7), cw_X6 E (q 8) (C 8), cw_X2 E (q 9) (C 9), cw_X10 E (q 10) (C 10), cw_X3 E (q 11) (C 11), cw_X3 E (q 12) (C 12), cw_X7 E (q 13) (C 13), cw_X7 E (q 14) (C 14), cw_X7 E (q 15) (C 15), cw_X12 E (q 16) M]) (gc := [cw_X12 E (q 16) M]) (g1 := [cw_X12 E (q 16) M]) X hP hD hS [16] (by decide) (va_runV (C := RX12) (As := [.int (xs (Int32.toNatClampNeg (x3 + 1))), .int (xs (Int32.toNatClampNeg (x3 + 2)))]) (rest := [.int u]) ⟨hx, hb, hml, hown, hg⟩ (c_X12_quiet l E (q 16) H.size M (xs (Int32.toNatClampNeg (x3 + 1))) (xs (Int32.toNatClampNeg (x3 + 2))) w hw) (cwV 2 hg (gwV wm_L_74 wi_X12_quiet wsl_X12_quiet wini_X12 wco_X12_quiet) rfl rfl rfl (by decide +kernel) ⟨Nat.le_of_ble_eq_true rfl, Nat.le_of_ble_eq_true rfl⟩) ⟨ct_blind, sg_rv X.1 hP 16 rfl rfl rfl, sg_pre X hP hD hS [16] (by decide) hC _⟩ rfl rfl hl.1 rfl (lv_room (Nat.le_of_ble_eq_true rfl)) dL_law_662 ⟨Nat.le_of_ble_eq_true rfl, Nat.le_of_ble_eq_true rfl⟩) hC rfl rfl rfl (fun H locs hP hD hS => ?_)
  clear hC
  refine lv_icmp_eq (tgt := 1109) hx hb dL_law_665 (by decide) (fun _ => ?_) (fun c9 => absurd euw c9)
  exact KK q C M H locs ls hI hP hD hS hl
set_option maxHeartbeats 4000000 in
set_option maxRecDepth 100000 in
theorem law_nearest {p : Program} {l : Launch} {e : Env} {s : State} {m : MethodId} {below : List Frame} {meth : Method} {c : Code} {E : Ec} {b L : Nat} {xs : Nat → Int32} {I : (Nat → Gr) → Gr → Prop} (hL : L ≤ 3072) (C0 : lw_At p s m meth c b L xs) (X : ctX E (fun q : Nat => s.heap.size ≤ q) s) (hp : hp_nearest I) {i : Nat} {x3 : Int32} (ex : x3 = nI i) (hi : i + 6 ≤ L) (q : Nat → Nat → Nat) (C : Nat → Gr) (M : Gr) (hI : I C M) (H : Heap) (locs : List Loc) (ls : Array Slot) (hP : sP E (gsL E q C M) H) (hD : sD (fun q : Nat => s.heap.size ≤ q) (gsL E q C M)) (hS : va_S (fun q : Nat => s.heap.size ≤ q) s.heap H locs) (hl : lv_has ls 4 [(0, .ref b), (1, .ref (q 0 0)), (2, .ref (q 16 0)), (3, .int x3)]) (KK : ∀ (q : Nat → Nat → Nat) (C : Nat → Gr) (M : Gr) (H : Heap) (locs : List Loc) (ls : Array Slot), I C M → sP E (gsL E q C M) H → sD (fun q : Nat => s.heap.size ≤ q) (gsL E q C M) → va_S (fun q : Nat => s.heap.size ≤ q) s.heap H locs → lv_has ls 4 [(0, .ref b), (1, .ref (q 0 0)), (2, .ref (q 16 0)), (3, .int x3)] → W p l e room_1 s m #[Value.ref b] below meth c H locs 600000 7302250 (lw_Z below #[Value.ref b] s) (F0 m 1109 ls [])) : W p l e room_1 s m #[Value.ref b] below meth c H locs 600000 7302250 (lw_Z below #[Value.ref b] s) (F0 m 670 ls []) := by
  obtain ⟨hx, hb, hr, hml, hown, hts, hX, hbl, hlocks, hgv⟩ := C0
  have hg : ∀ w ∈ gtbl, w.before #[Value.ref b] s = true := fun w h => hts w (gtbl_tbl h)
  have hbA : ¬ (fun q : Nat => s.heap.size ≤ q) b := Nat.not_le.mpr hbl
  obtain ⟨u, w, hu, hw, euw, hI⟩ := hp C M hI (xs (Int32.toNatClampNeg (x3 + 1))) (xs (Int32.toNatClampNeg (x3 + 2)))
  refine lv_aload_n hx hb dL_law_670 rfl (lv_at hl 1 rfl) ?_
  refine lv_aload_n hx hb dL_law_671 rfl (lv_at hl 0 rfl) ?_
  refine lv_iload_n hx hb dL_law_672 rfl (lv_at hl 3 rfl) ?_
  refine lv_iconst (v := 1) hx hb dL_law_673 (by decide) ?_
  refine lv_iadd hx hb dL_law_674 ?_
  refine va_sld hx hb hX hbl hbA hS (lw_at 1 ex hi (by decide) hL) dL_law_675 ?_
  refine lv_aload_n hx hb dL_law_676 rfl (lv_at hl 0 rfl) ?_
  refine lv_iload_n hx hb dL_law_677 rfl (lv_at hl 3 rfl) ?_
  refine lv_iconst (v := 2) hx hb dL_law_678 (by decide) ?_
  refine lv_iadd hx hb dL_law_679 ?_
  refine va_sld hx hb hX hbl hbA hS (lw_at 2 ex hi (by decide) hL) dL_law_680 ?_
  have hC : ([0, 8, 13] : List Nat).map (fun i => ([cw_X11 E (q 0) (q 1 0) (q 2 0) (q 4 0) (q 6 0) (q 8 0) (q 9 0) (q 10 0) (q 11 0) (q 12 0) (q 13 0) (q 14 0) (q 15 0) (C 0), cw_X8 E (q 1) (C 1), cw_X4 E (q 2) (q 3 0), cw_X9 E (q 3) (C 3), cw_X0 E (q 4) (q 5 0), cw_X9 E (q 5) (C 5), cw_X5 E (q 6) (q 7 0) (C 6), cw_X9 E (q 7) (C 7), cw_X6 E (q 8) (C 8), cw_X2 E (q 9) (C 9), cw_X10 E (q 10) (C 10), cw_X3 E (q 11) (C 11), cw_X3 E (q 12) (C 12), cw_X7 E (q 13) (C 13), cw_X7 E (q 14) (C 14), cw_X7 E (q 15) (C 15), cw_X12 E (q 16) M])[i]?) = ([cw_X11 E (q 0) (q 1 0) (q 2 0) (q 4 0) (q 6 0) (q 8 0) (q 9 0) (q 10 0) (q 11 0) (q 12 0) (q 13 0) (q 14 0) (q 15 0) (C 0), cw_X6 E (q 8) (C 8), cw_X7 E (q 13) (C 13)] : List va_W).map some := rfl
  refine sg_i (gs' := [cw_X11 E (q 0) (q 1 0) (q 2 0) (q 4 0) (q 6 0) (q 8 0) (q 9 0) (q 10 0) (q 11 0) (q 12 0) (q 13 0) (q 14 0) (q 15 0) (C 0), cw_X8 E (q 1) (C 1), cw_X4 E (q 2) (q 3 0), cw_X9 E (q 3) (C 3), cw_X0 E (q 4) (q 5 0), cw_X9 E (q 5) (C 5), cw_X5 E (q 6) (q 7 0) (C 6), cw_X9 E (q 7) (C 7), cw_X6 E (q 8) (C 8), cw_X2 E (q 9) (C 9), cw_X10 E (q 10) (C 10), cw_X3 E (q 11) (C 11), cw_X3 E (q 12) (C 12), cw_X7 E (q 13) (C 13), cw_X7 E (q 14) (C 14), cw_X7 E (q 15) (C 15), cw_X12 E (q 16) M]) (gc := [cw_X11 E (q 0) (q 1 0) (q 2 0) (q 4 0) (q 6 0) (q 8 0) (q 9 0) (q 10 0) (q 11 0) (q 12 0) (q 13 0) (q 14 0) (q 15 0) (C 0), cw_X6 E (q 8) (C 8), cw_X7 E (q 13) (C 13)]) (g1 := [cw_X11 E (q 0) (q 1 0) (q 2 0) (q 4 0) (q 6 0) (q 8 0) (q 9 0) (q 10 0) (q 11 0) (q 12 0) (q 13 0) (q 14 0) (q 15 0) (C 0), cw_X6 E (q 8) (C 8), cw_X7 E (q 13) (C 13)]) X hP hD hS [0, 8, 13] (by decide) (va_runV (C := RX11) (As := [.int (xs (Int32.toNatClampNeg (x3 + 1))), .int (xs (Int32.toNatClampNeg (x3 + 2)))]) (rest := []) ⟨hx, hb, hml, hown, hg⟩ (c_X11_nearest l E (q 0) (q 8) (q 13) (q 1 0) (q 2 0) (q 4 0) (q 6 0) (q 9 0) (q 10 0) (q 11 0) (q 12 0) (q 14 0) (q 15 0) H.size (C 0) (C 8) (C 13) (xs (Int32.toNatClampNeg (x3 + 1))) (xs (Int32.toNatClampNeg (x3 + 2))) u hu) (cwV 2 hg (gwV wm_L_75 wi_X11_nearest wsl_X11_nearest wini_X11 wco_X11_nearest) rfl rfl rfl (by decide +kernel) ⟨Nat.le_of_ble_eq_true rfl, Nat.le_of_ble_eq_true rfl⟩) ⟨ct_blind, sg_rv X.1 hP 0 rfl rfl rfl, sg_pre X hP hD hS [0, 8, 13] (by decide) hC _⟩ rfl rfl hl.1 rfl (lv_room (Nat.le_of_ble_eq_true rfl)) dL_law_681 ⟨Nat.le_of_ble_eq_true rfl, Nat.le_of_ble_eq_true rfl⟩) hC rfl rfl rfl (fun H locs hP hD hS => ?_)
  clear hC
  refine lv_aload_n hx hb dL_law_684 rfl (lv_at hl 2 rfl) ?_
  refine lv_aload_n hx hb dL_law_685 rfl (lv_at hl 0 rfl) ?_
  refine lv_iload_n hx hb dL_law_686 rfl (lv_at hl 3 rfl) ?_
  refine lv_iconst (v := 1) hx hb dL_law_687 (by decide) ?_
  refine lv_iadd hx hb dL_law_688 ?_
  refine va_sld hx hb hX hbl hbA hS (lw_at 1 ex hi (by decide) hL) dL_law_689 ?_
  refine lv_aload_n hx hb dL_law_690 rfl (lv_at hl 0 rfl) ?_
  refine lv_iload_n hx hb dL_law_691 rfl (lv_at hl 3 rfl) ?_
  refine lv_iconst (v := 2) hx hb dL_law_692 (by decide) ?_
  refine lv_iadd hx hb dL_law_693 ?_
  refine va_sld hx hb hX hbl hbA hS (lw_at 2 ex hi (by decide) hL) dL_law_694 ?_
  have hC : ([16] : List Nat).map (fun i => ([cw_X11 E (q 0) (q 1 0) (q 2 0) (q 4 0) (q 6 0) (q 8 0) (q 9 0) (q 10 0) (q 11 0) (q 12 0) (q 13 0) (q 14 0) (q 15 0) (C 0), cw_X8 E (q 1) (C 1), cw_X4 E (q 2) (q 3 0), cw_X9 E (q 3) (C 3), cw_X0 E (q 4) (q 5 0), cw_X9 E (q 5) (C 5), cw_X5 E (q 6) (q 7 0) (C 6), cw_X9 E (q 7) (C 7), cw_X6 E (q 8) (C 8), cw_X2 E (q 9) (C 9), cw_X10 E (q 10) (C 10), cw_X3 E (q 11) (C 11), cw_X3 E (q 12) (C 12), cw_X7 E (q 13) (C 13), cw_X7 E (q 14) (C 14), cw_X7 E (q 15) (C 15), cw_X12 E (q 16) M])[i]?) = ([cw_X12 E (q 16) M] : List va_W).map some := rfl
  refine sg_i (gs' := [cw_X11 E (q 0) (q 1 0) (q 2 0) (q 4 0) (q 6 0) (q 8 0) (q 9 0) (q 10 0) (q 11 0) (q 12 0) (q 13 0) (q 14 0) (q 15 0) (C 0), cw_X8 E (q 1) (C 1), cw_X4 E (q 2) (q 3 0), cw_X9 E (q 3) (C 3), cw_X0 E (q 4) (q 5 0), cw_X9 E (q 5) (C 5), cw_X5 E (q 6) (q 7 0) (C 6), cw_X9 E (q 7) (C 7), cw_X6 E (q 8) (C 8), cw_X2 E (q 9) (C 9), cw_X10 E (q 10) (C 10), cw_X3 E (q 11) (C 11), cw_X3 E (q 12) (C 12), cw_X7 E (q 13) (C 13), cw_X7 E (q 14) (C 14), cw_X7 E (q 15) (C 15), cw_X12 E (q 16) M]) (gc := [cw_X12 E (q 16) M]) (g1 := [cw_X12 E (q 16) M]) X hP hD hS [16] (by decide) (va_runV (C := RX12) (As := [.int (xs (Int32.toNatClampNeg (x3 + 1))), .int (xs (Int32.toNatClampNeg (x3 + 2)))]) (rest := [.int u]) ⟨hx, hb, hml, hown, hg⟩ (c_X12_nearest l E (q 16) H.size M (xs (Int32.toNatClampNeg (x3 + 1))) (xs (Int32.toNatClampNeg (x3 + 2))) w hw) (cwV 2 hg (gwV wm_L_78 wi_X12_nearest wsl_X12_nearest wini_X12 wco_X12_nearest) rfl rfl rfl (by decide +kernel) ⟨Nat.le_of_ble_eq_true rfl, Nat.le_of_ble_eq_true rfl⟩) ⟨ct_blind, sg_rv X.1 hP 16 rfl rfl rfl, sg_pre X hP hD hS [16] (by decide) hC _⟩ rfl rfl hl.1 rfl (lv_room (Nat.le_of_ble_eq_true rfl)) dL_law_695 ⟨Nat.le_of_ble_eq_true rfl, Nat.le_of_ble_eq_true rfl⟩) hC rfl rfl rfl (fun H locs hP hD hS => ?_)
  clear hC
  refine lv_icmp_eq (tgt := 1109) hx hb dL_law_698 (by decide) (fun _ => ?_) (fun c9 => absurd euw c9)
  exact KK q C M H locs ls hI hP hD hS hl
set_option maxHeartbeats 4000000 in
set_option maxRecDepth 100000 in
theorem law_share {p : Program} {l : Launch} {e : Env} {s : State} {m : MethodId} {below : List Frame} {meth : Method} {c : Code} {E : Ec} {b L : Nat} {xs : Nat → Int32} {I : (Nat → Gr) → Gr → Prop} (hL : L ≤ 3072) (C0 : lw_At p s m meth c b L xs) (X : ctX E (fun q : Nat => s.heap.size ≤ q) s) (hp : hp_share I) {i : Nat} {x3 : Int32} (ex : x3 = nI i) (hi : i + 6 ≤ L) (q : Nat → Nat → Nat) (C : Nat → Gr) (M : Gr) (hI : I C M) (H : Heap) (locs : List Loc) (ls : Array Slot) (hP : sP E (gsL E q C M) H) (hD : sD (fun q : Nat => s.heap.size ≤ q) (gsL E q C M)) (hS : va_S (fun q : Nat => s.heap.size ≤ q) s.heap H locs) (hl : lv_has ls 4 [(0, .ref b), (1, .ref (q 0 0)), (2, .ref (q 16 0)), (3, .int x3)]) (KK : ∀ (q : Nat → Nat → Nat) (C : Nat → Gr) (M : Gr) (H : Heap) (locs : List Loc) (ls : Array Slot), I C M → sP E (gsL E q C M) H → sD (fun q : Nat => s.heap.size ≤ q) (gsL E q C M) → va_S (fun q : Nat => s.heap.size ≤ q) s.heap H locs → lv_has ls 4 [(0, .ref b), (1, .ref (q 0 0)), (2, .ref (q 16 0)), (3, .int x3)] → W p l e room_1 s m #[Value.ref b] below meth c H locs 600000 7302250 (lw_Z below #[Value.ref b] s) (F0 m 1109 ls [])) : W p l e room_1 s m #[Value.ref b] below meth c H locs 600000 7302250 (lw_Z below #[Value.ref b] s) (F0 m 703 ls []) := by
  obtain ⟨hx, hb, hr, hml, hown, hts, hX, hbl, hlocks, hgv⟩ := C0
  have hg : ∀ w ∈ gtbl, w.before #[Value.ref b] s = true := fun w h => hts w (gtbl_tbl h)
  have hbA : ¬ (fun q : Nat => s.heap.size ≤ q) b := Nat.not_le.mpr hbl
  obtain ⟨u, w, hu, hw, euw, hI⟩ := hp C M hI (xs (Int32.toNatClampNeg (x3 + 1)))
  refine lv_aload_n hx hb dL_law_703 rfl (lv_at hl 1 rfl) ?_
  refine lv_aload_n hx hb dL_law_704 rfl (lv_at hl 0 rfl) ?_
  refine lv_iload_n hx hb dL_law_705 rfl (lv_at hl 3 rfl) ?_
  refine lv_iconst (v := 1) hx hb dL_law_706 (by decide) ?_
  refine lv_iadd hx hb dL_law_707 ?_
  refine va_sld hx hb hX hbl hbA hS (lw_at 1 ex hi (by decide) hL) dL_law_708 ?_
  have hC : ([0, 13, 8] : List Nat).map (fun i => ([cw_X11 E (q 0) (q 1 0) (q 2 0) (q 4 0) (q 6 0) (q 8 0) (q 9 0) (q 10 0) (q 11 0) (q 12 0) (q 13 0) (q 14 0) (q 15 0) (C 0), cw_X8 E (q 1) (C 1), cw_X4 E (q 2) (q 3 0), cw_X9 E (q 3) (C 3), cw_X0 E (q 4) (q 5 0), cw_X9 E (q 5) (C 5), cw_X5 E (q 6) (q 7 0) (C 6), cw_X9 E (q 7) (C 7), cw_X6 E (q 8) (C 8), cw_X2 E (q 9) (C 9), cw_X10 E (q 10) (C 10), cw_X3 E (q 11) (C 11), cw_X3 E (q 12) (C 12), cw_X7 E (q 13) (C 13), cw_X7 E (q 14) (C 14), cw_X7 E (q 15) (C 15), cw_X12 E (q 16) M])[i]?) = ([cw_X11 E (q 0) (q 1 0) (q 2 0) (q 4 0) (q 6 0) (q 8 0) (q 9 0) (q 10 0) (q 11 0) (q 12 0) (q 13 0) (q 14 0) (q 15 0) (C 0), cw_X7 E (q 13) (C 13), cw_X6 E (q 8) (C 8)] : List va_W).map some := rfl
  refine sg_i (gs' := [cw_X11 E (q 0) (q 1 0) (q 2 0) (q 4 0) (q 6 0) (q 8 0) (q 9 0) (q 10 0) (q 11 0) (q 12 0) (q 13 0) (q 14 0) (q 15 0) (C 0), cw_X8 E (q 1) (C 1), cw_X4 E (q 2) (q 3 0), cw_X9 E (q 3) (C 3), cw_X0 E (q 4) (q 5 0), cw_X9 E (q 5) (C 5), cw_X5 E (q 6) (q 7 0) (C 6), cw_X9 E (q 7) (C 7), cw_X6 E (q 8) (C 8), cw_X2 E (q 9) (C 9), cw_X10 E (q 10) (C 10), cw_X3 E (q 11) (C 11), cw_X3 E (q 12) (C 12), cw_X7 E (q 13) (C 13), cw_X7 E (q 14) (C 14), cw_X7 E (q 15) (C 15), cw_X12 E (q 16) M]) (gc := [cw_X11 E (q 0) (q 1 0) (q 2 0) (q 4 0) (q 6 0) (q 8 0) (q 9 0) (q 10 0) (q 11 0) (q 12 0) (q 13 0) (q 14 0) (q 15 0) (C 0), cw_X7 E (q 13) (C 13), cw_X6 E (q 8) (C 8)]) (g1 := [cw_X11 E (q 0) (q 1 0) (q 2 0) (q 4 0) (q 6 0) (q 8 0) (q 9 0) (q 10 0) (q 11 0) (q 12 0) (q 13 0) (q 14 0) (q 15 0) (C 0), cw_X7 E (q 13) (C 13), cw_X6 E (q 8) (C 8)]) X hP hD hS [0, 13, 8] (by decide) (va_runV (C := RX11) (As := [.int (xs (Int32.toNatClampNeg (x3 + 1)))]) (rest := []) ⟨hx, hb, hml, hown, hg⟩ (c_X11_share l E (q 0) (q 13) (q 8) (q 1 0) (q 2 0) (q 4 0) (q 6 0) (q 9 0) (q 10 0) (q 11 0) (q 12 0) (q 14 0) (q 15 0) H.size (C 0) (C 13) (C 8) (xs (Int32.toNatClampNeg (x3 + 1))) u hu) (cwV 1 hg (gwV wm_L_79 wi_X11_share wsl_X11_share wini_X11 wco_X11_share) rfl rfl rfl (by decide +kernel) ⟨Nat.le_of_ble_eq_true rfl, Nat.le_of_ble_eq_true rfl⟩) ⟨ct_blind, sg_rv X.1 hP 0 rfl rfl rfl, sg_pre X hP hD hS [0, 13, 8] (by decide) hC _⟩ rfl rfl hl.1 rfl (lv_room (Nat.le_of_ble_eq_true rfl)) dL_law_709 ⟨Nat.le_of_ble_eq_true rfl, Nat.le_of_ble_eq_true rfl⟩) hC rfl rfl rfl (fun H locs hP hD hS => ?_)
  clear hC
  refine lv_aload_n hx hb dL_law_712 rfl (lv_at hl 2 rfl) ?_
  refine lv_aload_n hx hb dL_law_713 rfl (lv_at hl 0 rfl) ?_
  refine lv_iload_n hx hb dL_law_714 rfl (lv_at hl 3 rfl) ?_
  refine lv_iconst (v := 1) hx hb dL_law_715 (by decide) ?_
  refine lv_iadd hx hb dL_law_716 ?_
  refine va_sld hx hb hX hbl hbA hS (lw_at 1 ex hi (by decide) hL) dL_law_717 ?_
  have hC : ([16] : List Nat).map (fun i => ([cw_X11 E (q 0) (q 1 0) (q 2 0) (q 4 0) (q 6 0) (q 8 0) (q 9 0) (q 10 0) (q 11 0) (q 12 0) (q 13 0) (q 14 0) (q 15 0) (C 0), cw_X8 E (q 1) (C 1), cw_X4 E (q 2) (q 3 0), cw_X9 E (q 3) (C 3), cw_X0 E (q 4) (q 5 0), cw_X9 E (q 5) (C 5), cw_X5 E (q 6) (q 7 0) (C 6), cw_X9 E (q 7) (C 7), cw_X6 E (q 8) (C 8), cw_X2 E (q 9) (C 9), cw_X10 E (q 10) (C 10), cw_X3 E (q 11) (C 11), cw_X3 E (q 12) (C 12), cw_X7 E (q 13) (C 13), cw_X7 E (q 14) (C 14), cw_X7 E (q 15) (C 15), cw_X12 E (q 16) M])[i]?) = ([cw_X12 E (q 16) M] : List va_W).map some := rfl
  refine sg_i (gs' := [cw_X11 E (q 0) (q 1 0) (q 2 0) (q 4 0) (q 6 0) (q 8 0) (q 9 0) (q 10 0) (q 11 0) (q 12 0) (q 13 0) (q 14 0) (q 15 0) (C 0), cw_X8 E (q 1) (C 1), cw_X4 E (q 2) (q 3 0), cw_X9 E (q 3) (C 3), cw_X0 E (q 4) (q 5 0), cw_X9 E (q 5) (C 5), cw_X5 E (q 6) (q 7 0) (C 6), cw_X9 E (q 7) (C 7), cw_X6 E (q 8) (C 8), cw_X2 E (q 9) (C 9), cw_X10 E (q 10) (C 10), cw_X3 E (q 11) (C 11), cw_X3 E (q 12) (C 12), cw_X7 E (q 13) (C 13), cw_X7 E (q 14) (C 14), cw_X7 E (q 15) (C 15), cw_X12 E (q 16) M]) (gc := [cw_X12 E (q 16) M]) (g1 := [cw_X12 E (q 16) M]) X hP hD hS [16] (by decide) (va_runV (C := RX12) (As := [.int (xs (Int32.toNatClampNeg (x3 + 1)))]) (rest := [.int u]) ⟨hx, hb, hml, hown, hg⟩ (c_X12_share l E (q 16) H.size M (xs (Int32.toNatClampNeg (x3 + 1))) w hw) (cwV 1 hg (gwV wm_L_82 wi_X12_share wsl_X12_share wini_X12 wco_X12_share) rfl rfl rfl (by decide +kernel) ⟨Nat.le_of_ble_eq_true rfl, Nat.le_of_ble_eq_true rfl⟩) ⟨ct_blind, sg_rv X.1 hP 16 rfl rfl rfl, sg_pre X hP hD hS [16] (by decide) hC _⟩ rfl rfl hl.1 rfl (lv_room (Nat.le_of_ble_eq_true rfl)) dL_law_718 ⟨Nat.le_of_ble_eq_true rfl, Nat.le_of_ble_eq_true rfl⟩) hC rfl rfl rfl (fun H locs hP hD hS => ?_)
  clear hC
  refine lv_icmp_eq (tgt := 1109) hx hb dL_law_721 (by decide) (fun _ => ?_) (fun c9 => absurd euw c9)
  exact KK q C M H locs ls hI hP hD hS hl
set_option maxHeartbeats 4000000 in
set_option maxRecDepth 100000 in
theorem law_log {p : Program} {l : Launch} {e : Env} {s : State} {m : MethodId} {below : List Frame} {meth : Method} {c : Code} {E : Ec} {b L : Nat} {xs : Nat → Int32} {I : (Nat → Gr) → Gr → Prop} (hL : L ≤ 3072) (C0 : lw_At p s m meth c b L xs) (X : ctX E (fun q : Nat => s.heap.size ≤ q) s) (hp : hp_log I) {i : Nat} {x3 : Int32} (ex : x3 = nI i) (hi : i + 6 ≤ L) (q : Nat → Nat → Nat) (C : Nat → Gr) (M : Gr) (hI : I C M) (H : Heap) (locs : List Loc) (ls : Array Slot) (hP : sP E (gsL E q C M) H) (hD : sD (fun q : Nat => s.heap.size ≤ q) (gsL E q C M)) (hS : va_S (fun q : Nat => s.heap.size ≤ q) s.heap H locs) (hl : lv_has ls 4 [(0, .ref b), (1, .ref (q 0 0)), (2, .ref (q 16 0)), (3, .int x3)]) (KK : ∀ (q : Nat → Nat → Nat) (C : Nat → Gr) (M : Gr) (H : Heap) (locs : List Loc) (ls : Array Slot), I C M → sP E (gsL E q C M) H → sD (fun q : Nat => s.heap.size ≤ q) (gsL E q C M) → va_S (fun q : Nat => s.heap.size ≤ q) s.heap H locs → lv_has ls 4 [(0, .ref b), (1, .ref (q 0 0)), (2, .ref (q 16 0)), (3, .int x3)] → W p l e room_1 s m #[Value.ref b] below meth c H locs 600000 7302250 (lw_Z below #[Value.ref b] s) (F0 m 1109 ls [])) : W p l e room_1 s m #[Value.ref b] below meth c H locs 600000 7302250 (lw_Z below #[Value.ref b] s) (F0 m 726 ls []) := by
  obtain ⟨hx, hb, hr, hml, hown, hts, hX, hbl, hlocks, hgv⟩ := C0
  have hg : ∀ w ∈ gtbl, w.before #[Value.ref b] s = true := fun w h => hts w (gtbl_tbl h)
  have hbA : ¬ (fun q : Nat => s.heap.size ≤ q) b := Nat.not_le.mpr hbl
  obtain ⟨u, w, hu, hw, euw, hI⟩ := hp C M hI (xs (Int32.toNatClampNeg (x3 + 1))) (xs (Int32.toNatClampNeg (x3 + 2)))
  refine lv_aload_n hx hb dL_law_726 rfl (lv_at hl 1 rfl) ?_
  refine lv_aload_n hx hb dL_law_727 rfl (lv_at hl 0 rfl) ?_
  refine lv_iload_n hx hb dL_law_728 rfl (lv_at hl 3 rfl) ?_
  refine lv_iconst (v := 1) hx hb dL_law_729 (by decide) ?_
  refine lv_iadd hx hb dL_law_730 ?_
  refine va_sld hx hb hX hbl hbA hS (lw_at 1 ex hi (by decide) hL) dL_law_731 ?_
  refine lv_aload_n hx hb dL_law_732 rfl (lv_at hl 0 rfl) ?_
  refine lv_iload_n hx hb dL_law_733 rfl (lv_at hl 3 rfl) ?_
  refine lv_iconst (v := 2) hx hb dL_law_734 (by decide) ?_
  refine lv_iadd hx hb dL_law_735 ?_
  refine va_sld hx hb hX hbl hbA hS (lw_at 2 ex hi (by decide) hL) dL_law_736 ?_
  have hC : ([0, 1, 6, 7] : List Nat).map (fun i => ([cw_X11 E (q 0) (q 1 0) (q 2 0) (q 4 0) (q 6 0) (q 8 0) (q 9 0) (q 10 0) (q 11 0) (q 12 0) (q 13 0) (q 14 0) (q 15 0) (C 0), cw_X8 E (q 1) (C 1), cw_X4 E (q 2) (q 3 0), cw_X9 E (q 3) (C 3), cw_X0 E (q 4) (q 5 0), cw_X9 E (q 5) (C 5), cw_X5 E (q 6) (q 7 0) (C 6), cw_X9 E (q 7) (C 7), cw_X6 E (q 8) (C 8), cw_X2 E (q 9) (C 9), cw_X10 E (q 10) (C 10), cw_X3 E (q 11) (C 11), cw_X3 E (q 12) (C 12), cw_X7 E (q 13) (C 13), cw_X7 E (q 14) (C 14), cw_X7 E (q 15) (C 15), cw_X12 E (q 16) M])[i]?) = ([cw_X11 E (q 0) (q 1 0) (q 2 0) (q 4 0) (q 6 0) (q 8 0) (q 9 0) (q 10 0) (q 11 0) (q 12 0) (q 13 0) (q 14 0) (q 15 0) (C 0), cw_X8 E (q 1) (C 1), cw_X5 E (q 6) (q 7 0) (C 6), cw_X9 E (q 7) (C 7)] : List va_W).map some := rfl
  refine sg_i (gs' := [cw_X11 E (q 0) (q 1 0) (q 2 0) (q 4 0) (q 6 0) (q 8 0) (q 9 0) (q 10 0) (q 11 0) (q 12 0) (q 13 0) (q 14 0) (q 15 0) (C 0), cw_X8 E (q 1) u.2.1, cw_X4 E (q 2) (q 3 0), cw_X9 E (q 3) (C 3), cw_X0 E (q 4) (q 5 0), cw_X9 E (q 5) (C 5), cw_X5 E (q 6) (q 7 0) u.2.2.1, cw_X9 E (q 7) u.2.2.2, cw_X6 E (q 8) (C 8), cw_X2 E (q 9) (C 9), cw_X10 E (q 10) (C 10), cw_X3 E (q 11) (C 11), cw_X3 E (q 12) (C 12), cw_X7 E (q 13) (C 13), cw_X7 E (q 14) (C 14), cw_X7 E (q 15) (C 15), cw_X12 E (q 16) M]) (gc := [cw_X11 E (q 0) (q 1 0) (q 2 0) (q 4 0) (q 6 0) (q 8 0) (q 9 0) (q 10 0) (q 11 0) (q 12 0) (q 13 0) (q 14 0) (q 15 0) (C 0), cw_X8 E (q 1) (C 1), cw_X5 E (q 6) (q 7 0) (C 6), cw_X9 E (q 7) (C 7)]) (g1 := [cw_X11 E (q 0) (q 1 0) (q 2 0) (q 4 0) (q 6 0) (q 8 0) (q 9 0) (q 10 0) (q 11 0) (q 12 0) (q 13 0) (q 14 0) (q 15 0) (C 0), cw_X8 E (q 1) u.2.1, cw_X5 E (q 6) (q 7 0) u.2.2.1, cw_X9 E (q 7) u.2.2.2]) X hP hD hS [0, 1, 6, 7] (by decide) (va_runV (C := RX11) (As := [.int (xs (Int32.toNatClampNeg (x3 + 1))), .int (xs (Int32.toNatClampNeg (x3 + 2)))]) (rest := []) ⟨hx, hb, hml, hown, hg⟩ (c_X11_log l E (q 0) (q 1) (q 6) (q 7) (q 2 0) (q 4 0) (q 8 0) (q 9 0) (q 10 0) (q 11 0) (q 12 0) (q 13 0) (q 14 0) (q 15 0) H.size (C 0) (C 1) (C 6) (C 7) (xs (Int32.toNatClampNeg (x3 + 1))) (xs (Int32.toNatClampNeg (x3 + 2))) u hu) (cwV 2 hg (gwV wm_L_83 wi_X11_log wsl_X11_log wini_X11 wco_X11_log) rfl rfl rfl (by decide +kernel) ⟨Nat.le_of_ble_eq_true rfl, Nat.le_of_ble_eq_true rfl⟩) ⟨ct_blind, sg_rv X.1 hP 0 rfl rfl rfl, sg_pre X hP hD hS [0, 1, 6, 7] (by decide) hC _⟩ rfl rfl hl.1 rfl (lv_room (Nat.le_of_ble_eq_true rfl)) dL_law_737 ⟨Nat.le_of_ble_eq_true rfl, Nat.le_of_ble_eq_true rfl⟩) hC rfl rfl rfl (fun H locs hP hD hS => ?_)
  clear hC
  refine lv_aload_n hx hb dL_law_740 rfl (lv_at hl 2 rfl) ?_
  refine lv_aload_n hx hb dL_law_741 rfl (lv_at hl 0 rfl) ?_
  refine lv_iload_n hx hb dL_law_742 rfl (lv_at hl 3 rfl) ?_
  refine lv_iconst (v := 1) hx hb dL_law_743 (by decide) ?_
  refine lv_iadd hx hb dL_law_744 ?_
  refine va_sld hx hb hX hbl hbA hS (lw_at 1 ex hi (by decide) hL) dL_law_745 ?_
  refine lv_aload_n hx hb dL_law_746 rfl (lv_at hl 0 rfl) ?_
  refine lv_iload_n hx hb dL_law_747 rfl (lv_at hl 3 rfl) ?_
  refine lv_iconst (v := 2) hx hb dL_law_748 (by decide) ?_
  refine lv_iadd hx hb dL_law_749 ?_
  refine va_sld hx hb hX hbl hbA hS (lw_at 2 ex hi (by decide) hL) dL_law_750 ?_
  have hC : ([16] : List Nat).map (fun i => ([cw_X11 E (q 0) (q 1 0) (q 2 0) (q 4 0) (q 6 0) (q 8 0) (q 9 0) (q 10 0) (q 11 0) (q 12 0) (q 13 0) (q 14 0) (q 15 0) (C 0), cw_X8 E (q 1) u.2.1, cw_X4 E (q 2) (q 3 0), cw_X9 E (q 3) (C 3), cw_X0 E (q 4) (q 5 0), cw_X9 E (q 5) (C 5), cw_X5 E (q 6) (q 7 0) u.2.2.1, cw_X9 E (q 7) u.2.2.2, cw_X6 E (q 8) (C 8), cw_X2 E (q 9) (C 9), cw_X10 E (q 10) (C 10), cw_X3 E (q 11) (C 11), cw_X3 E (q 12) (C 12), cw_X7 E (q 13) (C 13), cw_X7 E (q 14) (C 14), cw_X7 E (q 15) (C 15), cw_X12 E (q 16) M])[i]?) = ([cw_X12 E (q 16) M] : List va_W).map some := rfl
  refine sg_i (gs' := [cw_X11 E (q 0) (q 1 0) (q 2 0) (q 4 0) (q 6 0) (q 8 0) (q 9 0) (q 10 0) (q 11 0) (q 12 0) (q 13 0) (q 14 0) (q 15 0) (C 0), cw_X8 E (q 1) u.2.1, cw_X4 E (q 2) (q 3 0), cw_X9 E (q 3) (C 3), cw_X0 E (q 4) (q 5 0), cw_X9 E (q 5) (C 5), cw_X5 E (q 6) (q 7 0) u.2.2.1, cw_X9 E (q 7) u.2.2.2, cw_X6 E (q 8) (C 8), cw_X2 E (q 9) (C 9), cw_X10 E (q 10) (C 10), cw_X3 E (q 11) (C 11), cw_X3 E (q 12) (C 12), cw_X7 E (q 13) (C 13), cw_X7 E (q 14) (C 14), cw_X7 E (q 15) (C 15), cw_X12 E (q 16) w.2]) (gc := [cw_X12 E (q 16) M]) (g1 := [cw_X12 E (q 16) w.2]) X hP hD hS [16] (by decide) (va_runV (C := RX12) (As := [.int (xs (Int32.toNatClampNeg (x3 + 1))), .int (xs (Int32.toNatClampNeg (x3 + 2)))]) (rest := [.int u.1]) ⟨hx, hb, hml, hown, hg⟩ (c_X12_log l E (q 16) H.size M (xs (Int32.toNatClampNeg (x3 + 1))) (xs (Int32.toNatClampNeg (x3 + 2))) w hw) (cwV 2 hg (gwV wm_L_86 wi_X12_log wsl_X12_log wini_X12 wco_X12_log) rfl rfl rfl (by decide +kernel) ⟨Nat.le_of_ble_eq_true rfl, Nat.le_of_ble_eq_true rfl⟩) ⟨ct_blind, sg_rv X.1 hP 16 rfl rfl rfl, sg_pre X hP hD hS [16] (by decide) hC _⟩ rfl rfl hl.1 rfl (lv_room (Nat.le_of_ble_eq_true rfl)) dL_law_751 ⟨Nat.le_of_ble_eq_true rfl, Nat.le_of_ble_eq_true rfl⟩) hC rfl rfl rfl (fun H locs hP hD hS => ?_)
  clear hC
  refine lv_icmp_eq (tgt := 1109) hx hb dL_law_754 (by decide) (fun _ => ?_) (fun c9 => absurd euw c9)
  exact KK q (va_up (va_up (va_up C 1 u.2.1) 6 u.2.2.1) 7 u.2.2.2) w.2 H locs ls hI hP hD hS hl
set_option maxHeartbeats 4000000 in
set_option maxRecDepth 100000 in
theorem law_inCommon {p : Program} {l : Launch} {e : Env} {s : State} {m : MethodId} {below : List Frame} {meth : Method} {c : Code} {E : Ec} {b L : Nat} {xs : Nat → Int32} {I : (Nat → Gr) → Gr → Prop} (hL : L ≤ 3072) (C0 : lw_At p s m meth c b L xs) (X : ctX E (fun q : Nat => s.heap.size ≤ q) s) (hp : hp_inCommon I) {i : Nat} {x3 : Int32} (ex : x3 = nI i) (hi : i + 6 ≤ L) (q : Nat → Nat → Nat) (C : Nat → Gr) (M : Gr) (hI : I C M) (H : Heap) (locs : List Loc) (ls : Array Slot) (hP : sP E (gsL E q C M) H) (hD : sD (fun q : Nat => s.heap.size ≤ q) (gsL E q C M)) (hS : va_S (fun q : Nat => s.heap.size ≤ q) s.heap H locs) (hl : lv_has ls 4 [(0, .ref b), (1, .ref (q 0 0)), (2, .ref (q 16 0)), (3, .int x3)]) (KK : ∀ (q : Nat → Nat → Nat) (C : Nat → Gr) (M : Gr) (H : Heap) (locs : List Loc) (ls : Array Slot), I C M → sP E (gsL E q C M) H → sD (fun q : Nat => s.heap.size ≤ q) (gsL E q C M) → va_S (fun q : Nat => s.heap.size ≤ q) s.heap H locs → lv_has ls 4 [(0, .ref b), (1, .ref (q 0 0)), (2, .ref (q 16 0)), (3, .int x3)] → W p l e room_1 s m #[Value.ref b] below meth c H locs 600000 7302250 (lw_Z below #[Value.ref b] s) (F0 m 1109 ls [])) : W p l e room_1 s m #[Value.ref b] below meth c H locs 600000 7302250 (lw_Z below #[Value.ref b] s) (F0 m 759 ls []) := by
  obtain ⟨hx, hb, hr, hml, hown, hts, hX, hbl, hlocks, hgv⟩ := C0
  have hg : ∀ w ∈ gtbl, w.before #[Value.ref b] s = true := fun w h => hts w (gtbl_tbl h)
  have hbA : ¬ (fun q : Nat => s.heap.size ≤ q) b := Nat.not_le.mpr hbl
  obtain ⟨u, w, hu, hw, euw, hI⟩ := hp C M hI (xs (Int32.toNatClampNeg (x3 + 1))) (xs (Int32.toNatClampNeg (x3 + 2)))
  refine lv_aload_n hx hb dL_law_759 rfl (lv_at hl 1 rfl) ?_
  refine lv_aload_n hx hb dL_law_760 rfl (lv_at hl 0 rfl) ?_
  refine lv_iload_n hx hb dL_law_761 rfl (lv_at hl 3 rfl) ?_
  refine lv_iconst (v := 1) hx hb dL_law_762 (by decide) ?_
  refine lv_iadd hx hb dL_law_763 ?_
  refine va_sld hx hb hX hbl hbA hS (lw_at 1 ex hi (by decide) hL) dL_law_764 ?_
  refine lv_aload_n hx hb dL_law_765 rfl (lv_at hl 0 rfl) ?_
  refine lv_iload_n hx hb dL_law_766 rfl (lv_at hl 3 rfl) ?_
  refine lv_iconst (v := 2) hx hb dL_law_767 (by decide) ?_
  refine lv_iadd hx hb dL_law_768 ?_
  refine va_sld hx hb hX hbl hbA hS (lw_at 2 ex hi (by decide) hL) dL_law_769 ?_
  have hC : ([0, 1, 9] : List Nat).map (fun i => ([cw_X11 E (q 0) (q 1 0) (q 2 0) (q 4 0) (q 6 0) (q 8 0) (q 9 0) (q 10 0) (q 11 0) (q 12 0) (q 13 0) (q 14 0) (q 15 0) (C 0), cw_X8 E (q 1) (C 1), cw_X4 E (q 2) (q 3 0), cw_X9 E (q 3) (C 3), cw_X0 E (q 4) (q 5 0), cw_X9 E (q 5) (C 5), cw_X5 E (q 6) (q 7 0) (C 6), cw_X9 E (q 7) (C 7), cw_X6 E (q 8) (C 8), cw_X2 E (q 9) (C 9), cw_X10 E (q 10) (C 10), cw_X3 E (q 11) (C 11), cw_X3 E (q 12) (C 12), cw_X7 E (q 13) (C 13), cw_X7 E (q 14) (C 14), cw_X7 E (q 15) (C 15), cw_X12 E (q 16) M])[i]?) = ([cw_X11 E (q 0) (q 1 0) (q 2 0) (q 4 0) (q 6 0) (q 8 0) (q 9 0) (q 10 0) (q 11 0) (q 12 0) (q 13 0) (q 14 0) (q 15 0) (C 0), cw_X8 E (q 1) (C 1), cw_X2 E (q 9) (C 9)] : List va_W).map some := rfl
  refine sg_i (gs' := [cw_X11 E (q 0) (q 1 0) (q 2 0) (q 4 0) (q 6 0) (q 8 0) (q 9 0) (q 10 0) (q 11 0) (q 12 0) (q 13 0) (q 14 0) (q 15 0) (C 0), cw_X8 E (q 1) u.2.1, cw_X4 E (q 2) (q 3 0), cw_X9 E (q 3) (C 3), cw_X0 E (q 4) (q 5 0), cw_X9 E (q 5) (C 5), cw_X5 E (q 6) (q 7 0) (C 6), cw_X9 E (q 7) (C 7), cw_X6 E (q 8) (C 8), cw_X2 E (q 9) u.2.2, cw_X10 E (q 10) (C 10), cw_X3 E (q 11) (C 11), cw_X3 E (q 12) (C 12), cw_X7 E (q 13) (C 13), cw_X7 E (q 14) (C 14), cw_X7 E (q 15) (C 15), cw_X12 E (q 16) M]) (gc := [cw_X11 E (q 0) (q 1 0) (q 2 0) (q 4 0) (q 6 0) (q 8 0) (q 9 0) (q 10 0) (q 11 0) (q 12 0) (q 13 0) (q 14 0) (q 15 0) (C 0), cw_X8 E (q 1) (C 1), cw_X2 E (q 9) (C 9)]) (g1 := [cw_X11 E (q 0) (q 1 0) (q 2 0) (q 4 0) (q 6 0) (q 8 0) (q 9 0) (q 10 0) (q 11 0) (q 12 0) (q 13 0) (q 14 0) (q 15 0) (C 0), cw_X8 E (q 1) u.2.1, cw_X2 E (q 9) u.2.2]) X hP hD hS [0, 1, 9] (by decide) (va_runV (C := RX11) (As := [.int (xs (Int32.toNatClampNeg (x3 + 1))), .int (xs (Int32.toNatClampNeg (x3 + 2)))]) (rest := []) ⟨hx, hb, hml, hown, hg⟩ (c_X11_inCommon l E (q 0) (q 1) (q 9) (q 2 0) (q 4 0) (q 6 0) (q 8 0) (q 10 0) (q 11 0) (q 12 0) (q 13 0) (q 14 0) (q 15 0) H.size (C 0) (C 1) (C 9) (xs (Int32.toNatClampNeg (x3 + 1))) (xs (Int32.toNatClampNeg (x3 + 2))) u hu) (cwV 2 hg (gwV wm_L_87 wi_X11_inCommon wsl_X11_inCommon wini_X11 wco_X11_inCommon) rfl rfl rfl (by decide +kernel) ⟨Nat.le_of_ble_eq_true rfl, Nat.le_of_ble_eq_true rfl⟩) ⟨ct_blind, sg_rv X.1 hP 0 rfl rfl rfl, sg_pre X hP hD hS [0, 1, 9] (by decide) hC _⟩ rfl rfl hl.1 rfl (lv_room (Nat.le_of_ble_eq_true rfl)) dL_law_770 ⟨Nat.le_of_ble_eq_true rfl, Nat.le_of_ble_eq_true rfl⟩) hC rfl rfl rfl (fun H locs hP hD hS => ?_)
  clear hC
  refine lv_aload_n hx hb dL_law_773 rfl (lv_at hl 2 rfl) ?_
  refine lv_aload_n hx hb dL_law_774 rfl (lv_at hl 0 rfl) ?_
  refine lv_iload_n hx hb dL_law_775 rfl (lv_at hl 3 rfl) ?_
  refine lv_iconst (v := 1) hx hb dL_law_776 (by decide) ?_
  refine lv_iadd hx hb dL_law_777 ?_
  refine va_sld hx hb hX hbl hbA hS (lw_at 1 ex hi (by decide) hL) dL_law_778 ?_
  refine lv_aload_n hx hb dL_law_779 rfl (lv_at hl 0 rfl) ?_
  refine lv_iload_n hx hb dL_law_780 rfl (lv_at hl 3 rfl) ?_
  refine lv_iconst (v := 2) hx hb dL_law_781 (by decide) ?_
  refine lv_iadd hx hb dL_law_782 ?_
  refine va_sld hx hb hX hbl hbA hS (lw_at 2 ex hi (by decide) hL) dL_law_783 ?_
  have hC : ([16] : List Nat).map (fun i => ([cw_X11 E (q 0) (q 1 0) (q 2 0) (q 4 0) (q 6 0) (q 8 0) (q 9 0) (q 10 0) (q 11 0) (q 12 0) (q 13 0) (q 14 0) (q 15 0) (C 0), cw_X8 E (q 1) u.2.1, cw_X4 E (q 2) (q 3 0), cw_X9 E (q 3) (C 3), cw_X0 E (q 4) (q 5 0), cw_X9 E (q 5) (C 5), cw_X5 E (q 6) (q 7 0) (C 6), cw_X9 E (q 7) (C 7), cw_X6 E (q 8) (C 8), cw_X2 E (q 9) u.2.2, cw_X10 E (q 10) (C 10), cw_X3 E (q 11) (C 11), cw_X3 E (q 12) (C 12), cw_X7 E (q 13) (C 13), cw_X7 E (q 14) (C 14), cw_X7 E (q 15) (C 15), cw_X12 E (q 16) M])[i]?) = ([cw_X12 E (q 16) M] : List va_W).map some := rfl
  refine sg_i (gs' := [cw_X11 E (q 0) (q 1 0) (q 2 0) (q 4 0) (q 6 0) (q 8 0) (q 9 0) (q 10 0) (q 11 0) (q 12 0) (q 13 0) (q 14 0) (q 15 0) (C 0), cw_X8 E (q 1) u.2.1, cw_X4 E (q 2) (q 3 0), cw_X9 E (q 3) (C 3), cw_X0 E (q 4) (q 5 0), cw_X9 E (q 5) (C 5), cw_X5 E (q 6) (q 7 0) (C 6), cw_X9 E (q 7) (C 7), cw_X6 E (q 8) (C 8), cw_X2 E (q 9) u.2.2, cw_X10 E (q 10) (C 10), cw_X3 E (q 11) (C 11), cw_X3 E (q 12) (C 12), cw_X7 E (q 13) (C 13), cw_X7 E (q 14) (C 14), cw_X7 E (q 15) (C 15), cw_X12 E (q 16) w.2]) (gc := [cw_X12 E (q 16) M]) (g1 := [cw_X12 E (q 16) w.2]) X hP hD hS [16] (by decide) (va_runV (C := RX12) (As := [.int (xs (Int32.toNatClampNeg (x3 + 1))), .int (xs (Int32.toNatClampNeg (x3 + 2)))]) (rest := [.int u.1]) ⟨hx, hb, hml, hown, hg⟩ (c_X12_inCommon l E (q 16) H.size M (xs (Int32.toNatClampNeg (x3 + 1))) (xs (Int32.toNatClampNeg (x3 + 2))) w hw) (cwV 2 hg (gwV wm_L_90 wi_X12_inCommon wsl_X12_inCommon wini_X12 wco_X12_inCommon) rfl rfl rfl (by decide +kernel) ⟨Nat.le_of_ble_eq_true rfl, Nat.le_of_ble_eq_true rfl⟩) ⟨ct_blind, sg_rv X.1 hP 16 rfl rfl rfl, sg_pre X hP hD hS [16] (by decide) hC _⟩ rfl rfl hl.1 rfl (lv_room (Nat.le_of_ble_eq_true rfl)) dL_law_784 ⟨Nat.le_of_ble_eq_true rfl, Nat.le_of_ble_eq_true rfl⟩) hC rfl rfl rfl (fun H locs hP hD hS => ?_)
  clear hC
  refine lv_icmp_eq (tgt := 1109) hx hb dL_law_787 (by decide) (fun _ => ?_) (fun c9 => absurd euw c9)
  exact KK q (va_up (va_up C 1 u.2.1) 9 u.2.2) w.2 H locs ls hI hP hD hS hl
set_option maxHeartbeats 4000000 in
set_option maxRecDepth 100000 in
theorem law_code {p : Program} {l : Launch} {e : Env} {s : State} {m : MethodId} {below : List Frame} {meth : Method} {c : Code} {E : Ec} {b L : Nat} {xs : Nat → Int32} {I : (Nat → Gr) → Gr → Prop} (hL : L ≤ 3072) (C0 : lw_At p s m meth c b L xs) (X : ctX E (fun q : Nat => s.heap.size ≤ q) s) (hp : hp_code I) {i : Nat} {x3 : Int32} (ex : x3 = nI i) (hi : i + 6 ≤ L) (q : Nat → Nat → Nat) (C : Nat → Gr) (M : Gr) (hI : I C M) (H : Heap) (locs : List Loc) (ls : Array Slot) (hP : sP E (gsL E q C M) H) (hD : sD (fun q : Nat => s.heap.size ≤ q) (gsL E q C M)) (hS : va_S (fun q : Nat => s.heap.size ≤ q) s.heap H locs) (hl : lv_has ls 4 [(0, .ref b), (1, .ref (q 0 0)), (2, .ref (q 16 0)), (3, .int x3)]) (KK : ∀ (q : Nat → Nat → Nat) (C : Nat → Gr) (M : Gr) (H : Heap) (locs : List Loc) (ls : Array Slot), I C M → sP E (gsL E q C M) H → sD (fun q : Nat => s.heap.size ≤ q) (gsL E q C M) → va_S (fun q : Nat => s.heap.size ≤ q) s.heap H locs → lv_has ls 4 [(0, .ref b), (1, .ref (q 0 0)), (2, .ref (q 16 0)), (3, .int x3)] → W p l e room_1 s m #[Value.ref b] below meth c H locs 600000 7302250 (lw_Z below #[Value.ref b] s) (F0 m 1109 ls [])) : W p l e room_1 s m #[Value.ref b] below meth c H locs 600000 7302250 (lw_Z below #[Value.ref b] s) (F0 m 792 ls []) := by
  obtain ⟨hx, hb, hr, hml, hown, hts, hX, hbl, hlocks, hgv⟩ := C0
  have hg : ∀ w ∈ gtbl, w.before #[Value.ref b] s = true := fun w h => hts w (gtbl_tbl h)
  have hbA : ¬ (fun q : Nat => s.heap.size ≤ q) b := Nat.not_le.mpr hbl
  obtain ⟨u, w, hu, hw, euw, hI⟩ := hp C M hI (xs (Int32.toNatClampNeg (x3 + 1))) (xs (Int32.toNatClampNeg (x3 + 2)))
  refine lv_aload_n hx hb dL_law_792 rfl (lv_at hl 1 rfl) ?_
  refine lv_aload_n hx hb dL_law_793 rfl (lv_at hl 0 rfl) ?_
  refine lv_iload_n hx hb dL_law_794 rfl (lv_at hl 3 rfl) ?_
  refine lv_iconst (v := 1) hx hb dL_law_795 (by decide) ?_
  refine lv_iadd hx hb dL_law_796 ?_
  refine va_sld hx hb hX hbl hbA hS (lw_at 1 ex hi (by decide) hL) dL_law_797 ?_
  refine lv_aload_n hx hb dL_law_798 rfl (lv_at hl 0 rfl) ?_
  refine lv_iload_n hx hb dL_law_799 rfl (lv_at hl 3 rfl) ?_
  refine lv_iconst (v := 2) hx hb dL_law_800 (by decide) ?_
  refine lv_iadd hx hb dL_law_801 ?_
  refine va_sld hx hb hX hbl hbA hS (lw_at 2 ex hi (by decide) hL) dL_law_802 ?_
  have hC : ([0, 1, 9] : List Nat).map (fun i => ([cw_X11 E (q 0) (q 1 0) (q 2 0) (q 4 0) (q 6 0) (q 8 0) (q 9 0) (q 10 0) (q 11 0) (q 12 0) (q 13 0) (q 14 0) (q 15 0) (C 0), cw_X8 E (q 1) (C 1), cw_X4 E (q 2) (q 3 0), cw_X9 E (q 3) (C 3), cw_X0 E (q 4) (q 5 0), cw_X9 E (q 5) (C 5), cw_X5 E (q 6) (q 7 0) (C 6), cw_X9 E (q 7) (C 7), cw_X6 E (q 8) (C 8), cw_X2 E (q 9) (C 9), cw_X10 E (q 10) (C 10), cw_X3 E (q 11) (C 11), cw_X3 E (q 12) (C 12), cw_X7 E (q 13) (C 13), cw_X7 E (q 14) (C 14), cw_X7 E (q 15) (C 15), cw_X12 E (q 16) M])[i]?) = ([cw_X11 E (q 0) (q 1 0) (q 2 0) (q 4 0) (q 6 0) (q 8 0) (q 9 0) (q 10 0) (q 11 0) (q 12 0) (q 13 0) (q 14 0) (q 15 0) (C 0), cw_X8 E (q 1) (C 1), cw_X2 E (q 9) (C 9)] : List va_W).map some := rfl
  refine sg_i (gs' := [cw_X11 E (q 0) (q 1 0) (q 2 0) (q 4 0) (q 6 0) (q 8 0) (q 9 0) (q 10 0) (q 11 0) (q 12 0) (q 13 0) (q 14 0) (q 15 0) (C 0), cw_X8 E (q 1) u.2.1, cw_X4 E (q 2) (q 3 0), cw_X9 E (q 3) (C 3), cw_X0 E (q 4) (q 5 0), cw_X9 E (q 5) (C 5), cw_X5 E (q 6) (q 7 0) (C 6), cw_X9 E (q 7) (C 7), cw_X6 E (q 8) (C 8), cw_X2 E (q 9) u.2.2, cw_X10 E (q 10) (C 10), cw_X3 E (q 11) (C 11), cw_X3 E (q 12) (C 12), cw_X7 E (q 13) (C 13), cw_X7 E (q 14) (C 14), cw_X7 E (q 15) (C 15), cw_X12 E (q 16) M]) (gc := [cw_X11 E (q 0) (q 1 0) (q 2 0) (q 4 0) (q 6 0) (q 8 0) (q 9 0) (q 10 0) (q 11 0) (q 12 0) (q 13 0) (q 14 0) (q 15 0) (C 0), cw_X8 E (q 1) (C 1), cw_X2 E (q 9) (C 9)]) (g1 := [cw_X11 E (q 0) (q 1 0) (q 2 0) (q 4 0) (q 6 0) (q 8 0) (q 9 0) (q 10 0) (q 11 0) (q 12 0) (q 13 0) (q 14 0) (q 15 0) (C 0), cw_X8 E (q 1) u.2.1, cw_X2 E (q 9) u.2.2]) X hP hD hS [0, 1, 9] (by decide) (va_runV (C := RX11) (As := [.int (xs (Int32.toNatClampNeg (x3 + 1))), .int (xs (Int32.toNatClampNeg (x3 + 2)))]) (rest := []) ⟨hx, hb, hml, hown, hg⟩ (c_X11_code l E (q 0) (q 1) (q 9) (q 2 0) (q 4 0) (q 6 0) (q 8 0) (q 10 0) (q 11 0) (q 12 0) (q 13 0) (q 14 0) (q 15 0) H.size (C 0) (C 1) (C 9) (xs (Int32.toNatClampNeg (x3 + 1))) (xs (Int32.toNatClampNeg (x3 + 2))) u hu) (cwV 2 hg (gwV wm_L_91 wi_X11_code wsl_X11_code wini_X11 wco_X11_code) rfl rfl rfl (by decide +kernel) ⟨Nat.le_of_ble_eq_true rfl, Nat.le_of_ble_eq_true rfl⟩) ⟨ct_blind, sg_rv X.1 hP 0 rfl rfl rfl, sg_pre X hP hD hS [0, 1, 9] (by decide) hC _⟩ rfl rfl hl.1 rfl (lv_room (Nat.le_of_ble_eq_true rfl)) dL_law_803 ⟨Nat.le_of_ble_eq_true rfl, Nat.le_of_ble_eq_true rfl⟩) hC rfl rfl rfl (fun H locs hP hD hS => ?_)
  clear hC
  refine lv_aload_n hx hb dL_law_806 rfl (lv_at hl 2 rfl) ?_
  refine lv_aload_n hx hb dL_law_807 rfl (lv_at hl 0 rfl) ?_
  refine lv_iload_n hx hb dL_law_808 rfl (lv_at hl 3 rfl) ?_
  refine lv_iconst (v := 1) hx hb dL_law_809 (by decide) ?_
  refine lv_iadd hx hb dL_law_810 ?_
  refine va_sld hx hb hX hbl hbA hS (lw_at 1 ex hi (by decide) hL) dL_law_811 ?_
  refine lv_aload_n hx hb dL_law_812 rfl (lv_at hl 0 rfl) ?_
  refine lv_iload_n hx hb dL_law_813 rfl (lv_at hl 3 rfl) ?_
  refine lv_iconst (v := 2) hx hb dL_law_814 (by decide) ?_
  refine lv_iadd hx hb dL_law_815 ?_
  refine va_sld hx hb hX hbl hbA hS (lw_at 2 ex hi (by decide) hL) dL_law_816 ?_
  have hC : ([16] : List Nat).map (fun i => ([cw_X11 E (q 0) (q 1 0) (q 2 0) (q 4 0) (q 6 0) (q 8 0) (q 9 0) (q 10 0) (q 11 0) (q 12 0) (q 13 0) (q 14 0) (q 15 0) (C 0), cw_X8 E (q 1) u.2.1, cw_X4 E (q 2) (q 3 0), cw_X9 E (q 3) (C 3), cw_X0 E (q 4) (q 5 0), cw_X9 E (q 5) (C 5), cw_X5 E (q 6) (q 7 0) (C 6), cw_X9 E (q 7) (C 7), cw_X6 E (q 8) (C 8), cw_X2 E (q 9) u.2.2, cw_X10 E (q 10) (C 10), cw_X3 E (q 11) (C 11), cw_X3 E (q 12) (C 12), cw_X7 E (q 13) (C 13), cw_X7 E (q 14) (C 14), cw_X7 E (q 15) (C 15), cw_X12 E (q 16) M])[i]?) = ([cw_X12 E (q 16) M] : List va_W).map some := rfl
  refine sg_i (gs' := [cw_X11 E (q 0) (q 1 0) (q 2 0) (q 4 0) (q 6 0) (q 8 0) (q 9 0) (q 10 0) (q 11 0) (q 12 0) (q 13 0) (q 14 0) (q 15 0) (C 0), cw_X8 E (q 1) u.2.1, cw_X4 E (q 2) (q 3 0), cw_X9 E (q 3) (C 3), cw_X0 E (q 4) (q 5 0), cw_X9 E (q 5) (C 5), cw_X5 E (q 6) (q 7 0) (C 6), cw_X9 E (q 7) (C 7), cw_X6 E (q 8) (C 8), cw_X2 E (q 9) u.2.2, cw_X10 E (q 10) (C 10), cw_X3 E (q 11) (C 11), cw_X3 E (q 12) (C 12), cw_X7 E (q 13) (C 13), cw_X7 E (q 14) (C 14), cw_X7 E (q 15) (C 15), cw_X12 E (q 16) w.2]) (gc := [cw_X12 E (q 16) M]) (g1 := [cw_X12 E (q 16) w.2]) X hP hD hS [16] (by decide) (va_runV (C := RX12) (As := [.int (xs (Int32.toNatClampNeg (x3 + 1))), .int (xs (Int32.toNatClampNeg (x3 + 2)))]) (rest := [.int u.1]) ⟨hx, hb, hml, hown, hg⟩ (c_X12_code l E (q 16) H.size M (xs (Int32.toNatClampNeg (x3 + 1))) (xs (Int32.toNatClampNeg (x3 + 2))) w hw) (cwV 2 hg (gwV wm_L_94 wi_X12_code wsl_X12_code wini_X12 wco_X12_code) rfl rfl rfl (by decide +kernel) ⟨Nat.le_of_ble_eq_true rfl, Nat.le_of_ble_eq_true rfl⟩) ⟨ct_blind, sg_rv X.1 hP 16 rfl rfl rfl, sg_pre X hP hD hS [16] (by decide) hC _⟩ rfl rfl hl.1 rfl (lv_room (Nat.le_of_ble_eq_true rfl)) dL_law_817 ⟨Nat.le_of_ble_eq_true rfl, Nat.le_of_ble_eq_true rfl⟩) hC rfl rfl rfl (fun H locs hP hD hS => ?_)
  clear hC
  refine lv_icmp_eq (tgt := 1109) hx hb dL_law_820 (by decide) (fun _ => ?_) (fun c9 => absurd euw c9)
  exact KK q (va_up (va_up C 1 u.2.1) 9 u.2.2) w.2 H locs ls hI hP hD hS hl
set_option maxHeartbeats 4000000 in
set_option maxRecDepth 100000 in
theorem law_crawls {p : Program} {l : Launch} {e : Env} {s : State} {m : MethodId} {below : List Frame} {meth : Method} {c : Code} {E : Ec} {b L : Nat} {xs : Nat → Int32} {I : (Nat → Gr) → Gr → Prop} (hL : L ≤ 3072) (C0 : lw_At p s m meth c b L xs) (X : ctX E (fun q : Nat => s.heap.size ≤ q) s) (hp : hp_crawls I) {i : Nat} {x3 : Int32} (ex : x3 = nI i) (hi : i + 6 ≤ L) (q : Nat → Nat → Nat) (C : Nat → Gr) (M : Gr) (hI : I C M) (H : Heap) (locs : List Loc) (ls : Array Slot) (hP : sP E (gsL E q C M) H) (hD : sD (fun q : Nat => s.heap.size ≤ q) (gsL E q C M)) (hS : va_S (fun q : Nat => s.heap.size ≤ q) s.heap H locs) (hl : lv_has ls 4 [(0, .ref b), (1, .ref (q 0 0)), (2, .ref (q 16 0)), (3, .int x3)]) (KK : ∀ (q : Nat → Nat → Nat) (C : Nat → Gr) (M : Gr) (H : Heap) (locs : List Loc) (ls : Array Slot), I C M → sP E (gsL E q C M) H → sD (fun q : Nat => s.heap.size ≤ q) (gsL E q C M) → va_S (fun q : Nat => s.heap.size ≤ q) s.heap H locs → lv_has ls 4 [(0, .ref b), (1, .ref (q 0 0)), (2, .ref (q 16 0)), (3, .int x3)] → W p l e room_1 s m #[Value.ref b] below meth c H locs 600000 7302250 (lw_Z below #[Value.ref b] s) (F0 m 1109 ls [])) : W p l e room_1 s m #[Value.ref b] below meth c H locs 600000 7302250 (lw_Z below #[Value.ref b] s) (F0 m 825 ls []) := by
  obtain ⟨hx, hb, hr, hml, hown, hts, hX, hbl, hlocks, hgv⟩ := C0
  have hg : ∀ w ∈ gtbl, w.before #[Value.ref b] s = true := fun w h => hts w (gtbl_tbl h)
  have hbA : ¬ (fun q : Nat => s.heap.size ≤ q) b := Nat.not_le.mpr hbl
  obtain ⟨u, w, hu, hw, euw, hI⟩ := hp C M hI (xs (Int32.toNatClampNeg (x3 + 1))) (xs (Int32.toNatClampNeg (x3 + 2))) (xs (Int32.toNatClampNeg (x3 + 3)))
  refine lv_aload_n hx hb dL_law_825 rfl (lv_at hl 1 rfl) ?_
  refine lv_aload_n hx hb dL_law_826 rfl (lv_at hl 0 rfl) ?_
  refine lv_iload_n hx hb dL_law_827 rfl (lv_at hl 3 rfl) ?_
  refine lv_iconst (v := 1) hx hb dL_law_828 (by decide) ?_
  refine lv_iadd hx hb dL_law_829 ?_
  refine va_sld hx hb hX hbl hbA hS (lw_at 1 ex hi (by decide) hL) dL_law_830 ?_
  refine lv_aload_n hx hb dL_law_831 rfl (lv_at hl 0 rfl) ?_
  refine lv_iload_n hx hb dL_law_832 rfl (lv_at hl 3 rfl) ?_
  refine lv_iconst (v := 2) hx hb dL_law_833 (by decide) ?_
  refine lv_iadd hx hb dL_law_834 ?_
  refine va_sld hx hb hX hbl hbA hS (lw_at 2 ex hi (by decide) hL) dL_law_835 ?_
  refine lv_aload_n hx hb dL_law_836 rfl (lv_at hl 0 rfl) ?_
  refine lv_iload_n hx hb dL_law_837 rfl (lv_at hl 3 rfl) ?_
  refine lv_iconst (v := 3) hx hb dL_law_838 (by decide) ?_
  refine lv_iadd hx hb dL_law_839 ?_
  refine va_sld hx hb hX hbl hbA hS (lw_at 3 ex hi (by decide) hL) dL_law_840 ?_
  have hC : ([0, 1, 10] : List Nat).map (fun i => ([cw_X11 E (q 0) (q 1 0) (q 2 0) (q 4 0) (q 6 0) (q 8 0) (q 9 0) (q 10 0) (q 11 0) (q 12 0) (q 13 0) (q 14 0) (q 15 0) (C 0), cw_X8 E (q 1) (C 1), cw_X4 E (q 2) (q 3 0), cw_X9 E (q 3) (C 3), cw_X0 E (q 4) (q 5 0), cw_X9 E (q 5) (C 5), cw_X5 E (q 6) (q 7 0) (C 6), cw_X9 E (q 7) (C 7), cw_X6 E (q 8) (C 8), cw_X2 E (q 9) (C 9), cw_X10 E (q 10) (C 10), cw_X3 E (q 11) (C 11), cw_X3 E (q 12) (C 12), cw_X7 E (q 13) (C 13), cw_X7 E (q 14) (C 14), cw_X7 E (q 15) (C 15), cw_X12 E (q 16) M])[i]?) = ([cw_X11 E (q 0) (q 1 0) (q 2 0) (q 4 0) (q 6 0) (q 8 0) (q 9 0) (q 10 0) (q 11 0) (q 12 0) (q 13 0) (q 14 0) (q 15 0) (C 0), cw_X8 E (q 1) (C 1), cw_X10 E (q 10) (C 10)] : List va_W).map some := rfl
  refine sg_i (gs' := [cw_X11 E (q 0) (q 1 0) (q 2 0) (q 4 0) (q 6 0) (q 8 0) (q 9 0) (q 10 0) (q 11 0) (q 12 0) (q 13 0) (q 14 0) (q 15 0) (C 0), cw_X8 E (q 1) u.2.1, cw_X4 E (q 2) (q 3 0), cw_X9 E (q 3) (C 3), cw_X0 E (q 4) (q 5 0), cw_X9 E (q 5) (C 5), cw_X5 E (q 6) (q 7 0) (C 6), cw_X9 E (q 7) (C 7), cw_X6 E (q 8) (C 8), cw_X2 E (q 9) (C 9), cw_X10 E (q 10) u.2.2, cw_X3 E (q 11) (C 11), cw_X3 E (q 12) (C 12), cw_X7 E (q 13) (C 13), cw_X7 E (q 14) (C 14), cw_X7 E (q 15) (C 15), cw_X12 E (q 16) M]) (gc := [cw_X11 E (q 0) (q 1 0) (q 2 0) (q 4 0) (q 6 0) (q 8 0) (q 9 0) (q 10 0) (q 11 0) (q 12 0) (q 13 0) (q 14 0) (q 15 0) (C 0), cw_X8 E (q 1) (C 1), cw_X10 E (q 10) (C 10)]) (g1 := [cw_X11 E (q 0) (q 1 0) (q 2 0) (q 4 0) (q 6 0) (q 8 0) (q 9 0) (q 10 0) (q 11 0) (q 12 0) (q 13 0) (q 14 0) (q 15 0) (C 0), cw_X8 E (q 1) u.2.1, cw_X10 E (q 10) u.2.2]) X hP hD hS [0, 1, 10] (by decide) (va_runV (C := RX11) (As := [.int (xs (Int32.toNatClampNeg (x3 + 1))), .int (xs (Int32.toNatClampNeg (x3 + 2))), .int (xs (Int32.toNatClampNeg (x3 + 3)))]) (rest := []) ⟨hx, hb, hml, hown, hg⟩ (c_X11_crawls l E (q 0) (q 1) (q 10) (q 2 0) (q 4 0) (q 6 0) (q 8 0) (q 9 0) (q 11 0) (q 12 0) (q 13 0) (q 14 0) (q 15 0) H.size (C 0) (C 1) (C 10) (xs (Int32.toNatClampNeg (x3 + 1))) (xs (Int32.toNatClampNeg (x3 + 2))) (xs (Int32.toNatClampNeg (x3 + 3))) u hu) (cwV 3 hg (gwV wm_L_95 wi_X11_crawls wsl_X11_crawls wini_X11 wco_X11_crawls) rfl rfl rfl (by decide +kernel) ⟨Nat.le_of_ble_eq_true rfl, Nat.le_of_ble_eq_true rfl⟩) ⟨ct_blind, sg_rv X.1 hP 0 rfl rfl rfl, sg_pre X hP hD hS [0, 1, 10] (by decide) hC _⟩ rfl rfl hl.1 rfl (lv_room (Nat.le_of_ble_eq_true rfl)) dL_law_841 ⟨Nat.le_of_ble_eq_true rfl, Nat.le_of_ble_eq_true rfl⟩) hC rfl rfl rfl (fun H locs hP hD hS => ?_)
  clear hC
  refine lv_aload_n hx hb dL_law_844 rfl (lv_at hl 2 rfl) ?_
  refine lv_aload_n hx hb dL_law_845 rfl (lv_at hl 0 rfl) ?_
  refine lv_iload_n hx hb dL_law_846 rfl (lv_at hl 3 rfl) ?_
  refine lv_iconst (v := 1) hx hb dL_law_847 (by decide) ?_
  refine lv_iadd hx hb dL_law_848 ?_
  refine va_sld hx hb hX hbl hbA hS (lw_at 1 ex hi (by decide) hL) dL_law_849 ?_
  refine lv_aload_n hx hb dL_law_850 rfl (lv_at hl 0 rfl) ?_
  refine lv_iload_n hx hb dL_law_851 rfl (lv_at hl 3 rfl) ?_
  refine lv_iconst (v := 2) hx hb dL_law_852 (by decide) ?_
  refine lv_iadd hx hb dL_law_853 ?_
  refine va_sld hx hb hX hbl hbA hS (lw_at 2 ex hi (by decide) hL) dL_law_854 ?_
  refine lv_aload_n hx hb dL_law_855 rfl (lv_at hl 0 rfl) ?_
  refine lv_iload_n hx hb dL_law_856 rfl (lv_at hl 3 rfl) ?_
  refine lv_iconst (v := 3) hx hb dL_law_857 (by decide) ?_
  refine lv_iadd hx hb dL_law_858 ?_
  refine va_sld hx hb hX hbl hbA hS (lw_at 3 ex hi (by decide) hL) dL_law_859 ?_
  have hC : ([16] : List Nat).map (fun i => ([cw_X11 E (q 0) (q 1 0) (q 2 0) (q 4 0) (q 6 0) (q 8 0) (q 9 0) (q 10 0) (q 11 0) (q 12 0) (q 13 0) (q 14 0) (q 15 0) (C 0), cw_X8 E (q 1) u.2.1, cw_X4 E (q 2) (q 3 0), cw_X9 E (q 3) (C 3), cw_X0 E (q 4) (q 5 0), cw_X9 E (q 5) (C 5), cw_X5 E (q 6) (q 7 0) (C 6), cw_X9 E (q 7) (C 7), cw_X6 E (q 8) (C 8), cw_X2 E (q 9) (C 9), cw_X10 E (q 10) u.2.2, cw_X3 E (q 11) (C 11), cw_X3 E (q 12) (C 12), cw_X7 E (q 13) (C 13), cw_X7 E (q 14) (C 14), cw_X7 E (q 15) (C 15), cw_X12 E (q 16) M])[i]?) = ([cw_X12 E (q 16) M] : List va_W).map some := rfl
  refine sg_i (gs' := [cw_X11 E (q 0) (q 1 0) (q 2 0) (q 4 0) (q 6 0) (q 8 0) (q 9 0) (q 10 0) (q 11 0) (q 12 0) (q 13 0) (q 14 0) (q 15 0) (C 0), cw_X8 E (q 1) u.2.1, cw_X4 E (q 2) (q 3 0), cw_X9 E (q 3) (C 3), cw_X0 E (q 4) (q 5 0), cw_X9 E (q 5) (C 5), cw_X5 E (q 6) (q 7 0) (C 6), cw_X9 E (q 7) (C 7), cw_X6 E (q 8) (C 8), cw_X2 E (q 9) (C 9), cw_X10 E (q 10) u.2.2, cw_X3 E (q 11) (C 11), cw_X3 E (q 12) (C 12), cw_X7 E (q 13) (C 13), cw_X7 E (q 14) (C 14), cw_X7 E (q 15) (C 15), cw_X12 E (q 16) w.2]) (gc := [cw_X12 E (q 16) M]) (g1 := [cw_X12 E (q 16) w.2]) X hP hD hS [16] (by decide) (va_runV (C := RX12) (As := [.int (xs (Int32.toNatClampNeg (x3 + 1))), .int (xs (Int32.toNatClampNeg (x3 + 2))), .int (xs (Int32.toNatClampNeg (x3 + 3)))]) (rest := [.int u.1]) ⟨hx, hb, hml, hown, hg⟩ (c_X12_crawls l E (q 16) H.size M (xs (Int32.toNatClampNeg (x3 + 1))) (xs (Int32.toNatClampNeg (x3 + 2))) (xs (Int32.toNatClampNeg (x3 + 3))) w hw) (cwV 3 hg (gwV wm_L_98 wi_X12_crawls wsl_X12_crawls wini_X12 wco_X12_crawls) rfl rfl rfl (by decide +kernel) ⟨Nat.le_of_ble_eq_true rfl, Nat.le_of_ble_eq_true rfl⟩) ⟨ct_blind, sg_rv X.1 hP 16 rfl rfl rfl, sg_pre X hP hD hS [16] (by decide) hC _⟩ rfl rfl hl.1 rfl (lv_room (Nat.le_of_ble_eq_true rfl)) dL_law_860 ⟨Nat.le_of_ble_eq_true rfl, Nat.le_of_ble_eq_true rfl⟩) hC rfl rfl rfl (fun H locs hP hD hS => ?_)
  clear hC
  refine lv_icmp_eq (tgt := 1109) hx hb dL_law_863 (by decide) (fun _ => ?_) (fun c9 => absurd euw c9)
  exact KK q (va_up (va_up C 1 u.2.1) 10 u.2.2) w.2 H locs ls hI hP hD hS hl
