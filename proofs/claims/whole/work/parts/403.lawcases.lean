set_option maxHeartbeats 4000000 in
set_option maxRecDepth 100000 in
theorem law_tension {p : Program} {l : Launch} {e : Env} {s : State} {m : MethodId} {below : List Frame} {meth : Method} {c : Code} {E : Ec} {b L : Nat} {xs : Nat → Int32} {I : (Nat → Gr) → Gr → Prop} (hL : L ≤ 3072) (C0 : lw_At p s m meth c b L xs) (X : ctX E (fun q : Nat => s.heap.size ≤ q) s) (hp : hp_tension I) {i : Nat} {x3 : Int32} (ex : x3 = nI i) (hi : i + 6 ≤ L) (q : Nat → Nat → Nat) (C : Nat → Gr) (M : Gr) (hI : I C M) (H : Heap) (locs : List Loc) (ls : Array Slot) (hP : sP E (gsL E q C M) H) (hD : sD (fun q : Nat => s.heap.size ≤ q) (gsL E q C M)) (hS : va_S (fun q : Nat => s.heap.size ≤ q) s.heap H locs) (hl : lv_has ls 4 [(0, .ref b), (1, .ref (q 0 0)), (2, .ref (q 16 0)), (3, .int x3)]) (KK : ∀ (q : Nat → Nat → Nat) (C : Nat → Gr) (M : Gr) (H : Heap) (locs : List Loc) (ls : Array Slot), I C M → sP E (gsL E q C M) H → sD (fun q : Nat => s.heap.size ≤ q) (gsL E q C M) → va_S (fun q : Nat => s.heap.size ≤ q) s.heap H locs → lv_has ls 4 [(0, .ref b), (1, .ref (q 0 0)), (2, .ref (q 16 0)), (3, .int x3)] → W p l e room_1 s m #[Value.ref b] below meth c H locs 600000 7302250 (lw_Z below #[Value.ref b] s) (F0 m 1109 ls [])) : W p l e room_1 s m #[Value.ref b] below meth c H locs 600000 7302250 (lw_Z below #[Value.ref b] s) (F0 m 168 ls []) := by
  obtain ⟨hx, hb, hr, hml, hown, hts, hX, hbl, hlocks, hgv⟩ := C0
  have hg : ∀ w ∈ gtbl, w.before #[Value.ref b] s = true := fun w h => hts w (gtbl_tbl h)
  have hbA : ¬ (fun q : Nat => s.heap.size ≤ q) b := Nat.not_le.mpr hbl
  obtain ⟨u, w, hu, hw, euw, hI⟩ := hp C M hI (xs (Int32.toNatClampNeg (x3 + 1))) (xs (Int32.toNatClampNeg (x3 + 2))) (xs (Int32.toNatClampNeg (x3 + 3)))
  refine lv_aload_n hx hb dL_law_168 rfl (lv_at hl 1 rfl) ?_
  refine lv_aload_n hx hb dL_law_169 rfl (lv_at hl 0 rfl) ?_
  refine lv_iload_n hx hb dL_law_170 rfl (lv_at hl 3 rfl) ?_
  refine lv_iconst (v := 1) hx hb dL_law_171 (by decide) ?_
  refine lv_iadd hx hb dL_law_172 ?_
  refine va_sld hx hb hX hbl hbA hS (lw_at 1 ex hi (by decide) hL) dL_law_173 ?_
  refine lv_aload_n hx hb dL_law_174 rfl (lv_at hl 0 rfl) ?_
  refine lv_iload_n hx hb dL_law_175 rfl (lv_at hl 3 rfl) ?_
  refine lv_iconst (v := 2) hx hb dL_law_176 (by decide) ?_
  refine lv_iadd hx hb dL_law_177 ?_
  refine va_sld hx hb hX hbl hbA hS (lw_at 2 ex hi (by decide) hL) dL_law_178 ?_
  refine lv_aload_n hx hb dL_law_179 rfl (lv_at hl 0 rfl) ?_
  refine lv_iload_n hx hb dL_law_180 rfl (lv_at hl 3 rfl) ?_
  refine lv_iconst (v := 3) hx hb dL_law_181 (by decide) ?_
  refine lv_iadd hx hb dL_law_182 ?_
  refine va_sld hx hb hX hbl hbA hS (lw_at 3 ex hi (by decide) hL) dL_law_183 ?_
  have hC : ([0, 13] : List Nat).map (fun i => ([cw_X11 E (q 0) (q 1 0) (q 2 0) (q 4 0) (q 6 0) (q 8 0) (q 9 0) (q 10 0) (q 11 0) (q 12 0) (q 13 0) (q 14 0) (q 15 0) (C 0), cw_X8 E (q 1) (C 1), cw_X4 E (q 2) (q 3 0), cw_X9 E (q 3) (C 3), cw_X0 E (q 4) (q 5 0), cw_X9 E (q 5) (C 5), cw_X5 E (q 6) (q 7 0) (C 6), cw_X9 E (q 7) (C 7), cw_X6 E (q 8) (C 8), cw_X2 E (q 9) (C 9), cw_X10 E (q 10) (C 10), cw_X3 E (q 11) (C 11), cw_X3 E (q 12) (C 12), cw_X7 E (q 13) (C 13), cw_X7 E (q 14) (C 14), cw_X7 E (q 15) (C 15), cw_X12 E (q 16) M])[i]?) = ([cw_X11 E (q 0) (q 1 0) (q 2 0) (q 4 0) (q 6 0) (q 8 0) (q 9 0) (q 10 0) (q 11 0) (q 12 0) (q 13 0) (q 14 0) (q 15 0) (C 0), cw_X7 E (q 13) (C 13)] : List va_W).map some := rfl
  refine sg_i (gs' := [cw_X11 E (q 0) (q 1 0) (q 2 0) (q 4 0) (q 6 0) (q 8 0) (q 9 0) (q 10 0) (q 11 0) (q 12 0) (q 13 0) (q 14 0) (q 15 0) (C 0), cw_X8 E (q 1) (C 1), cw_X4 E (q 2) (q 3 0), cw_X9 E (q 3) (C 3), cw_X0 E (q 4) (q 5 0), cw_X9 E (q 5) (C 5), cw_X5 E (q 6) (q 7 0) (C 6), cw_X9 E (q 7) (C 7), cw_X6 E (q 8) (C 8), cw_X2 E (q 9) (C 9), cw_X10 E (q 10) (C 10), cw_X3 E (q 11) (C 11), cw_X3 E (q 12) (C 12), cw_X7 E (q 13) u.2, cw_X7 E (q 14) (C 14), cw_X7 E (q 15) (C 15), cw_X12 E (q 16) M]) (gc := [cw_X11 E (q 0) (q 1 0) (q 2 0) (q 4 0) (q 6 0) (q 8 0) (q 9 0) (q 10 0) (q 11 0) (q 12 0) (q 13 0) (q 14 0) (q 15 0) (C 0), cw_X7 E (q 13) (C 13)]) (g1 := [cw_X11 E (q 0) (q 1 0) (q 2 0) (q 4 0) (q 6 0) (q 8 0) (q 9 0) (q 10 0) (q 11 0) (q 12 0) (q 13 0) (q 14 0) (q 15 0) (C 0), cw_X7 E (q 13) u.2]) X hP hD hS [0, 13] (by decide) (va_runV (C := RX11) (As := [.int (xs (Int32.toNatClampNeg (x3 + 1))), .int (xs (Int32.toNatClampNeg (x3 + 2))), .int (xs (Int32.toNatClampNeg (x3 + 3)))]) (rest := []) ⟨hx, hb, hml, hown, hg⟩ (c_X11_tension l E (q 0) (q 13) (q 1 0) (q 2 0) (q 4 0) (q 6 0) (q 8 0) (q 9 0) (q 10 0) (q 11 0) (q 12 0) (q 14 0) (q 15 0) H.size (C 0) (C 13) (xs (Int32.toNatClampNeg (x3 + 1))) (xs (Int32.toNatClampNeg (x3 + 2))) (xs (Int32.toNatClampNeg (x3 + 3))) u hu) (cwV 3 hg (gwV wm_L_13 wi_X11_tension wsl_X11_tension wini_X11 wco_X11_tension) rfl rfl rfl (by decide +kernel) ⟨Nat.le_of_ble_eq_true rfl, Nat.le_of_ble_eq_true rfl⟩) ⟨ct_blind, sg_rv X.1 hP 0 rfl rfl rfl, sg_pre X hP hD hS [0, 13] (by decide) hC _⟩ rfl rfl hl.1 rfl (lv_room (Nat.le_of_ble_eq_true rfl)) dL_law_184 ⟨Nat.le_of_ble_eq_true rfl, Nat.le_of_ble_eq_true rfl⟩) hC rfl rfl rfl (fun H locs hP hD hS => ?_)
  clear hC
  refine lv_aload_n hx hb dL_law_187 rfl (lv_at hl 2 rfl) ?_
  refine lv_aload_n hx hb dL_law_188 rfl (lv_at hl 0 rfl) ?_
  refine lv_iload_n hx hb dL_law_189 rfl (lv_at hl 3 rfl) ?_
  refine lv_iconst (v := 1) hx hb dL_law_190 (by decide) ?_
  refine lv_iadd hx hb dL_law_191 ?_
  refine va_sld hx hb hX hbl hbA hS (lw_at 1 ex hi (by decide) hL) dL_law_192 ?_
  refine lv_aload_n hx hb dL_law_193 rfl (lv_at hl 0 rfl) ?_
  refine lv_iload_n hx hb dL_law_194 rfl (lv_at hl 3 rfl) ?_
  refine lv_iconst (v := 2) hx hb dL_law_195 (by decide) ?_
  refine lv_iadd hx hb dL_law_196 ?_
  refine va_sld hx hb hX hbl hbA hS (lw_at 2 ex hi (by decide) hL) dL_law_197 ?_
  refine lv_aload_n hx hb dL_law_198 rfl (lv_at hl 0 rfl) ?_
  refine lv_iload_n hx hb dL_law_199 rfl (lv_at hl 3 rfl) ?_
  refine lv_iconst (v := 3) hx hb dL_law_200 (by decide) ?_
  refine lv_iadd hx hb dL_law_201 ?_
  refine va_sld hx hb hX hbl hbA hS (lw_at 3 ex hi (by decide) hL) dL_law_202 ?_
  have hC : ([16] : List Nat).map (fun i => ([cw_X11 E (q 0) (q 1 0) (q 2 0) (q 4 0) (q 6 0) (q 8 0) (q 9 0) (q 10 0) (q 11 0) (q 12 0) (q 13 0) (q 14 0) (q 15 0) (C 0), cw_X8 E (q 1) (C 1), cw_X4 E (q 2) (q 3 0), cw_X9 E (q 3) (C 3), cw_X0 E (q 4) (q 5 0), cw_X9 E (q 5) (C 5), cw_X5 E (q 6) (q 7 0) (C 6), cw_X9 E (q 7) (C 7), cw_X6 E (q 8) (C 8), cw_X2 E (q 9) (C 9), cw_X10 E (q 10) (C 10), cw_X3 E (q 11) (C 11), cw_X3 E (q 12) (C 12), cw_X7 E (q 13) u.2, cw_X7 E (q 14) (C 14), cw_X7 E (q 15) (C 15), cw_X12 E (q 16) M])[i]?) = ([cw_X12 E (q 16) M] : List va_W).map some := rfl
  refine sg_i (gs' := [cw_X11 E (q 0) (q 1 0) (q 2 0) (q 4 0) (q 6 0) (q 8 0) (q 9 0) (q 10 0) (q 11 0) (q 12 0) (q 13 0) (q 14 0) (q 15 0) (C 0), cw_X8 E (q 1) (C 1), cw_X4 E (q 2) (q 3 0), cw_X9 E (q 3) (C 3), cw_X0 E (q 4) (q 5 0), cw_X9 E (q 5) (C 5), cw_X5 E (q 6) (q 7 0) (C 6), cw_X9 E (q 7) (C 7), cw_X6 E (q 8) (C 8), cw_X2 E (q 9) (C 9), cw_X10 E (q 10) (C 10), cw_X3 E (q 11) (C 11), cw_X3 E (q 12) (C 12), cw_X7 E (q 13) u.2, cw_X7 E (q 14) (C 14), cw_X7 E (q 15) (C 15), cw_X12 E (q 16) w.2]) (gc := [cw_X12 E (q 16) M]) (g1 := [cw_X12 E (q 16) w.2]) X hP hD hS [16] (by decide) (va_runV (C := RX12) (As := [.int (xs (Int32.toNatClampNeg (x3 + 1))), .int (xs (Int32.toNatClampNeg (x3 + 2))), .int (xs (Int32.toNatClampNeg (x3 + 3)))]) (rest := [.int u.1]) ⟨hx, hb, hml, hown, hg⟩ (c_X12_tension l E (q 16) H.size M (xs (Int32.toNatClampNeg (x3 + 1))) (xs (Int32.toNatClampNeg (x3 + 2))) (xs (Int32.toNatClampNeg (x3 + 3))) w hw) (cwV 3 hg (gwV wm_L_17 wi_X12_tension wsl_X12_tension wini_X12 wco_X12_tension) rfl rfl rfl (by decide +kernel) ⟨Nat.le_of_ble_eq_true rfl, Nat.le_of_ble_eq_true rfl⟩) ⟨ct_blind, sg_rv X.1 hP 16 rfl rfl rfl, sg_pre X hP hD hS [16] (by decide) hC _⟩ rfl rfl hl.1 rfl (lv_room (Nat.le_of_ble_eq_true rfl)) dL_law_203 ⟨Nat.le_of_ble_eq_true rfl, Nat.le_of_ble_eq_true rfl⟩) hC rfl rfl rfl (fun H locs hP hD hS => ?_)
  clear hC
  refine lv_icmp_eq (tgt := 1109) hx hb dL_law_206 (by decide) (fun _ => ?_) (fun c9 => absurd euw c9)
  exact KK q (va_up C 13 u.2) w.2 H locs ls hI hP hD hS hl
set_option maxHeartbeats 4000000 in
set_option maxRecDepth 100000 in
theorem law_feed {p : Program} {l : Launch} {e : Env} {s : State} {m : MethodId} {below : List Frame} {meth : Method} {c : Code} {E : Ec} {b L : Nat} {xs : Nat → Int32} {I : (Nat → Gr) → Gr → Prop} (hL : L ≤ 3072) (C0 : lw_At p s m meth c b L xs) (X : ctX E (fun q : Nat => s.heap.size ≤ q) s) (hp : hp_feed I) {i : Nat} {x3 : Int32} (ex : x3 = nI i) (hi : i + 6 ≤ L) (q : Nat → Nat → Nat) (C : Nat → Gr) (M : Gr) (hI : I C M) (H : Heap) (locs : List Loc) (ls : Array Slot) (hP : sP E (gsL E q C M) H) (hD : sD (fun q : Nat => s.heap.size ≤ q) (gsL E q C M)) (hS : va_S (fun q : Nat => s.heap.size ≤ q) s.heap H locs) (hl : lv_has ls 4 [(0, .ref b), (1, .ref (q 0 0)), (2, .ref (q 16 0)), (3, .int x3)]) (KK : ∀ (q : Nat → Nat → Nat) (C : Nat → Gr) (M : Gr) (H : Heap) (locs : List Loc) (ls : Array Slot), I C M → sP E (gsL E q C M) H → sD (fun q : Nat => s.heap.size ≤ q) (gsL E q C M) → va_S (fun q : Nat => s.heap.size ≤ q) s.heap H locs → lv_has ls 4 [(0, .ref b), (1, .ref (q 0 0)), (2, .ref (q 16 0)), (3, .int x3)] → W p l e room_1 s m #[Value.ref b] below meth c H locs 600000 7302250 (lw_Z below #[Value.ref b] s) (F0 m 1109 ls [])) : W p l e room_1 s m #[Value.ref b] below meth c H locs 600000 7302250 (lw_Z below #[Value.ref b] s) (F0 m 211 ls []) := by
  obtain ⟨hx, hb, hr, hml, hown, hts, hX, hbl, hlocks, hgv⟩ := C0
  have hg : ∀ w ∈ gtbl, w.before #[Value.ref b] s = true := fun w h => hts w (gtbl_tbl h)
  have hbA : ¬ (fun q : Nat => s.heap.size ≤ q) b := Nat.not_le.mpr hbl
  obtain ⟨u, w, hu, hw, euw, hI⟩ := hp C M hI (xs (Int32.toNatClampNeg (x3 + 1))) (xs (Int32.toNatClampNeg (x3 + 2))) (xs (Int32.toNatClampNeg (x3 + 3))) (xs (Int32.toNatClampNeg (x3 + 4))) (xs (Int32.toNatClampNeg (x3 + 5)))
  refine lv_aload_n hx hb dL_law_211 rfl (lv_at hl 1 rfl) ?_
  refine lv_aload_n hx hb dL_law_212 rfl (lv_at hl 0 rfl) ?_
  refine lv_iload_n hx hb dL_law_213 rfl (lv_at hl 3 rfl) ?_
  refine lv_iconst (v := 1) hx hb dL_law_214 (by decide) ?_
  refine lv_iadd hx hb dL_law_215 ?_
  refine va_sld hx hb hX hbl hbA hS (lw_at 1 ex hi (by decide) hL) dL_law_216 ?_
  refine lv_aload_n hx hb dL_law_217 rfl (lv_at hl 0 rfl) ?_
  refine lv_iload_n hx hb dL_law_218 rfl (lv_at hl 3 rfl) ?_
  refine lv_iconst (v := 2) hx hb dL_law_219 (by decide) ?_
  refine lv_iadd hx hb dL_law_220 ?_
  refine va_sld hx hb hX hbl hbA hS (lw_at 2 ex hi (by decide) hL) dL_law_221 ?_
  refine lv_aload_n hx hb dL_law_222 rfl (lv_at hl 0 rfl) ?_
  refine lv_iload_n hx hb dL_law_223 rfl (lv_at hl 3 rfl) ?_
  refine lv_iconst (v := 3) hx hb dL_law_224 (by decide) ?_
  refine lv_iadd hx hb dL_law_225 ?_
  refine va_sld hx hb hX hbl hbA hS (lw_at 3 ex hi (by decide) hL) dL_law_226 ?_
  refine lv_aload_n hx hb dL_law_227 rfl (lv_at hl 0 rfl) ?_
  refine lv_iload_n hx hb dL_law_228 rfl (lv_at hl 3 rfl) ?_
  refine lv_iconst (v := 4) hx hb dL_law_229 (by decide) ?_
  refine lv_iadd hx hb dL_law_230 ?_
  refine va_sld hx hb hX hbl hbA hS (lw_at 4 ex hi (by decide) hL) dL_law_231 ?_
  refine lv_aload_n hx hb dL_law_232 rfl (lv_at hl 0 rfl) ?_
  refine lv_iload_n hx hb dL_law_233 rfl (lv_at hl 3 rfl) ?_
  refine lv_iconst (v := 5) hx hb dL_law_234 (by decide) ?_
  refine lv_iadd hx hb dL_law_235 ?_
  refine va_sld hx hb hX hbl hbA hS (lw_at 5 ex hi (by decide) hL) dL_law_236 ?_
  have hC : ([0, 1] : List Nat).map (fun i => ([cw_X11 E (q 0) (q 1 0) (q 2 0) (q 4 0) (q 6 0) (q 8 0) (q 9 0) (q 10 0) (q 11 0) (q 12 0) (q 13 0) (q 14 0) (q 15 0) (C 0), cw_X8 E (q 1) (C 1), cw_X4 E (q 2) (q 3 0), cw_X9 E (q 3) (C 3), cw_X0 E (q 4) (q 5 0), cw_X9 E (q 5) (C 5), cw_X5 E (q 6) (q 7 0) (C 6), cw_X9 E (q 7) (C 7), cw_X6 E (q 8) (C 8), cw_X2 E (q 9) (C 9), cw_X10 E (q 10) (C 10), cw_X3 E (q 11) (C 11), cw_X3 E (q 12) (C 12), cw_X7 E (q 13) (C 13), cw_X7 E (q 14) (C 14), cw_X7 E (q 15) (C 15), cw_X12 E (q 16) M])[i]?) = ([cw_X11 E (q 0) (q 1 0) (q 2 0) (q 4 0) (q 6 0) (q 8 0) (q 9 0) (q 10 0) (q 11 0) (q 12 0) (q 13 0) (q 14 0) (q 15 0) (C 0), cw_X8 E (q 1) (C 1)] : List va_W).map some := rfl
  refine sg_i (gs' := [cw_X11 E (q 0) (q 1 0) (q 2 0) (q 4 0) (q 6 0) (q 8 0) (q 9 0) (q 10 0) (q 11 0) (q 12 0) (q 13 0) (q 14 0) (q 15 0) (C 0), cw_X8 E (q 1) u.2, cw_X4 E (q 2) (q 3 0), cw_X9 E (q 3) (C 3), cw_X0 E (q 4) (q 5 0), cw_X9 E (q 5) (C 5), cw_X5 E (q 6) (q 7 0) (C 6), cw_X9 E (q 7) (C 7), cw_X6 E (q 8) (C 8), cw_X2 E (q 9) (C 9), cw_X10 E (q 10) (C 10), cw_X3 E (q 11) (C 11), cw_X3 E (q 12) (C 12), cw_X7 E (q 13) (C 13), cw_X7 E (q 14) (C 14), cw_X7 E (q 15) (C 15), cw_X12 E (q 16) M]) (gc := [cw_X11 E (q 0) (q 1 0) (q 2 0) (q 4 0) (q 6 0) (q 8 0) (q 9 0) (q 10 0) (q 11 0) (q 12 0) (q 13 0) (q 14 0) (q 15 0) (C 0), cw_X8 E (q 1) (C 1)]) (g1 := [cw_X11 E (q 0) (q 1 0) (q 2 0) (q 4 0) (q 6 0) (q 8 0) (q 9 0) (q 10 0) (q 11 0) (q 12 0) (q 13 0) (q 14 0) (q 15 0) (C 0), cw_X8 E (q 1) u.2]) X hP hD hS [0, 1] (by decide) (va_runV (C := RX11) (As := [.int (xs (Int32.toNatClampNeg (x3 + 1))), .int (xs (Int32.toNatClampNeg (x3 + 2))), .int (xs (Int32.toNatClampNeg (x3 + 3))), .int (xs (Int32.toNatClampNeg (x3 + 4))), .int (xs (Int32.toNatClampNeg (x3 + 5)))]) (rest := []) ⟨hx, hb, hml, hown, hg⟩ (c_X11_feed l E (q 0) (q 1) (q 2 0) (q 4 0) (q 6 0) (q 8 0) (q 9 0) (q 10 0) (q 11 0) (q 12 0) (q 13 0) (q 14 0) (q 15 0) H.size (C 0) (C 1) (xs (Int32.toNatClampNeg (x3 + 1))) (xs (Int32.toNatClampNeg (x3 + 2))) (xs (Int32.toNatClampNeg (x3 + 3))) (xs (Int32.toNatClampNeg (x3 + 4))) (xs (Int32.toNatClampNeg (x3 + 5))) u hu) (cwV 5 hg (gwV wm_L_18 wi_X11_feed wsl_X11_feed wini_X11 wco_X11_feed) rfl rfl rfl (by decide +kernel) ⟨Nat.le_of_ble_eq_true rfl, Nat.le_of_ble_eq_true rfl⟩) ⟨ct_blind, sg_rv X.1 hP 0 rfl rfl rfl, sg_pre X hP hD hS [0, 1] (by decide) hC _⟩ rfl rfl hl.1 rfl (lv_room (Nat.le_of_ble_eq_true rfl)) dL_law_237 ⟨Nat.le_of_ble_eq_true rfl, Nat.le_of_ble_eq_true rfl⟩) hC rfl rfl rfl (fun H locs hP hD hS => ?_)
  clear hC
  refine lv_aload_n hx hb dL_law_240 rfl (lv_at hl 2 rfl) ?_
  refine lv_aload_n hx hb dL_law_241 rfl (lv_at hl 0 rfl) ?_
  refine lv_iload_n hx hb dL_law_242 rfl (lv_at hl 3 rfl) ?_
  refine lv_iconst (v := 1) hx hb dL_law_243 (by decide) ?_
  refine lv_iadd hx hb dL_law_244 ?_
  refine va_sld hx hb hX hbl hbA hS (lw_at 1 ex hi (by decide) hL) dL_law_245 ?_
  refine lv_aload_n hx hb dL_law_246 rfl (lv_at hl 0 rfl) ?_
  refine lv_iload_n hx hb dL_law_247 rfl (lv_at hl 3 rfl) ?_
  refine lv_iconst (v := 2) hx hb dL_law_248 (by decide) ?_
  refine lv_iadd hx hb dL_law_249 ?_
  refine va_sld hx hb hX hbl hbA hS (lw_at 2 ex hi (by decide) hL) dL_law_250 ?_
  refine lv_aload_n hx hb dL_law_251 rfl (lv_at hl 0 rfl) ?_
  refine lv_iload_n hx hb dL_law_252 rfl (lv_at hl 3 rfl) ?_
  refine lv_iconst (v := 3) hx hb dL_law_253 (by decide) ?_
  refine lv_iadd hx hb dL_law_254 ?_
  refine va_sld hx hb hX hbl hbA hS (lw_at 3 ex hi (by decide) hL) dL_law_255 ?_
  refine lv_aload_n hx hb dL_law_256 rfl (lv_at hl 0 rfl) ?_
  refine lv_iload_n hx hb dL_law_257 rfl (lv_at hl 3 rfl) ?_
  refine lv_iconst (v := 4) hx hb dL_law_258 (by decide) ?_
  refine lv_iadd hx hb dL_law_259 ?_
  refine va_sld hx hb hX hbl hbA hS (lw_at 4 ex hi (by decide) hL) dL_law_260 ?_
  refine lv_aload_n hx hb dL_law_261 rfl (lv_at hl 0 rfl) ?_
  refine lv_iload_n hx hb dL_law_262 rfl (lv_at hl 3 rfl) ?_
  refine lv_iconst (v := 5) hx hb dL_law_263 (by decide) ?_
  refine lv_iadd hx hb dL_law_264 ?_
  refine va_sld hx hb hX hbl hbA hS (lw_at 5 ex hi (by decide) hL) dL_law_265 ?_
  have hC : ([16] : List Nat).map (fun i => ([cw_X11 E (q 0) (q 1 0) (q 2 0) (q 4 0) (q 6 0) (q 8 0) (q 9 0) (q 10 0) (q 11 0) (q 12 0) (q 13 0) (q 14 0) (q 15 0) (C 0), cw_X8 E (q 1) u.2, cw_X4 E (q 2) (q 3 0), cw_X9 E (q 3) (C 3), cw_X0 E (q 4) (q 5 0), cw_X9 E (q 5) (C 5), cw_X5 E (q 6) (q 7 0) (C 6), cw_X9 E (q 7) (C 7), cw_X6 E (q 8) (C 8), cw_X2 E (q 9) (C 9), cw_X10 E (q 10) (C 10), cw_X3 E (q 11) (C 11), cw_X3 E (q 12) (C 12), cw_X7 E (q 13) (C 13), cw_X7 E (q 14) (C 14), cw_X7 E (q 15) (C 15), cw_X12 E (q 16) M])[i]?) = ([cw_X12 E (q 16) M] : List va_W).map some := rfl
  refine sg_i (gs' := [cw_X11 E (q 0) (q 1 0) (q 2 0) (q 4 0) (q 6 0) (q 8 0) (q 9 0) (q 10 0) (q 11 0) (q 12 0) (q 13 0) (q 14 0) (q 15 0) (C 0), cw_X8 E (q 1) u.2, cw_X4 E (q 2) (q 3 0), cw_X9 E (q 3) (C 3), cw_X0 E (q 4) (q 5 0), cw_X9 E (q 5) (C 5), cw_X5 E (q 6) (q 7 0) (C 6), cw_X9 E (q 7) (C 7), cw_X6 E (q 8) (C 8), cw_X2 E (q 9) (C 9), cw_X10 E (q 10) (C 10), cw_X3 E (q 11) (C 11), cw_X3 E (q 12) (C 12), cw_X7 E (q 13) (C 13), cw_X7 E (q 14) (C 14), cw_X7 E (q 15) (C 15), cw_X12 E (q 16) w.2]) (gc := [cw_X12 E (q 16) M]) (g1 := [cw_X12 E (q 16) w.2]) X hP hD hS [16] (by decide) (va_runV (C := RX12) (As := [.int (xs (Int32.toNatClampNeg (x3 + 1))), .int (xs (Int32.toNatClampNeg (x3 + 2))), .int (xs (Int32.toNatClampNeg (x3 + 3))), .int (xs (Int32.toNatClampNeg (x3 + 4))), .int (xs (Int32.toNatClampNeg (x3 + 5)))]) (rest := [.int u.1]) ⟨hx, hb, hml, hown, hg⟩ (c_X12_feed l E (q 16) H.size M (xs (Int32.toNatClampNeg (x3 + 1))) (xs (Int32.toNatClampNeg (x3 + 2))) (xs (Int32.toNatClampNeg (x3 + 3))) (xs (Int32.toNatClampNeg (x3 + 4))) (xs (Int32.toNatClampNeg (x3 + 5))) w hw) (cwV 5 hg (gwV wm_L_22 wi_X12_feed wsl_X12_feed wini_X12 wco_X12_feed) rfl rfl rfl (by decide +kernel) ⟨Nat.le_of_ble_eq_true rfl, Nat.le_of_ble_eq_true rfl⟩) ⟨ct_blind, sg_rv X.1 hP 16 rfl rfl rfl, sg_pre X hP hD hS [16] (by decide) hC _⟩ rfl rfl hl.1 rfl (lv_room (Nat.le_of_ble_eq_true rfl)) dL_law_266 ⟨Nat.le_of_ble_eq_true rfl, Nat.le_of_ble_eq_true rfl⟩) hC rfl rfl rfl (fun H locs hP hD hS => ?_)
  clear hC
  refine lv_icmp_eq (tgt := 1109) hx hb dL_law_269 (by decide) (fun _ => ?_) (fun c9 => absurd euw c9)
  exact KK q (va_up C 1 u.2) w.2 H locs ls hI hP hD hS hl
set_option maxHeartbeats 4000000 in
set_option maxRecDepth 100000 in
theorem law_law {p : Program} {l : Launch} {e : Env} {s : State} {m : MethodId} {below : List Frame} {meth : Method} {c : Code} {E : Ec} {b L : Nat} {xs : Nat → Int32} {I : (Nat → Gr) → Gr → Prop} (hL : L ≤ 3072) (C0 : lw_At p s m meth c b L xs) (X : ctX E (fun q : Nat => s.heap.size ≤ q) s) (hp : hp_law I) {i : Nat} {x3 : Int32} (ex : x3 = nI i) (hi : i + 6 ≤ L) (q : Nat → Nat → Nat) (C : Nat → Gr) (M : Gr) (hI : I C M) (H : Heap) (locs : List Loc) (ls : Array Slot) (hP : sP E (gsL E q C M) H) (hD : sD (fun q : Nat => s.heap.size ≤ q) (gsL E q C M)) (hS : va_S (fun q : Nat => s.heap.size ≤ q) s.heap H locs) (hl : lv_has ls 4 [(0, .ref b), (1, .ref (q 0 0)), (2, .ref (q 16 0)), (3, .int x3)]) (KK : ∀ (q : Nat → Nat → Nat) (C : Nat → Gr) (M : Gr) (H : Heap) (locs : List Loc) (ls : Array Slot), I C M → sP E (gsL E q C M) H → sD (fun q : Nat => s.heap.size ≤ q) (gsL E q C M) → va_S (fun q : Nat => s.heap.size ≤ q) s.heap H locs → lv_has ls 4 [(0, .ref b), (1, .ref (q 0 0)), (2, .ref (q 16 0)), (3, .int x3)] → W p l e room_1 s m #[Value.ref b] below meth c H locs 600000 7302250 (lw_Z below #[Value.ref b] s) (F0 m 1109 ls [])) : W p l e room_1 s m #[Value.ref b] below meth c H locs 600000 7302250 (lw_Z below #[Value.ref b] s) (F0 m 274 ls []) := by
  obtain ⟨hx, hb, hr, hml, hown, hts, hX, hbl, hlocks, hgv⟩ := C0
  have hg : ∀ w ∈ gtbl, w.before #[Value.ref b] s = true := fun w h => hts w (gtbl_tbl h)
  have hbA : ¬ (fun q : Nat => s.heap.size ≤ q) b := Nat.not_le.mpr hbl
  obtain ⟨u, w, hu, hw, euw, hI⟩ := hp C M hI (xs (Int32.toNatClampNeg (x3 + 1)))
  refine lv_aload_n hx hb dL_law_274 rfl (lv_at hl 1 rfl) ?_
  refine lv_aload_n hx hb dL_law_275 rfl (lv_at hl 0 rfl) ?_
  refine lv_iload_n hx hb dL_law_276 rfl (lv_at hl 3 rfl) ?_
  refine lv_iconst (v := 1) hx hb dL_law_277 (by decide) ?_
  refine lv_iadd hx hb dL_law_278 ?_
  refine va_sld hx hb hX hbl hbA hS (lw_at 1 ex hi (by decide) hL) dL_law_279 ?_
  have hC : ([0, 1, 2, 3, 12, 11] : List Nat).map (fun i => ([cw_X11 E (q 0) (q 1 0) (q 2 0) (q 4 0) (q 6 0) (q 8 0) (q 9 0) (q 10 0) (q 11 0) (q 12 0) (q 13 0) (q 14 0) (q 15 0) (C 0), cw_X8 E (q 1) (C 1), cw_X4 E (q 2) (q 3 0), cw_X9 E (q 3) (C 3), cw_X0 E (q 4) (q 5 0), cw_X9 E (q 5) (C 5), cw_X5 E (q 6) (q 7 0) (C 6), cw_X9 E (q 7) (C 7), cw_X6 E (q 8) (C 8), cw_X2 E (q 9) (C 9), cw_X10 E (q 10) (C 10), cw_X3 E (q 11) (C 11), cw_X3 E (q 12) (C 12), cw_X7 E (q 13) (C 13), cw_X7 E (q 14) (C 14), cw_X7 E (q 15) (C 15), cw_X12 E (q 16) M])[i]?) = ([cw_X11 E (q 0) (q 1 0) (q 2 0) (q 4 0) (q 6 0) (q 8 0) (q 9 0) (q 10 0) (q 11 0) (q 12 0) (q 13 0) (q 14 0) (q 15 0) (C 0), cw_X8 E (q 1) (C 1), cw_X4 E (q 2) (q 3 0), cw_X9 E (q 3) (C 3), cw_X3 E (q 12) (C 12), cw_X3 E (q 11) (C 11)] : List va_W).map some := rfl
  refine sg_i (gs' := [cw_X11 E (q 0) (q 1 0) (q 2 0) (q 4 0) (q 6 0) (q 8 0) (q 9 0) (q 10 0) (sw' u.2.1 (q 11 0) (q 12 0)) (sw' u.2.1 (q 12 0) (q 11 0)) (q 13 0) (q 14 0) (q 15 0) (C 0), cw_X8 E (q 1) u.2.2.1, cw_X4 E (q 2) (q 3 0), cw_X9 E (q 3) u.2.2.2.1, cw_X0 E (q 4) (q 5 0), cw_X9 E (q 5) (C 5), cw_X5 E (q 6) (q 7 0) (C 6), cw_X9 E (q 7) (C 7), cw_X6 E (q 8) (C 8), cw_X2 E (q 9) (C 9), cw_X10 E (q 10) (C 10), cw_X3 E (q 11) (C 11), cw_X3 E (q 12) u.2.2.2.2, cw_X7 E (q 13) (C 13), cw_X7 E (q 14) (C 14), cw_X7 E (q 15) (C 15), cw_X12 E (q 16) M]) (gc := [cw_X11 E (q 0) (q 1 0) (q 2 0) (q 4 0) (q 6 0) (q 8 0) (q 9 0) (q 10 0) (q 11 0) (q 12 0) (q 13 0) (q 14 0) (q 15 0) (C 0), cw_X8 E (q 1) (C 1), cw_X4 E (q 2) (q 3 0), cw_X9 E (q 3) (C 3), cw_X3 E (q 12) (C 12), cw_X3 E (q 11) (C 11)]) (g1 := [cw_X11 E (q 0) (q 1 0) (q 2 0) (q 4 0) (q 6 0) (q 8 0) (q 9 0) (q 10 0) (sw' u.2.1 (q 11 0) (q 12 0)) (sw' u.2.1 (q 12 0) (q 11 0)) (q 13 0) (q 14 0) (q 15 0) (C 0), cw_X8 E (q 1) u.2.2.1, cw_X4 E (q 2) (q 3 0), cw_X9 E (q 3) u.2.2.2.1, cw_X3 E (q 12) u.2.2.2.2, cw_X3 E (q 11) (C 11)]) X hP hD hS [0, 1, 2, 3, 12, 11] (by decide) (va_runV (C := RX11) (As := [.int (xs (Int32.toNatClampNeg (x3 + 1)))]) (rest := []) ⟨hx, hb, hml, hown, hg⟩ (c_X11_law l E (q 0) (q 1) (q 2) (q 3) (q 12) (q 11) (q 4 0) (q 6 0) (q 8 0) (q 9 0) (q 10 0) (q 13 0) (q 14 0) (q 15 0) H.size (C 0) (C 1) (C 3) (C 12) (C 11) (xs (Int32.toNatClampNeg (x3 + 1))) u hu) (cwV 1 hg (gwV wm_L_23 wi_X11_law wsl_X11_law wini_X11 wco_X11_law) rfl rfl rfl (by decide +kernel) ⟨Nat.le_of_ble_eq_true rfl, Nat.le_of_ble_eq_true rfl⟩) ⟨ct_blind, sg_rv X.1 hP 0 rfl rfl rfl, sg_pre X hP hD hS [0, 1, 2, 3, 12, 11] (by decide) hC _⟩ rfl rfl hl.1 rfl (lv_room (Nat.le_of_ble_eq_true rfl)) dL_law_280 ⟨Nat.le_of_ble_eq_true rfl, Nat.le_of_ble_eq_true rfl⟩) hC rfl rfl rfl (fun H locs hP hD hS => ?_)
  clear hC
  refine lv_aload_n hx hb dL_law_283 rfl (lv_at hl 2 rfl) ?_
  refine lv_aload_n hx hb dL_law_284 rfl (lv_at hl 0 rfl) ?_
  refine lv_iload_n hx hb dL_law_285 rfl (lv_at hl 3 rfl) ?_
  refine lv_iconst (v := 1) hx hb dL_law_286 (by decide) ?_
  refine lv_iadd hx hb dL_law_287 ?_
  refine va_sld hx hb hX hbl hbA hS (lw_at 1 ex hi (by decide) hL) dL_law_288 ?_
  have hC : ([16] : List Nat).map (fun i => ([cw_X11 E (q 0) (q 1 0) (q 2 0) (q 4 0) (q 6 0) (q 8 0) (q 9 0) (q 10 0) (sw' u.2.1 (q 11 0) (q 12 0)) (sw' u.2.1 (q 12 0) (q 11 0)) (q 13 0) (q 14 0) (q 15 0) (C 0), cw_X8 E (q 1) u.2.2.1, cw_X4 E (q 2) (q 3 0), cw_X9 E (q 3) u.2.2.2.1, cw_X0 E (q 4) (q 5 0), cw_X9 E (q 5) (C 5), cw_X5 E (q 6) (q 7 0) (C 6), cw_X9 E (q 7) (C 7), cw_X6 E (q 8) (C 8), cw_X2 E (q 9) (C 9), cw_X10 E (q 10) (C 10), cw_X3 E (q 11) (C 11), cw_X3 E (q 12) u.2.2.2.2, cw_X7 E (q 13) (C 13), cw_X7 E (q 14) (C 14), cw_X7 E (q 15) (C 15), cw_X12 E (q 16) M])[i]?) = ([cw_X12 E (q 16) M] : List va_W).map some := rfl
  refine sg_i (gs' := [cw_X11 E (q 0) (q 1 0) (q 2 0) (q 4 0) (q 6 0) (q 8 0) (q 9 0) (q 10 0) (sw' u.2.1 (q 11 0) (q 12 0)) (sw' u.2.1 (q 12 0) (q 11 0)) (q 13 0) (q 14 0) (q 15 0) (C 0), cw_X8 E (q 1) u.2.2.1, cw_X4 E (q 2) (q 3 0), cw_X9 E (q 3) u.2.2.2.1, cw_X0 E (q 4) (q 5 0), cw_X9 E (q 5) (C 5), cw_X5 E (q 6) (q 7 0) (C 6), cw_X9 E (q 7) (C 7), cw_X6 E (q 8) (C 8), cw_X2 E (q 9) (C 9), cw_X10 E (q 10) (C 10), cw_X3 E (q 11) (C 11), cw_X3 E (q 12) u.2.2.2.2, cw_X7 E (q 13) (C 13), cw_X7 E (q 14) (C 14), cw_X7 E (q 15) (C 15), cw_X12 E (q 16) w.2]) (gc := [cw_X12 E (q 16) M]) (g1 := [cw_X12 E (q 16) w.2]) X hP hD hS [16] (by decide) (va_runV (C := RX12) (As := [.int (xs (Int32.toNatClampNeg (x3 + 1)))]) (rest := [.int u.1]) ⟨hx, hb, hml, hown, hg⟩ (c_X12_law l E (q 16) H.size M (xs (Int32.toNatClampNeg (x3 + 1))) w hw) (cwV 1 hg (gwV wm_L_27 wi_X12_law wsl_X12_law wini_X12 wco_X12_law) rfl rfl rfl (by decide +kernel) ⟨Nat.le_of_ble_eq_true rfl, Nat.le_of_ble_eq_true rfl⟩) ⟨ct_blind, sg_rv X.1 hP 16 rfl rfl rfl, sg_pre X hP hD hS [16] (by decide) hC _⟩ rfl rfl hl.1 rfl (lv_room (Nat.le_of_ble_eq_true rfl)) dL_law_289 ⟨Nat.le_of_ble_eq_true rfl, Nat.le_of_ble_eq_true rfl⟩) hC rfl rfl rfl (fun H locs hP hD hS => ?_)
  clear hC
  refine lv_icmp_eq (tgt := 1109) hx hb dL_law_292 (by decide) (fun _ => ?_) (fun c9 => absurd euw c9)
  by_cases h0 : u.2.1 = 0
  · simp only [sw_0 h0] at hP hD
    rw [show sc' u.2.1 11 12 (va_up (va_up (va_up C 1 u.2.2.1) 3 u.2.2.2.1) 12 u.2.2.2.2) = (va_up (va_up (va_up C 1 u.2.2.1) 3 u.2.2.2.1) 12 u.2.2.2.2) from if_pos h0] at hI
    exact KK q (va_up (va_up (va_up C 1 u.2.2.1) 3 u.2.2.2.1) 12 u.2.2.2.2) w.2 H locs ls hI hP hD hS hl
  · simp only [sw_1 h0] at hP hD
    rw [show sc' u.2.1 11 12 (va_up (va_up (va_up C 1 u.2.2.1) 3 u.2.2.2.1) 12 u.2.2.2.2) = (fun i => if i = 11 then (va_up (va_up (va_up C 1 u.2.2.1) 3 u.2.2.2.1) 12 u.2.2.2.2) 12 else if i = 12 then (va_up (va_up (va_up C 1 u.2.2.1) 3 u.2.2.2.1) 12 u.2.2.2.2) 11 else (va_up (va_up (va_up C 1 u.2.2.1) 3 u.2.2.2.1) 12 u.2.2.2.2) i) from if_neg h0] at hI
    have hC : ([0, 1, 2, 3, 4, 5, 6, 7, 8, 9, 10, 12, 11, 13, 14, 15, 16] : List Nat).map (fun i => ([cw_X11 E (q 0) (q 1 0) (q 2 0) (q 4 0) (q 6 0) (q 8 0) (q 9 0) (q 10 0) (q 12 0) (q 11 0) (q 13 0) (q 14 0) (q 15 0) (C 0), cw_X8 E (q 1) u.2.2.1, cw_X4 E (q 2) (q 3 0), cw_X9 E (q 3) u.2.2.2.1, cw_X0 E (q 4) (q 5 0), cw_X9 E (q 5) (C 5), cw_X5 E (q 6) (q 7 0) (C 6), cw_X9 E (q 7) (C 7), cw_X6 E (q 8) (C 8), cw_X2 E (q 9) (C 9), cw_X10 E (q 10) (C 10), cw_X3 E (q 11) (C 11), cw_X3 E (q 12) u.2.2.2.2, cw_X7 E (q 13) (C 13), cw_X7 E (q 14) (C 14), cw_X7 E (q 15) (C 15), cw_X12 E (q 16) w.2])[i]?) = (gsL E (sq' 11 12 q) (fun i => if i = 11 then (va_up (va_up (va_up C 1 u.2.2.1) 3 u.2.2.2.1) 12 u.2.2.2.2) 12 else if i = 12 then (va_up (va_up (va_up C 1 u.2.2.1) 3 u.2.2.2.1) 12 u.2.2.2.2) 11 else (va_up (va_up (va_up C 1 u.2.2.1) 3 u.2.2.2.1) 12 u.2.2.2.2) i) w.2).map some := rfl
    exact KK (sq' 11 12 q) _ _ H locs ls hI (hP.perm _ hC) (sg_cD hD (by decide) hC) hS hl
set_option maxHeartbeats 4000000 in
set_option maxRecDepth 100000 in
theorem law_chart {p : Program} {l : Launch} {e : Env} {s : State} {m : MethodId} {below : List Frame} {meth : Method} {c : Code} {E : Ec} {b L : Nat} {xs : Nat → Int32} {I : (Nat → Gr) → Gr → Prop} (hL : L ≤ 3072) (C0 : lw_At p s m meth c b L xs) (X : ctX E (fun q : Nat => s.heap.size ≤ q) s) (hp : hp_chart I) {i : Nat} {x3 : Int32} (ex : x3 = nI i) (hi : i + 6 ≤ L) (q : Nat → Nat → Nat) (C : Nat → Gr) (M : Gr) (hI : I C M) (H : Heap) (locs : List Loc) (ls : Array Slot) (hP : sP E (gsL E q C M) H) (hD : sD (fun q : Nat => s.heap.size ≤ q) (gsL E q C M)) (hS : va_S (fun q : Nat => s.heap.size ≤ q) s.heap H locs) (hl : lv_has ls 4 [(0, .ref b), (1, .ref (q 0 0)), (2, .ref (q 16 0)), (3, .int x3)]) (KK : ∀ (q : Nat → Nat → Nat) (C : Nat → Gr) (M : Gr) (H : Heap) (locs : List Loc) (ls : Array Slot), I C M → sP E (gsL E q C M) H → sD (fun q : Nat => s.heap.size ≤ q) (gsL E q C M) → va_S (fun q : Nat => s.heap.size ≤ q) s.heap H locs → lv_has ls 4 [(0, .ref b), (1, .ref (q 0 0)), (2, .ref (q 16 0)), (3, .int x3)] → W p l e room_1 s m #[Value.ref b] below meth c H locs 600000 7302250 (lw_Z below #[Value.ref b] s) (F0 m 1109 ls [])) : W p l e room_1 s m #[Value.ref b] below meth c H locs 600000 7302250 (lw_Z below #[Value.ref b] s) (F0 m 297 ls []) := by
  obtain ⟨hx, hb, hr, hml, hown, hts, hX, hbl, hlocks, hgv⟩ := C0
  have hg : ∀ w ∈ gtbl, w.before #[Value.ref b] s = true := fun w h => hts w (gtbl_tbl h)
  have hbA : ¬ (fun q : Nat => s.heap.size ≤ q) b := Nat.not_le.mpr hbl
  obtain ⟨u, w, hu, hw, euw, hI⟩ := hp C M hI (xs (Int32.toNatClampNeg (x3 + 1)))
  refine lv_aload_n hx hb dL_law_297 rfl (lv_at hl 1 rfl) ?_
  refine lv_aload_n hx hb dL_law_298 rfl (lv_at hl 0 rfl) ?_
  refine lv_iload_n hx hb dL_law_299 rfl (lv_at hl 3 rfl) ?_
  refine lv_iconst (v := 1) hx hb dL_law_300 (by decide) ?_
  refine lv_iadd hx hb dL_law_301 ?_
  refine va_sld hx hb hX hbl hbA hS (lw_at 1 ex hi (by decide) hL) dL_law_302 ?_
  have hC : ([0, 1, 4, 5, 14, 13] : List Nat).map (fun i => ([cw_X11 E (q 0) (q 1 0) (q 2 0) (q 4 0) (q 6 0) (q 8 0) (q 9 0) (q 10 0) (q 11 0) (q 12 0) (q 13 0) (q 14 0) (q 15 0) (C 0), cw_X8 E (q 1) (C 1), cw_X4 E (q 2) (q 3 0), cw_X9 E (q 3) (C 3), cw_X0 E (q 4) (q 5 0), cw_X9 E (q 5) (C 5), cw_X5 E (q 6) (q 7 0) (C 6), cw_X9 E (q 7) (C 7), cw_X6 E (q 8) (C 8), cw_X2 E (q 9) (C 9), cw_X10 E (q 10) (C 10), cw_X3 E (q 11) (C 11), cw_X3 E (q 12) (C 12), cw_X7 E (q 13) (C 13), cw_X7 E (q 14) (C 14), cw_X7 E (q 15) (C 15), cw_X12 E (q 16) M])[i]?) = ([cw_X11 E (q 0) (q 1 0) (q 2 0) (q 4 0) (q 6 0) (q 8 0) (q 9 0) (q 10 0) (q 11 0) (q 12 0) (q 13 0) (q 14 0) (q 15 0) (C 0), cw_X8 E (q 1) (C 1), cw_X0 E (q 4) (q 5 0), cw_X9 E (q 5) (C 5), cw_X7 E (q 14) (C 14), cw_X7 E (q 13) (C 13)] : List va_W).map some := rfl
  refine sg_i (gs' := [cw_X11 E (q 0) (q 1 0) (q 2 0) (q 4 0) (q 6 0) (q 8 0) (q 9 0) (q 10 0) (q 11 0) (q 12 0) (sw' u.2.1 (q 13 0) (q 14 0)) (sw' u.2.1 (q 14 0) (q 13 0)) (q 15 0) (C 0), cw_X8 E (q 1) u.2.2.1, cw_X4 E (q 2) (q 3 0), cw_X9 E (q 3) (C 3), cw_X0 E (q 4) (q 5 0), cw_X9 E (q 5) u.2.2.2.1, cw_X5 E (q 6) (q 7 0) (C 6), cw_X9 E (q 7) (C 7), cw_X6 E (q 8) (C 8), cw_X2 E (q 9) (C 9), cw_X10 E (q 10) (C 10), cw_X3 E (q 11) (C 11), cw_X3 E (q 12) (C 12), cw_X7 E (q 13) (C 13), cw_X7 E (q 14) u.2.2.2.2, cw_X7 E (q 15) (C 15), cw_X12 E (q 16) M]) (gc := [cw_X11 E (q 0) (q 1 0) (q 2 0) (q 4 0) (q 6 0) (q 8 0) (q 9 0) (q 10 0) (q 11 0) (q 12 0) (q 13 0) (q 14 0) (q 15 0) (C 0), cw_X8 E (q 1) (C 1), cw_X0 E (q 4) (q 5 0), cw_X9 E (q 5) (C 5), cw_X7 E (q 14) (C 14), cw_X7 E (q 13) (C 13)]) (g1 := [cw_X11 E (q 0) (q 1 0) (q 2 0) (q 4 0) (q 6 0) (q 8 0) (q 9 0) (q 10 0) (q 11 0) (q 12 0) (sw' u.2.1 (q 13 0) (q 14 0)) (sw' u.2.1 (q 14 0) (q 13 0)) (q 15 0) (C 0), cw_X8 E (q 1) u.2.2.1, cw_X0 E (q 4) (q 5 0), cw_X9 E (q 5) u.2.2.2.1, cw_X7 E (q 14) u.2.2.2.2, cw_X7 E (q 13) (C 13)]) X hP hD hS [0, 1, 4, 5, 14, 13] (by decide) (va_runV (C := RX11) (As := [.int (xs (Int32.toNatClampNeg (x3 + 1)))]) (rest := []) ⟨hx, hb, hml, hown, hg⟩ (c_X11_chart l E (q 0) (q 1) (q 4) (q 5) (q 14) (q 13) (q 2 0) (q 6 0) (q 8 0) (q 9 0) (q 10 0) (q 11 0) (q 12 0) (q 15 0) H.size (C 0) (C 1) (C 5) (C 14) (C 13) (xs (Int32.toNatClampNeg (x3 + 1))) u hu) (cwV 1 hg (gwV wm_L_28 wi_X11_chart wsl_X11_chart wini_X11 wco_X11_chart) rfl rfl rfl (by decide +kernel) ⟨Nat.le_of_ble_eq_true rfl, Nat.le_of_ble_eq_true rfl⟩) ⟨ct_blind, sg_rv X.1 hP 0 rfl rfl rfl, sg_pre X hP hD hS [0, 1, 4, 5, 14, 13] (by decide) hC _⟩ rfl rfl hl.1 rfl (lv_room (Nat.le_of_ble_eq_true rfl)) dL_law_303 ⟨Nat.le_of_ble_eq_true rfl, Nat.le_of_ble_eq_true rfl⟩) hC rfl rfl rfl (fun H locs hP hD hS => ?_)
  clear hC
  refine lv_aload_n hx hb dL_law_306 rfl (lv_at hl 2 rfl) ?_
  refine lv_aload_n hx hb dL_law_307 rfl (lv_at hl 0 rfl) ?_
  refine lv_iload_n hx hb dL_law_308 rfl (lv_at hl 3 rfl) ?_
  refine lv_iconst (v := 1) hx hb dL_law_309 (by decide) ?_
  refine lv_iadd hx hb dL_law_310 ?_
  refine va_sld hx hb hX hbl hbA hS (lw_at 1 ex hi (by decide) hL) dL_law_311 ?_
  have hC : ([16] : List Nat).map (fun i => ([cw_X11 E (q 0) (q 1 0) (q 2 0) (q 4 0) (q 6 0) (q 8 0) (q 9 0) (q 10 0) (q 11 0) (q 12 0) (sw' u.2.1 (q 13 0) (q 14 0)) (sw' u.2.1 (q 14 0) (q 13 0)) (q 15 0) (C 0), cw_X8 E (q 1) u.2.2.1, cw_X4 E (q 2) (q 3 0), cw_X9 E (q 3) (C 3), cw_X0 E (q 4) (q 5 0), cw_X9 E (q 5) u.2.2.2.1, cw_X5 E (q 6) (q 7 0) (C 6), cw_X9 E (q 7) (C 7), cw_X6 E (q 8) (C 8), cw_X2 E (q 9) (C 9), cw_X10 E (q 10) (C 10), cw_X3 E (q 11) (C 11), cw_X3 E (q 12) (C 12), cw_X7 E (q 13) (C 13), cw_X7 E (q 14) u.2.2.2.2, cw_X7 E (q 15) (C 15), cw_X12 E (q 16) M])[i]?) = ([cw_X12 E (q 16) M] : List va_W).map some := rfl
  refine sg_i (gs' := [cw_X11 E (q 0) (q 1 0) (q 2 0) (q 4 0) (q 6 0) (q 8 0) (q 9 0) (q 10 0) (q 11 0) (q 12 0) (sw' u.2.1 (q 13 0) (q 14 0)) (sw' u.2.1 (q 14 0) (q 13 0)) (q 15 0) (C 0), cw_X8 E (q 1) u.2.2.1, cw_X4 E (q 2) (q 3 0), cw_X9 E (q 3) (C 3), cw_X0 E (q 4) (q 5 0), cw_X9 E (q 5) u.2.2.2.1, cw_X5 E (q 6) (q 7 0) (C 6), cw_X9 E (q 7) (C 7), cw_X6 E (q 8) (C 8), cw_X2 E (q 9) (C 9), cw_X10 E (q 10) (C 10), cw_X3 E (q 11) (C 11), cw_X3 E (q 12) (C 12), cw_X7 E (q 13) (C 13), cw_X7 E (q 14) u.2.2.2.2, cw_X7 E (q 15) (C 15), cw_X12 E (q 16) w.2]) (gc := [cw_X12 E (q 16) M]) (g1 := [cw_X12 E (q 16) w.2]) X hP hD hS [16] (by decide) (va_runV (C := RX12) (As := [.int (xs (Int32.toNatClampNeg (x3 + 1)))]) (rest := [.int u.1]) ⟨hx, hb, hml, hown, hg⟩ (c_X12_chart l E (q 16) H.size M (xs (Int32.toNatClampNeg (x3 + 1))) w hw) (cwV 1 hg (gwV wm_L_31 wi_X12_chart wsl_X12_chart wini_X12 wco_X12_chart) rfl rfl rfl (by decide +kernel) ⟨Nat.le_of_ble_eq_true rfl, Nat.le_of_ble_eq_true rfl⟩) ⟨ct_blind, sg_rv X.1 hP 16 rfl rfl rfl, sg_pre X hP hD hS [16] (by decide) hC _⟩ rfl rfl hl.1 rfl (lv_room (Nat.le_of_ble_eq_true rfl)) dL_law_312 ⟨Nat.le_of_ble_eq_true rfl, Nat.le_of_ble_eq_true rfl⟩) hC rfl rfl rfl (fun H locs hP hD hS => ?_)
  clear hC
  refine lv_icmp_eq (tgt := 1109) hx hb dL_law_315 (by decide) (fun _ => ?_) (fun c9 => absurd euw c9)
  by_cases h0 : u.2.1 = 0
  · simp only [sw_0 h0] at hP hD
    rw [show sc' u.2.1 13 14 (va_up (va_up (va_up C 1 u.2.2.1) 5 u.2.2.2.1) 14 u.2.2.2.2) = (va_up (va_up (va_up C 1 u.2.2.1) 5 u.2.2.2.1) 14 u.2.2.2.2) from if_pos h0] at hI
    exact KK q (va_up (va_up (va_up C 1 u.2.2.1) 5 u.2.2.2.1) 14 u.2.2.2.2) w.2 H locs ls hI hP hD hS hl
  · simp only [sw_1 h0] at hP hD
    rw [show sc' u.2.1 13 14 (va_up (va_up (va_up C 1 u.2.2.1) 5 u.2.2.2.1) 14 u.2.2.2.2) = (fun i => if i = 13 then (va_up (va_up (va_up C 1 u.2.2.1) 5 u.2.2.2.1) 14 u.2.2.2.2) 14 else if i = 14 then (va_up (va_up (va_up C 1 u.2.2.1) 5 u.2.2.2.1) 14 u.2.2.2.2) 13 else (va_up (va_up (va_up C 1 u.2.2.1) 5 u.2.2.2.1) 14 u.2.2.2.2) i) from if_neg h0] at hI
    have hC : ([0, 1, 2, 3, 4, 5, 6, 7, 8, 9, 10, 11, 12, 14, 13, 15, 16] : List Nat).map (fun i => ([cw_X11 E (q 0) (q 1 0) (q 2 0) (q 4 0) (q 6 0) (q 8 0) (q 9 0) (q 10 0) (q 11 0) (q 12 0) (q 14 0) (q 13 0) (q 15 0) (C 0), cw_X8 E (q 1) u.2.2.1, cw_X4 E (q 2) (q 3 0), cw_X9 E (q 3) (C 3), cw_X0 E (q 4) (q 5 0), cw_X9 E (q 5) u.2.2.2.1, cw_X5 E (q 6) (q 7 0) (C 6), cw_X9 E (q 7) (C 7), cw_X6 E (q 8) (C 8), cw_X2 E (q 9) (C 9), cw_X10 E (q 10) (C 10), cw_X3 E (q 11) (C 11), cw_X3 E (q 12) (C 12), cw_X7 E (q 13) (C 13), cw_X7 E (q 14) u.2.2.2.2, cw_X7 E (q 15) (C 15), cw_X12 E (q 16) w.2])[i]?) = (gsL E (sq' 13 14 q) (fun i => if i = 13 then (va_up (va_up (va_up C 1 u.2.2.1) 5 u.2.2.2.1) 14 u.2.2.2.2) 14 else if i = 14 then (va_up (va_up (va_up C 1 u.2.2.1) 5 u.2.2.2.1) 14 u.2.2.2.2) 13 else (va_up (va_up (va_up C 1 u.2.2.1) 5 u.2.2.2.1) 14 u.2.2.2.2) i) w.2).map some := rfl
    exact KK (sq' 13 14 q) _ _ H locs ls hI (hP.perm _ hC) (sg_cD hD (by decide) hC) hS hl
set_option maxHeartbeats 4000000 in
set_option maxRecDepth 100000 in
theorem law_hours {p : Program} {l : Launch} {e : Env} {s : State} {m : MethodId} {below : List Frame} {meth : Method} {c : Code} {E : Ec} {b L : Nat} {xs : Nat → Int32} {I : (Nat → Gr) → Gr → Prop} (hL : L ≤ 3072) (C0 : lw_At p s m meth c b L xs) (X : ctX E (fun q : Nat => s.heap.size ≤ q) s) (hp : hp_hours I) {i : Nat} {x3 : Int32} (ex : x3 = nI i) (hi : i + 6 ≤ L) (q : Nat → Nat → Nat) (C : Nat → Gr) (M : Gr) (hI : I C M) (H : Heap) (locs : List Loc) (ls : Array Slot) (hP : sP E (gsL E q C M) H) (hD : sD (fun q : Nat => s.heap.size ≤ q) (gsL E q C M)) (hS : va_S (fun q : Nat => s.heap.size ≤ q) s.heap H locs) (hl : lv_has ls 4 [(0, .ref b), (1, .ref (q 0 0)), (2, .ref (q 16 0)), (3, .int x3)]) (KK : ∀ (q : Nat → Nat → Nat) (C : Nat → Gr) (M : Gr) (H : Heap) (locs : List Loc) (ls : Array Slot), I C M → sP E (gsL E q C M) H → sD (fun q : Nat => s.heap.size ≤ q) (gsL E q C M) → va_S (fun q : Nat => s.heap.size ≤ q) s.heap H locs → lv_has ls 4 [(0, .ref b), (1, .ref (q 0 0)), (2, .ref (q 16 0)), (3, .int x3)] → W p l e room_1 s m #[Value.ref b] below meth c H locs 600000 7302250 (lw_Z below #[Value.ref b] s) (F0 m 1109 ls [])) : W p l e room_1 s m #[Value.ref b] below meth c H locs 600000 7302250 (lw_Z below #[Value.ref b] s) (F0 m 320 ls []) := by
  obtain ⟨hx, hb, hr, hml, hown, hts, hX, hbl, hlocks, hgv⟩ := C0
  have hg : ∀ w ∈ gtbl, w.before #[Value.ref b] s = true := fun w h => hts w (gtbl_tbl h)
  have hbA : ¬ (fun q : Nat => s.heap.size ≤ q) b := Nat.not_le.mpr hbl
  obtain ⟨u, w, hu, hw, euw, hI⟩ := hp C M hI (xs (Int32.toNatClampNeg (x3 + 1)))
  refine lv_aload_n hx hb dL_law_320 rfl (lv_at hl 1 rfl) ?_
  refine lv_aload_n hx hb dL_law_321 rfl (lv_at hl 0 rfl) ?_
  refine lv_iload_n hx hb dL_law_322 rfl (lv_at hl 3 rfl) ?_
  refine lv_iconst (v := 1) hx hb dL_law_323 (by decide) ?_
  refine lv_iadd hx hb dL_law_324 ?_
  refine va_sld hx hb hX hbl hbA hS (lw_at 1 ex hi (by decide) hL) dL_law_325 ?_
  have hC : ([0, 13, 11] : List Nat).map (fun i => ([cw_X11 E (q 0) (q 1 0) (q 2 0) (q 4 0) (q 6 0) (q 8 0) (q 9 0) (q 10 0) (q 11 0) (q 12 0) (q 13 0) (q 14 0) (q 15 0) (C 0), cw_X8 E (q 1) (C 1), cw_X4 E (q 2) (q 3 0), cw_X9 E (q 3) (C 3), cw_X0 E (q 4) (q 5 0), cw_X9 E (q 5) (C 5), cw_X5 E (q 6) (q 7 0) (C 6), cw_X9 E (q 7) (C 7), cw_X6 E (q 8) (C 8), cw_X2 E (q 9) (C 9), cw_X10 E (q 10) (C 10), cw_X3 E (q 11) (C 11), cw_X3 E (q 12) (C 12), cw_X7 E (q 13) (C 13), cw_X7 E (q 14) (C 14), cw_X7 E (q 15) (C 15), cw_X12 E (q 16) M])[i]?) = ([cw_X11 E (q 0) (q 1 0) (q 2 0) (q 4 0) (q 6 0) (q 8 0) (q 9 0) (q 10 0) (q 11 0) (q 12 0) (q 13 0) (q 14 0) (q 15 0) (C 0), cw_X7 E (q 13) (C 13), cw_X3 E (q 11) (C 11)] : List va_W).map some := rfl
  refine sg_i (gs' := [cw_X11 E (q 0) (q 1 0) (q 2 0) (q 4 0) (q 6 0) (q 8 0) (q 9 0) (q 10 0) (q 11 0) (q 12 0) (q 13 0) (q 14 0) (q 15 0) (C 0), cw_X8 E (q 1) (C 1), cw_X4 E (q 2) (q 3 0), cw_X9 E (q 3) (C 3), cw_X0 E (q 4) (q 5 0), cw_X9 E (q 5) (C 5), cw_X5 E (q 6) (q 7 0) (C 6), cw_X9 E (q 7) (C 7), cw_X6 E (q 8) (C 8), cw_X2 E (q 9) (C 9), cw_X10 E (q 10) (C 10), cw_X3 E (q 11) u.2.2, cw_X3 E (q 12) (C 12), cw_X7 E (q 13) u.2.1, cw_X7 E (q 14) (C 14), cw_X7 E (q 15) (C 15), cw_X12 E (q 16) M]) (gc := [cw_X11 E (q 0) (q 1 0) (q 2 0) (q 4 0) (q 6 0) (q 8 0) (q 9 0) (q 10 0) (q 11 0) (q 12 0) (q 13 0) (q 14 0) (q 15 0) (C 0), cw_X7 E (q 13) (C 13), cw_X3 E (q 11) (C 11)]) (g1 := [cw_X11 E (q 0) (q 1 0) (q 2 0) (q 4 0) (q 6 0) (q 8 0) (q 9 0) (q 10 0) (q 11 0) (q 12 0) (q 13 0) (q 14 0) (q 15 0) (C 0), cw_X7 E (q 13) u.2.1, cw_X3 E (q 11) u.2.2]) X hP hD hS [0, 13, 11] (by decide) (va_runV (C := RX11) (As := [.int (xs (Int32.toNatClampNeg (x3 + 1)))]) (rest := []) ⟨hx, hb, hml, hown, hg⟩ (c_X11_hours l E (q 0) (q 13) (q 11) (q 1 0) (q 2 0) (q 4 0) (q 6 0) (q 8 0) (q 9 0) (q 10 0) (q 12 0) (q 14 0) (q 15 0) H.size (C 0) (C 13) (C 11) (xs (Int32.toNatClampNeg (x3 + 1))) u hu) (cwV 1 hg (gwV wm_L_32 wi_X11_hours wsl_X11_hours wini_X11 wco_X11_hours) rfl rfl rfl (by decide +kernel) ⟨Nat.le_of_ble_eq_true rfl, Nat.le_of_ble_eq_true rfl⟩) ⟨ct_blind, sg_rv X.1 hP 0 rfl rfl rfl, sg_pre X hP hD hS [0, 13, 11] (by decide) hC _⟩ rfl rfl hl.1 rfl (lv_room (Nat.le_of_ble_eq_true rfl)) dL_law_326 ⟨Nat.le_of_ble_eq_true rfl, Nat.le_of_ble_eq_true rfl⟩) hC rfl rfl rfl (fun H locs hP hD hS => ?_)
  clear hC
  refine lv_aload_n hx hb dL_law_329 rfl (lv_at hl 2 rfl) ?_
  refine lv_aload_n hx hb dL_law_330 rfl (lv_at hl 0 rfl) ?_
  refine lv_iload_n hx hb dL_law_331 rfl (lv_at hl 3 rfl) ?_
  refine lv_iconst (v := 1) hx hb dL_law_332 (by decide) ?_
  refine lv_iadd hx hb dL_law_333 ?_
  refine va_sld hx hb hX hbl hbA hS (lw_at 1 ex hi (by decide) hL) dL_law_334 ?_
  have hC : ([16] : List Nat).map (fun i => ([cw_X11 E (q 0) (q 1 0) (q 2 0) (q 4 0) (q 6 0) (q 8 0) (q 9 0) (q 10 0) (q 11 0) (q 12 0) (q 13 0) (q 14 0) (q 15 0) (C 0), cw_X8 E (q 1) (C 1), cw_X4 E (q 2) (q 3 0), cw_X9 E (q 3) (C 3), cw_X0 E (q 4) (q 5 0), cw_X9 E (q 5) (C 5), cw_X5 E (q 6) (q 7 0) (C 6), cw_X9 E (q 7) (C 7), cw_X6 E (q 8) (C 8), cw_X2 E (q 9) (C 9), cw_X10 E (q 10) (C 10), cw_X3 E (q 11) u.2.2, cw_X3 E (q 12) (C 12), cw_X7 E (q 13) u.2.1, cw_X7 E (q 14) (C 14), cw_X7 E (q 15) (C 15), cw_X12 E (q 16) M])[i]?) = ([cw_X12 E (q 16) M] : List va_W).map some := rfl
  refine sg_i (gs' := [cw_X11 E (q 0) (q 1 0) (q 2 0) (q 4 0) (q 6 0) (q 8 0) (q 9 0) (q 10 0) (q 11 0) (q 12 0) (q 13 0) (q 14 0) (q 15 0) (C 0), cw_X8 E (q 1) (C 1), cw_X4 E (q 2) (q 3 0), cw_X9 E (q 3) (C 3), cw_X0 E (q 4) (q 5 0), cw_X9 E (q 5) (C 5), cw_X5 E (q 6) (q 7 0) (C 6), cw_X9 E (q 7) (C 7), cw_X6 E (q 8) (C 8), cw_X2 E (q 9) (C 9), cw_X10 E (q 10) (C 10), cw_X3 E (q 11) u.2.2, cw_X3 E (q 12) (C 12), cw_X7 E (q 13) u.2.1, cw_X7 E (q 14) (C 14), cw_X7 E (q 15) (C 15), cw_X12 E (q 16) w.2]) (gc := [cw_X12 E (q 16) M]) (g1 := [cw_X12 E (q 16) w.2]) X hP hD hS [16] (by decide) (va_runV (C := RX12) (As := [.int (xs (Int32.toNatClampNeg (x3 + 1)))]) (rest := [.int u.1]) ⟨hx, hb, hml, hown, hg⟩ (c_X12_hours l E (q 16) H.size M (xs (Int32.toNatClampNeg (x3 + 1))) w hw) (cwV 1 hg (gwV wm_L_35 wi_X12_hours wsl_X12_hours wini_X12 wco_X12_hours) rfl rfl rfl (by decide +kernel) ⟨Nat.le_of_ble_eq_true rfl, Nat.le_of_ble_eq_true rfl⟩) ⟨ct_blind, sg_rv X.1 hP 16 rfl rfl rfl, sg_pre X hP hD hS [16] (by decide) hC _⟩ rfl rfl hl.1 rfl (lv_room (Nat.le_of_ble_eq_true rfl)) dL_law_335 ⟨Nat.le_of_ble_eq_true rfl, Nat.le_of_ble_eq_true rfl⟩) hC rfl rfl rfl (fun H locs hP hD hS => ?_)
  clear hC
  refine lv_icmp_eq (tgt := 1109) hx hb dL_law_338 (by decide) (fun _ => ?_) (fun c9 => absurd euw c9)
  exact KK q (va_up (va_up C 13 u.2.1) 11 u.2.2) w.2 H locs ls hI hP hD hS hl
set_option maxHeartbeats 4000000 in
set_option maxRecDepth 100000 in
theorem law_tried {p : Program} {l : Launch} {e : Env} {s : State} {m : MethodId} {below : List Frame} {meth : Method} {c : Code} {E : Ec} {b L : Nat} {xs : Nat → Int32} {I : (Nat → Gr) → Gr → Prop} (hL : L ≤ 3072) (C0 : lw_At p s m meth c b L xs) (X : ctX E (fun q : Nat => s.heap.size ≤ q) s) (hp : hp_tried I) {i : Nat} {x3 : Int32} (ex : x3 = nI i) (hi : i + 6 ≤ L) (q : Nat → Nat → Nat) (C : Nat → Gr) (M : Gr) (hI : I C M) (H : Heap) (locs : List Loc) (ls : Array Slot) (hP : sP E (gsL E q C M) H) (hD : sD (fun q : Nat => s.heap.size ≤ q) (gsL E q C M)) (hS : va_S (fun q : Nat => s.heap.size ≤ q) s.heap H locs) (hl : lv_has ls 4 [(0, .ref b), (1, .ref (q 0 0)), (2, .ref (q 16 0)), (3, .int x3)]) (KK : ∀ (q : Nat → Nat → Nat) (C : Nat → Gr) (M : Gr) (H : Heap) (locs : List Loc) (ls : Array Slot), I C M → sP E (gsL E q C M) H → sD (fun q : Nat => s.heap.size ≤ q) (gsL E q C M) → va_S (fun q : Nat => s.heap.size ≤ q) s.heap H locs → lv_has ls 4 [(0, .ref b), (1, .ref (q 0 0)), (2, .ref (q 16 0)), (3, .int x3)] → W p l e room_1 s m #[Value.ref b] below meth c H locs 600000 7302250 (lw_Z below #[Value.ref b] s) (F0 m 1109 ls [])) : W p l e room_1 s m #[Value.ref b] below meth c H locs 600000 7302250 (lw_Z below #[Value.ref b] s) (F0 m 343 ls []) := by
  obtain ⟨hx, hb, hr, hml, hown, hts, hX, hbl, hlocks, hgv⟩ := C0
  have hg : ∀ w ∈ gtbl, w.before #[Value.ref b] s = true := fun w h => hts w (gtbl_tbl h)
  have hbA : ¬ (fun q : Nat => s.heap.size ≤ q) b := Nat.not_le.mpr hbl
  obtain ⟨u, w, hu, hw, euw, hI⟩ := hp C M hI (xs (Int32.toNatClampNeg (x3 + 1))) (xs (Int32.toNatClampNeg (x3 + 2)))
  refine lv_aload_n hx hb dL_law_343 rfl (lv_at hl 1 rfl) ?_
  refine lv_aload_n hx hb dL_law_344 rfl (lv_at hl 0 rfl) ?_
  refine lv_iload_n hx hb dL_law_345 rfl (lv_at hl 3 rfl) ?_
  refine lv_iconst (v := 1) hx hb dL_law_346 (by decide) ?_
  refine lv_iadd hx hb dL_law_347 ?_
  refine va_sld hx hb hX hbl hbA hS (lw_at 1 ex hi (by decide) hL) dL_law_348 ?_
  refine lv_aload_n hx hb dL_law_349 rfl (lv_at hl 0 rfl) ?_
  refine lv_iload_n hx hb dL_law_350 rfl (lv_at hl 3 rfl) ?_
  refine lv_iconst (v := 2) hx hb dL_law_351 (by decide) ?_
  refine lv_iadd hx hb dL_law_352 ?_
  refine va_sld hx hb hX hbl hbA hS (lw_at 2 ex hi (by decide) hL) dL_law_353 ?_
  have hC : ([0, 13, 14, 11] : List Nat).map (fun i => ([cw_X11 E (q 0) (q 1 0) (q 2 0) (q 4 0) (q 6 0) (q 8 0) (q 9 0) (q 10 0) (q 11 0) (q 12 0) (q 13 0) (q 14 0) (q 15 0) (C 0), cw_X8 E (q 1) (C 1), cw_X4 E (q 2) (q 3 0), cw_X9 E (q 3) (C 3), cw_X0 E (q 4) (q 5 0), cw_X9 E (q 5) (C 5), cw_X5 E (q 6) (q 7 0) (C 6), cw_X9 E (q 7) (C 7), cw_X6 E (q 8) (C 8), cw_X2 E (q 9) (C 9), cw_X10 E (q 10) (C 10), cw_X3 E (q 11) (C 11), cw_X3 E (q 12) (C 12), cw_X7 E (q 13) (C 13), cw_X7 E (q 14) (C 14), cw_X7 E (q 15) (C 15), cw_X12 E (q 16) M])[i]?) = ([cw_X11 E (q 0) (q 1 0) (q 2 0) (q 4 0) (q 6 0) (q 8 0) (q 9 0) (q 10 0) (q 11 0) (q 12 0) (q 13 0) (q 14 0) (q 15 0) (C 0), cw_X7 E (q 13) (C 13), cw_X7 E (q 14) (C 14), cw_X3 E (q 11) (C 11)] : List va_W).map some := rfl
  refine sg_i (gs' := [cw_X11 E (q 0) (q 1 0) (q 2 0) (q 4 0) (q 6 0) (q 8 0) (q 9 0) (q 10 0) (q 11 0) (q 12 0) (q 13 0) (q 14 0) (q 15 0) (C 0), cw_X8 E (q 1) (C 1), cw_X4 E (q 2) (q 3 0), cw_X9 E (q 3) (C 3), cw_X0 E (q 4) (q 5 0), cw_X9 E (q 5) (C 5), cw_X5 E (q 6) (q 7 0) (C 6), cw_X9 E (q 7) (C 7), cw_X6 E (q 8) (C 8), cw_X2 E (q 9) (C 9), cw_X10 E (q 10) (C 10), cw_X3 E (q 11) u.2.2, cw_X3 E (q 12) (C 12), cw_X7 E (q 13) (C 13), cw_X7 E (q 14) u.2.1, cw_X7 E (q 15) (C 15), cw_X12 E (q 16) M]) (gc := [cw_X11 E (q 0) (q 1 0) (q 2 0) (q 4 0) (q 6 0) (q 8 0) (q 9 0) (q 10 0) (q 11 0) (q 12 0) (q 13 0) (q 14 0) (q 15 0) (C 0), cw_X7 E (q 13) (C 13), cw_X7 E (q 14) (C 14), cw_X3 E (q 11) (C 11)]) (g1 := [cw_X11 E (q 0) (q 1 0) (q 2 0) (q 4 0) (q 6 0) (q 8 0) (q 9 0) (q 10 0) (q 11 0) (q 12 0) (q 13 0) (q 14 0) (q 15 0) (C 0), cw_X7 E (q 13) (C 13), cw_X7 E (q 14) u.2.1, cw_X3 E (q 11) u.2.2]) X hP hD hS [0, 13, 14, 11] (by decide) (va_runV (C := RX11) (As := [.int (xs (Int32.toNatClampNeg (x3 + 1))), .int (xs (Int32.toNatClampNeg (x3 + 2)))]) (rest := []) ⟨hx, hb, hml, hown, hg⟩ (c_X11_tried l E (q 0) (q 13) (q 14) (q 11) (q 1 0) (q 2 0) (q 4 0) (q 6 0) (q 8 0) (q 9 0) (q 10 0) (q 12 0) (q 15 0) H.size (C 0) (C 13) (C 14) (C 11) (xs (Int32.toNatClampNeg (x3 + 1))) (xs (Int32.toNatClampNeg (x3 + 2))) u hu) (cwV 2 hg (gwV wm_L_36 wi_X11_tried wsl_X11_tried wini_X11 wco_X11_tried) rfl rfl rfl (by decide +kernel) ⟨Nat.le_of_ble_eq_true rfl, Nat.le_of_ble_eq_true rfl⟩) ⟨ct_blind, sg_rv X.1 hP 0 rfl rfl rfl, sg_pre X hP hD hS [0, 13, 14, 11] (by decide) hC _⟩ rfl rfl hl.1 rfl (lv_room (Nat.le_of_ble_eq_true rfl)) dL_law_354 ⟨Nat.le_of_ble_eq_true rfl, Nat.le_of_ble_eq_true rfl⟩) hC rfl rfl rfl (fun H locs hP hD hS => ?_)
  clear hC
  refine lv_aload_n hx hb dL_law_357 rfl (lv_at hl 2 rfl) ?_
  refine lv_aload_n hx hb dL_law_358 rfl (lv_at hl 0 rfl) ?_
  refine lv_iload_n hx hb dL_law_359 rfl (lv_at hl 3 rfl) ?_
  refine lv_iconst (v := 1) hx hb dL_law_360 (by decide) ?_
  refine lv_iadd hx hb dL_law_361 ?_
  refine va_sld hx hb hX hbl hbA hS (lw_at 1 ex hi (by decide) hL) dL_law_362 ?_
  refine lv_aload_n hx hb dL_law_363 rfl (lv_at hl 0 rfl) ?_
  refine lv_iload_n hx hb dL_law_364 rfl (lv_at hl 3 rfl) ?_
  refine lv_iconst (v := 2) hx hb dL_law_365 (by decide) ?_
  refine lv_iadd hx hb dL_law_366 ?_
  refine va_sld hx hb hX hbl hbA hS (lw_at 2 ex hi (by decide) hL) dL_law_367 ?_
  have hC : ([16] : List Nat).map (fun i => ([cw_X11 E (q 0) (q 1 0) (q 2 0) (q 4 0) (q 6 0) (q 8 0) (q 9 0) (q 10 0) (q 11 0) (q 12 0) (q 13 0) (q 14 0) (q 15 0) (C 0), cw_X8 E (q 1) (C 1), cw_X4 E (q 2) (q 3 0), cw_X9 E (q 3) (C 3), cw_X0 E (q 4) (q 5 0), cw_X9 E (q 5) (C 5), cw_X5 E (q 6) (q 7 0) (C 6), cw_X9 E (q 7) (C 7), cw_X6 E (q 8) (C 8), cw_X2 E (q 9) (C 9), cw_X10 E (q 10) (C 10), cw_X3 E (q 11) u.2.2, cw_X3 E (q 12) (C 12), cw_X7 E (q 13) (C 13), cw_X7 E (q 14) u.2.1, cw_X7 E (q 15) (C 15), cw_X12 E (q 16) M])[i]?) = ([cw_X12 E (q 16) M] : List va_W).map some := rfl
  refine sg_i (gs' := [cw_X11 E (q 0) (q 1 0) (q 2 0) (q 4 0) (q 6 0) (q 8 0) (q 9 0) (q 10 0) (q 11 0) (q 12 0) (q 13 0) (q 14 0) (q 15 0) (C 0), cw_X8 E (q 1) (C 1), cw_X4 E (q 2) (q 3 0), cw_X9 E (q 3) (C 3), cw_X0 E (q 4) (q 5 0), cw_X9 E (q 5) (C 5), cw_X5 E (q 6) (q 7 0) (C 6), cw_X9 E (q 7) (C 7), cw_X6 E (q 8) (C 8), cw_X2 E (q 9) (C 9), cw_X10 E (q 10) (C 10), cw_X3 E (q 11) u.2.2, cw_X3 E (q 12) (C 12), cw_X7 E (q 13) (C 13), cw_X7 E (q 14) u.2.1, cw_X7 E (q 15) (C 15), cw_X12 E (q 16) w.2]) (gc := [cw_X12 E (q 16) M]) (g1 := [cw_X12 E (q 16) w.2]) X hP hD hS [16] (by decide) (va_runV (C := RX12) (As := [.int (xs (Int32.toNatClampNeg (x3 + 1))), .int (xs (Int32.toNatClampNeg (x3 + 2)))]) (rest := [.int u.1]) ⟨hx, hb, hml, hown, hg⟩ (c_X12_tried l E (q 16) H.size M (xs (Int32.toNatClampNeg (x3 + 1))) (xs (Int32.toNatClampNeg (x3 + 2))) w hw) (cwV 2 hg (gwV wm_L_40 wi_X12_tried wsl_X12_tried wini_X12 wco_X12_tried) rfl rfl rfl (by decide +kernel) ⟨Nat.le_of_ble_eq_true rfl, Nat.le_of_ble_eq_true rfl⟩) ⟨ct_blind, sg_rv X.1 hP 16 rfl rfl rfl, sg_pre X hP hD hS [16] (by decide) hC _⟩ rfl rfl hl.1 rfl (lv_room (Nat.le_of_ble_eq_true rfl)) dL_law_368 ⟨Nat.le_of_ble_eq_true rfl, Nat.le_of_ble_eq_true rfl⟩) hC rfl rfl rfl (fun H locs hP hD hS => ?_)
  clear hC
  refine lv_icmp_eq (tgt := 1109) hx hb dL_law_371 (by decide) (fun _ => ?_) (fun c9 => absurd euw c9)
  exact KK q (va_up (va_up C 14 u.2.1) 11 u.2.2) w.2 H locs ls hI hP hD hS hl
set_option maxHeartbeats 4000000 in
set_option maxRecDepth 100000 in
theorem law_webIs {p : Program} {l : Launch} {e : Env} {s : State} {m : MethodId} {below : List Frame} {meth : Method} {c : Code} {E : Ec} {b L : Nat} {xs : Nat → Int32} {I : (Nat → Gr) → Gr → Prop} (hL : L ≤ 3072) (C0 : lw_At p s m meth c b L xs) (X : ctX E (fun q : Nat => s.heap.size ≤ q) s) (hp : hp_webIs I) {i : Nat} {x3 : Int32} (ex : x3 = nI i) (hi : i + 6 ≤ L) (q : Nat → Nat → Nat) (C : Nat → Gr) (M : Gr) (hI : I C M) (H : Heap) (locs : List Loc) (ls : Array Slot) (hP : sP E (gsL E q C M) H) (hD : sD (fun q : Nat => s.heap.size ≤ q) (gsL E q C M)) (hS : va_S (fun q : Nat => s.heap.size ≤ q) s.heap H locs) (hl : lv_has ls 4 [(0, .ref b), (1, .ref (q 0 0)), (2, .ref (q 16 0)), (3, .int x3)]) (KK : ∀ (q : Nat → Nat → Nat) (C : Nat → Gr) (M : Gr) (H : Heap) (locs : List Loc) (ls : Array Slot), I C M → sP E (gsL E q C M) H → sD (fun q : Nat => s.heap.size ≤ q) (gsL E q C M) → va_S (fun q : Nat => s.heap.size ≤ q) s.heap H locs → lv_has ls 4 [(0, .ref b), (1, .ref (q 0 0)), (2, .ref (q 16 0)), (3, .int x3)] → W p l e room_1 s m #[Value.ref b] below meth c H locs 600000 7302250 (lw_Z below #[Value.ref b] s) (F0 m 1109 ls [])) : W p l e room_1 s m #[Value.ref b] below meth c H locs 600000 7302250 (lw_Z below #[Value.ref b] s) (F0 m 376 ls []) := by
  obtain ⟨hx, hb, hr, hml, hown, hts, hX, hbl, hlocks, hgv⟩ := C0
  have hg : ∀ w ∈ gtbl, w.before #[Value.ref b] s = true := fun w h => hts w (gtbl_tbl h)
  have hbA : ¬ (fun q : Nat => s.heap.size ≤ q) b := Nat.not_le.mpr hbl
  obtain ⟨u, w, hu, hw, euw, hI⟩ := hp C M hI (xs (Int32.toNatClampNeg (x3 + 1))) (xs (Int32.toNatClampNeg (x3 + 2)))
  refine lv_aload_n hx hb dL_law_376 rfl (lv_at hl 1 rfl) ?_
  refine lv_aload_n hx hb dL_law_377 rfl (lv_at hl 0 rfl) ?_
  refine lv_iload_n hx hb dL_law_378 rfl (lv_at hl 3 rfl) ?_
  refine lv_iconst (v := 1) hx hb dL_law_379 (by decide) ?_
  refine lv_iadd hx hb dL_law_380 ?_
  refine va_sld hx hb hX hbl hbA hS (lw_at 1 ex hi (by decide) hL) dL_law_381 ?_
  refine lv_aload_n hx hb dL_law_382 rfl (lv_at hl 0 rfl) ?_
  refine lv_iload_n hx hb dL_law_383 rfl (lv_at hl 3 rfl) ?_
  refine lv_iconst (v := 2) hx hb dL_law_384 (by decide) ?_
  refine lv_iadd hx hb dL_law_385 ?_
  refine va_sld hx hb hX hbl hbA hS (lw_at 2 ex hi (by decide) hL) dL_law_386 ?_
  have hC : ([0, 13] : List Nat).map (fun i => ([cw_X11 E (q 0) (q 1 0) (q 2 0) (q 4 0) (q 6 0) (q 8 0) (q 9 0) (q 10 0) (q 11 0) (q 12 0) (q 13 0) (q 14 0) (q 15 0) (C 0), cw_X8 E (q 1) (C 1), cw_X4 E (q 2) (q 3 0), cw_X9 E (q 3) (C 3), cw_X0 E (q 4) (q 5 0), cw_X9 E (q 5) (C 5), cw_X5 E (q 6) (q 7 0) (C 6), cw_X9 E (q 7) (C 7), cw_X6 E (q 8) (C 8), cw_X2 E (q 9) (C 9), cw_X10 E (q 10) (C 10), cw_X3 E (q 11) (C 11), cw_X3 E (q 12) (C 12), cw_X7 E (q 13) (C 13), cw_X7 E (q 14) (C 14), cw_X7 E (q 15) (C 15), cw_X12 E (q 16) M])[i]?) = ([cw_X11 E (q 0) (q 1 0) (q 2 0) (q 4 0) (q 6 0) (q 8 0) (q 9 0) (q 10 0) (q 11 0) (q 12 0) (q 13 0) (q 14 0) (q 15 0) (C 0), cw_X7 E (q 13) (C 13)] : List va_W).map some := rfl
  refine sg_i (gs' := [cw_X11 E (q 0) (q 1 0) (q 2 0) (q 4 0) (q 6 0) (q 8 0) (q 9 0) (q 10 0) (q 11 0) (q 12 0) (q 13 0) (q 14 0) (q 15 0) (C 0), cw_X8 E (q 1) (C 1), cw_X4 E (q 2) (q 3 0), cw_X9 E (q 3) (C 3), cw_X0 E (q 4) (q 5 0), cw_X9 E (q 5) (C 5), cw_X5 E (q 6) (q 7 0) (C 6), cw_X9 E (q 7) (C 7), cw_X6 E (q 8) (C 8), cw_X2 E (q 9) (C 9), cw_X10 E (q 10) (C 10), cw_X3 E (q 11) (C 11), cw_X3 E (q 12) (C 12), cw_X7 E (q 13) (C 13), cw_X7 E (q 14) (C 14), cw_X7 E (q 15) (C 15), cw_X12 E (q 16) M]) (gc := [cw_X11 E (q 0) (q 1 0) (q 2 0) (q 4 0) (q 6 0) (q 8 0) (q 9 0) (q 10 0) (q 11 0) (q 12 0) (q 13 0) (q 14 0) (q 15 0) (C 0), cw_X7 E (q 13) (C 13)]) (g1 := [cw_X11 E (q 0) (q 1 0) (q 2 0) (q 4 0) (q 6 0) (q 8 0) (q 9 0) (q 10 0) (q 11 0) (q 12 0) (q 13 0) (q 14 0) (q 15 0) (C 0), cw_X7 E (q 13) (C 13)]) X hP hD hS [0, 13] (by decide) (va_runV (C := RX11) (As := [.int (xs (Int32.toNatClampNeg (x3 + 1))), .int (xs (Int32.toNatClampNeg (x3 + 2)))]) (rest := []) ⟨hx, hb, hml, hown, hg⟩ (c_X11_webIs l E (q 0) (q 13) (q 1 0) (q 2 0) (q 4 0) (q 6 0) (q 8 0) (q 9 0) (q 10 0) (q 11 0) (q 12 0) (q 14 0) (q 15 0) H.size (C 0) (C 13) (xs (Int32.toNatClampNeg (x3 + 1))) (xs (Int32.toNatClampNeg (x3 + 2))) u hu) (cwV 2 hg (gwV wm_L_41 wi_X11_webIs wsl_X11_webIs wini_X11 wco_X11_webIs) rfl rfl rfl (by decide +kernel) ⟨Nat.le_of_ble_eq_true rfl, Nat.le_of_ble_eq_true rfl⟩) ⟨ct_blind, sg_rv X.1 hP 0 rfl rfl rfl, sg_pre X hP hD hS [0, 13] (by decide) hC _⟩ rfl rfl hl.1 rfl (lv_room (Nat.le_of_ble_eq_true rfl)) dL_law_387 ⟨Nat.le_of_ble_eq_true rfl, Nat.le_of_ble_eq_true rfl⟩) hC rfl rfl rfl (fun H locs hP hD hS => ?_)
  clear hC
  refine lv_aload_n hx hb dL_law_390 rfl (lv_at hl 2 rfl) ?_
  refine lv_aload_n hx hb dL_law_391 rfl (lv_at hl 0 rfl) ?_
  refine lv_iload_n hx hb dL_law_392 rfl (lv_at hl 3 rfl) ?_
  refine lv_iconst (v := 1) hx hb dL_law_393 (by decide) ?_
  refine lv_iadd hx hb dL_law_394 ?_
  refine va_sld hx hb hX hbl hbA hS (lw_at 1 ex hi (by decide) hL) dL_law_395 ?_
  refine lv_aload_n hx hb dL_law_396 rfl (lv_at hl 0 rfl) ?_
  refine lv_iload_n hx hb dL_law_397 rfl (lv_at hl 3 rfl) ?_
  refine lv_iconst (v := 2) hx hb dL_law_398 (by decide) ?_
  refine lv_iadd hx hb dL_law_399 ?_
  refine va_sld hx hb hX hbl hbA hS (lw_at 2 ex hi (by decide) hL) dL_law_400 ?_
  have hC : ([16] : List Nat).map (fun i => ([cw_X11 E (q 0) (q 1 0) (q 2 0) (q 4 0) (q 6 0) (q 8 0) (q 9 0) (q 10 0) (q 11 0) (q 12 0) (q 13 0) (q 14 0) (q 15 0) (C 0), cw_X8 E (q 1) (C 1), cw_X4 E (q 2) (q 3 0), cw_X9 E (q 3) (C 3), cw_X0 E (q 4) (q 5 0), cw_X9 E (q 5) (C 5), cw_X5 E (q 6) (q 7 0) (C 6), cw_X9 E (q 7) (C 7), cw_X6 E (q 8) (C 8), cw_X2 E (q 9) (C 9), cw_X10 E (q 10) (C 10), cw_X3 E (q 11) (C 11), cw_X3 E (q 12) (C 12), cw_X7 E (q 13) (C 13), cw_X7 E (q 14) (C 14), cw_X7 E (q 15) (C 15), cw_X12 E (q 16) M])[i]?) = ([cw_X12 E (q 16) M] : List va_W).map some := rfl
  refine sg_i (gs' := [cw_X11 E (q 0) (q 1 0) (q 2 0) (q 4 0) (q 6 0) (q 8 0) (q 9 0) (q 10 0) (q 11 0) (q 12 0) (q 13 0) (q 14 0) (q 15 0) (C 0), cw_X8 E (q 1) (C 1), cw_X4 E (q 2) (q 3 0), cw_X9 E (q 3) (C 3), cw_X0 E (q 4) (q 5 0), cw_X9 E (q 5) (C 5), cw_X5 E (q 6) (q 7 0) (C 6), cw_X9 E (q 7) (C 7), cw_X6 E (q 8) (C 8), cw_X2 E (q 9) (C 9), cw_X10 E (q 10) (C 10), cw_X3 E (q 11) (C 11), cw_X3 E (q 12) (C 12), cw_X7 E (q 13) (C 13), cw_X7 E (q 14) (C 14), cw_X7 E (q 15) (C 15), cw_X12 E (q 16) M]) (gc := [cw_X12 E (q 16) M]) (g1 := [cw_X12 E (q 16) M]) X hP hD hS [16] (by decide) (va_runV (C := RX12) (As := [.int (xs (Int32.toNatClampNeg (x3 + 1))), .int (xs (Int32.toNatClampNeg (x3 + 2)))]) (rest := [.int u]) ⟨hx, hb, hml, hown, hg⟩ (c_X12_webIs l E (q 16) H.size M (xs (Int32.toNatClampNeg (x3 + 1))) (xs (Int32.toNatClampNeg (x3 + 2))) w hw) (cwV 2 hg (gwV wm_L_44 wi_X12_webIs wsl_X12_webIs wini_X12 wco_X12_webIs) rfl rfl rfl (by decide +kernel) ⟨Nat.le_of_ble_eq_true rfl, Nat.le_of_ble_eq_true rfl⟩) ⟨ct_blind, sg_rv X.1 hP 16 rfl rfl rfl, sg_pre X hP hD hS [16] (by decide) hC _⟩ rfl rfl hl.1 rfl (lv_room (Nat.le_of_ble_eq_true rfl)) dL_law_401 ⟨Nat.le_of_ble_eq_true rfl, Nat.le_of_ble_eq_true rfl⟩) hC rfl rfl rfl (fun H locs hP hD hS => ?_)
  clear hC
  refine lv_icmp_eq (tgt := 1109) hx hb dL_law_404 (by decide) (fun _ => ?_) (fun c9 => absurd euw c9)
  exact KK q C M H locs ls hI hP hD hS hl
set_option maxHeartbeats 4000000 in
set_option maxRecDepth 100000 in
theorem law_fleetIs {p : Program} {l : Launch} {e : Env} {s : State} {m : MethodId} {below : List Frame} {meth : Method} {c : Code} {E : Ec} {b L : Nat} {xs : Nat → Int32} {I : (Nat → Gr) → Gr → Prop} (hL : L ≤ 3072) (C0 : lw_At p s m meth c b L xs) (X : ctX E (fun q : Nat => s.heap.size ≤ q) s) (hp : hp_fleetIs I) {i : Nat} {x3 : Int32} (ex : x3 = nI i) (hi : i + 6 ≤ L) (q : Nat → Nat → Nat) (C : Nat → Gr) (M : Gr) (hI : I C M) (H : Heap) (locs : List Loc) (ls : Array Slot) (hP : sP E (gsL E q C M) H) (hD : sD (fun q : Nat => s.heap.size ≤ q) (gsL E q C M)) (hS : va_S (fun q : Nat => s.heap.size ≤ q) s.heap H locs) (hl : lv_has ls 4 [(0, .ref b), (1, .ref (q 0 0)), (2, .ref (q 16 0)), (3, .int x3)]) (KK : ∀ (q : Nat → Nat → Nat) (C : Nat → Gr) (M : Gr) (H : Heap) (locs : List Loc) (ls : Array Slot), I C M → sP E (gsL E q C M) H → sD (fun q : Nat => s.heap.size ≤ q) (gsL E q C M) → va_S (fun q : Nat => s.heap.size ≤ q) s.heap H locs → lv_has ls 4 [(0, .ref b), (1, .ref (q 0 0)), (2, .ref (q 16 0)), (3, .int x3)] → W p l e room_1 s m #[Value.ref b] below meth c H locs 600000 7302250 (lw_Z below #[Value.ref b] s) (F0 m 1109 ls [])) : W p l e room_1 s m #[Value.ref b] below meth c H locs 600000 7302250 (lw_Z below #[Value.ref b] s) (F0 m 409 ls []) := by
  obtain ⟨hx, hb, hr, hml, hown, hts, hX, hbl, hlocks, hgv⟩ := C0
  have hg : ∀ w ∈ gtbl, w.before #[Value.ref b] s = true := fun w h => hts w (gtbl_tbl h)
  have hbA : ¬ (fun q : Nat => s.heap.size ≤ q) b := Nat.not_le.mpr hbl
  obtain ⟨u, w, hu, hw, euw, hI⟩ := hp C M hI (xs (Int32.toNatClampNeg (x3 + 1))) (xs (Int32.toNatClampNeg (x3 + 2)))
  refine lv_aload_n hx hb dL_law_409 rfl (lv_at hl 1 rfl) ?_
  refine lv_aload_n hx hb dL_law_410 rfl (lv_at hl 0 rfl) ?_
  refine lv_iload_n hx hb dL_law_411 rfl (lv_at hl 3 rfl) ?_
  refine lv_iconst (v := 1) hx hb dL_law_412 (by decide) ?_
  refine lv_iadd hx hb dL_law_413 ?_
  refine va_sld hx hb hX hbl hbA hS (lw_at 1 ex hi (by decide) hL) dL_law_414 ?_
  refine lv_aload_n hx hb dL_law_415 rfl (lv_at hl 0 rfl) ?_
  refine lv_iload_n hx hb dL_law_416 rfl (lv_at hl 3 rfl) ?_
  refine lv_iconst (v := 2) hx hb dL_law_417 (by decide) ?_
  refine lv_iadd hx hb dL_law_418 ?_
  refine va_sld hx hb hX hbl hbA hS (lw_at 2 ex hi (by decide) hL) dL_law_419 ?_
  have hC : ([0, 13] : List Nat).map (fun i => ([cw_X11 E (q 0) (q 1 0) (q 2 0) (q 4 0) (q 6 0) (q 8 0) (q 9 0) (q 10 0) (q 11 0) (q 12 0) (q 13 0) (q 14 0) (q 15 0) (C 0), cw_X8 E (q 1) (C 1), cw_X4 E (q 2) (q 3 0), cw_X9 E (q 3) (C 3), cw_X0 E (q 4) (q 5 0), cw_X9 E (q 5) (C 5), cw_X5 E (q 6) (q 7 0) (C 6), cw_X9 E (q 7) (C 7), cw_X6 E (q 8) (C 8), cw_X2 E (q 9) (C 9), cw_X10 E (q 10) (C 10), cw_X3 E (q 11) (C 11), cw_X3 E (q 12) (C 12), cw_X7 E (q 13) (C 13), cw_X7 E (q 14) (C 14), cw_X7 E (q 15) (C 15), cw_X12 E (q 16) M])[i]?) = ([cw_X11 E (q 0) (q 1 0) (q 2 0) (q 4 0) (q 6 0) (q 8 0) (q 9 0) (q 10 0) (q 11 0) (q 12 0) (q 13 0) (q 14 0) (q 15 0) (C 0), cw_X7 E (q 13) (C 13)] : List va_W).map some := rfl
  refine sg_i (gs' := [cw_X11 E (q 0) (q 1 0) (q 2 0) (q 4 0) (q 6 0) (q 8 0) (q 9 0) (q 10 0) (q 11 0) (q 12 0) (q 13 0) (q 14 0) (q 15 0) (C 0), cw_X8 E (q 1) (C 1), cw_X4 E (q 2) (q 3 0), cw_X9 E (q 3) (C 3), cw_X0 E (q 4) (q 5 0), cw_X9 E (q 5) (C 5), cw_X5 E (q 6) (q 7 0) (C 6), cw_X9 E (q 7) (C 7), cw_X6 E (q 8) (C 8), cw_X2 E (q 9) (C 9), cw_X10 E (q 10) (C 10), cw_X3 E (q 11) (C 11), cw_X3 E (q 12) (C 12), cw_X7 E (q 13) (C 13), cw_X7 E (q 14) (C 14), cw_X7 E (q 15) (C 15), cw_X12 E (q 16) M]) (gc := [cw_X11 E (q 0) (q 1 0) (q 2 0) (q 4 0) (q 6 0) (q 8 0) (q 9 0) (q 10 0) (q 11 0) (q 12 0) (q 13 0) (q 14 0) (q 15 0) (C 0), cw_X7 E (q 13) (C 13)]) (g1 := [cw_X11 E (q 0) (q 1 0) (q 2 0) (q 4 0) (q 6 0) (q 8 0) (q 9 0) (q 10 0) (q 11 0) (q 12 0) (q 13 0) (q 14 0) (q 15 0) (C 0), cw_X7 E (q 13) (C 13)]) X hP hD hS [0, 13] (by decide) (va_runV (C := RX11) (As := [.int (xs (Int32.toNatClampNeg (x3 + 1))), .int (xs (Int32.toNatClampNeg (x3 + 2)))]) (rest := []) ⟨hx, hb, hml, hown, hg⟩ (c_X11_fleetIs l E (q 0) (q 13) (q 1 0) (q 2 0) (q 4 0) (q 6 0) (q 8 0) (q 9 0) (q 10 0) (q 11 0) (q 12 0) (q 14 0) (q 15 0) H.size (C 0) (C 13) (xs (Int32.toNatClampNeg (x3 + 1))) (xs (Int32.toNatClampNeg (x3 + 2))) u hu) (cwV 2 hg (gwV wm_L_45 wi_X11_fleetIs wsl_X11_fleetIs wini_X11 wco_X11_fleetIs) rfl rfl rfl (by decide +kernel) ⟨Nat.le_of_ble_eq_true rfl, Nat.le_of_ble_eq_true rfl⟩) ⟨ct_blind, sg_rv X.1 hP 0 rfl rfl rfl, sg_pre X hP hD hS [0, 13] (by decide) hC _⟩ rfl rfl hl.1 rfl (lv_room (Nat.le_of_ble_eq_true rfl)) dL_law_420 ⟨Nat.le_of_ble_eq_true rfl, Nat.le_of_ble_eq_true rfl⟩) hC rfl rfl rfl (fun H locs hP hD hS => ?_)
  clear hC
  refine lv_aload_n hx hb dL_law_423 rfl (lv_at hl 2 rfl) ?_
  refine lv_aload_n hx hb dL_law_424 rfl (lv_at hl 0 rfl) ?_
  refine lv_iload_n hx hb dL_law_425 rfl (lv_at hl 3 rfl) ?_
  refine lv_iconst (v := 1) hx hb dL_law_426 (by decide) ?_
  refine lv_iadd hx hb dL_law_427 ?_
  refine va_sld hx hb hX hbl hbA hS (lw_at 1 ex hi (by decide) hL) dL_law_428 ?_
  refine lv_aload_n hx hb dL_law_429 rfl (lv_at hl 0 rfl) ?_
  refine lv_iload_n hx hb dL_law_430 rfl (lv_at hl 3 rfl) ?_
  refine lv_iconst (v := 2) hx hb dL_law_431 (by decide) ?_
  refine lv_iadd hx hb dL_law_432 ?_
  refine va_sld hx hb hX hbl hbA hS (lw_at 2 ex hi (by decide) hL) dL_law_433 ?_
  have hC : ([16] : List Nat).map (fun i => ([cw_X11 E (q 0) (q 1 0) (q 2 0) (q 4 0) (q 6 0) (q 8 0) (q 9 0) (q 10 0) (q 11 0) (q 12 0) (q 13 0) (q 14 0) (q 15 0) (C 0), cw_X8 E (q 1) (C 1), cw_X4 E (q 2) (q 3 0), cw_X9 E (q 3) (C 3), cw_X0 E (q 4) (q 5 0), cw_X9 E (q 5) (C 5), cw_X5 E (q 6) (q 7 0) (C 6), cw_X9 E (q 7) (C 7), cw_X6 E (q 8) (C 8), cw_X2 E (q 9) (C 9), cw_X10 E (q 10) (C 10), cw_X3 E (q 11) (C 11), cw_X3 E (q 12) (C 12), cw_X7 E (q 13) (C 13), cw_X7 E (q 14) (C 14), cw_X7 E (q 15) (C 15), cw_X12 E (q 16) M])[i]?) = ([cw_X12 E (q 16) M] : List va_W).map some := rfl
  refine sg_i (gs' := [cw_X11 E (q 0) (q 1 0) (q 2 0) (q 4 0) (q 6 0) (q 8 0) (q 9 0) (q 10 0) (q 11 0) (q 12 0) (q 13 0) (q 14 0) (q 15 0) (C 0), cw_X8 E (q 1) (C 1), cw_X4 E (q 2) (q 3 0), cw_X9 E (q 3) (C 3), cw_X0 E (q 4) (q 5 0), cw_X9 E (q 5) (C 5), cw_X5 E (q 6) (q 7 0) (C 6), cw_X9 E (q 7) (C 7), cw_X6 E (q 8) (C 8), cw_X2 E (q 9) (C 9), cw_X10 E (q 10) (C 10), cw_X3 E (q 11) (C 11), cw_X3 E (q 12) (C 12), cw_X7 E (q 13) (C 13), cw_X7 E (q 14) (C 14), cw_X7 E (q 15) (C 15), cw_X12 E (q 16) M]) (gc := [cw_X12 E (q 16) M]) (g1 := [cw_X12 E (q 16) M]) X hP hD hS [16] (by decide) (va_runV (C := RX12) (As := [.int (xs (Int32.toNatClampNeg (x3 + 1))), .int (xs (Int32.toNatClampNeg (x3 + 2)))]) (rest := [.int u]) ⟨hx, hb, hml, hown, hg⟩ (c_X12_fleetIs l E (q 16) H.size M (xs (Int32.toNatClampNeg (x3 + 1))) (xs (Int32.toNatClampNeg (x3 + 2))) w hw) (cwV 2 hg (gwV wm_L_48 wi_X12_fleetIs wsl_X12_fleetIs wini_X12 wco_X12_fleetIs) rfl rfl rfl (by decide +kernel) ⟨Nat.le_of_ble_eq_true rfl, Nat.le_of_ble_eq_true rfl⟩) ⟨ct_blind, sg_rv X.1 hP 16 rfl rfl rfl, sg_pre X hP hD hS [16] (by decide) hC _⟩ rfl rfl hl.1 rfl (lv_room (Nat.le_of_ble_eq_true rfl)) dL_law_434 ⟨Nat.le_of_ble_eq_true rfl, Nat.le_of_ble_eq_true rfl⟩) hC rfl rfl rfl (fun H locs hP hD hS => ?_)
  clear hC
  refine lv_icmp_eq (tgt := 1109) hx hb dL_law_437 (by decide) (fun _ => ?_) (fun c9 => absurd euw c9)
  exact KK q C M H locs ls hI hP hD hS hl
set_option maxHeartbeats 4000000 in
set_option maxRecDepth 100000 in
theorem law_feels {p : Program} {l : Launch} {e : Env} {s : State} {m : MethodId} {below : List Frame} {meth : Method} {c : Code} {E : Ec} {b L : Nat} {xs : Nat → Int32} {I : (Nat → Gr) → Gr → Prop} (hL : L ≤ 3072) (C0 : lw_At p s m meth c b L xs) (X : ctX E (fun q : Nat => s.heap.size ≤ q) s) (hp : hp_feels I) {i : Nat} {x3 : Int32} (ex : x3 = nI i) (hi : i + 6 ≤ L) (q : Nat → Nat → Nat) (C : Nat → Gr) (M : Gr) (hI : I C M) (H : Heap) (locs : List Loc) (ls : Array Slot) (hP : sP E (gsL E q C M) H) (hD : sD (fun q : Nat => s.heap.size ≤ q) (gsL E q C M)) (hS : va_S (fun q : Nat => s.heap.size ≤ q) s.heap H locs) (hl : lv_has ls 4 [(0, .ref b), (1, .ref (q 0 0)), (2, .ref (q 16 0)), (3, .int x3)]) (KK : ∀ (q : Nat → Nat → Nat) (C : Nat → Gr) (M : Gr) (H : Heap) (locs : List Loc) (ls : Array Slot), I C M → sP E (gsL E q C M) H → sD (fun q : Nat => s.heap.size ≤ q) (gsL E q C M) → va_S (fun q : Nat => s.heap.size ≤ q) s.heap H locs → lv_has ls 4 [(0, .ref b), (1, .ref (q 0 0)), (2, .ref (q 16 0)), (3, .int x3)] → W p l e room_1 s m #[Value.ref b] below meth c H locs 600000 7302250 (lw_Z below #[Value.ref b] s) (F0 m 1109 ls [])) : W p l e room_1 s m #[Value.ref b] below meth c H locs 600000 7302250 (lw_Z below #[Value.ref b] s) (F0 m 442 ls []) := by
  obtain ⟨hx, hb, hr, hml, hown, hts, hX, hbl, hlocks, hgv⟩ := C0
  have hg : ∀ w ∈ gtbl, w.before #[Value.ref b] s = true := fun w h => hts w (gtbl_tbl h)
  have hbA : ¬ (fun q : Nat => s.heap.size ≤ q) b := Nat.not_le.mpr hbl
  obtain ⟨u, w, hu, hw, euw, hI⟩ := hp C M hI (xs (Int32.toNatClampNeg (x3 + 1))) (xs (Int32.toNatClampNeg (x3 + 2)))
  refine lv_aload_n hx hb dL_law_442 rfl (lv_at hl 1 rfl) ?_
  refine lv_aload_n hx hb dL_law_443 rfl (lv_at hl 0 rfl) ?_
  refine lv_iload_n hx hb dL_law_444 rfl (lv_at hl 3 rfl) ?_
  refine lv_iconst (v := 1) hx hb dL_law_445 (by decide) ?_
  refine lv_iadd hx hb dL_law_446 ?_
  refine va_sld hx hb hX hbl hbA hS (lw_at 1 ex hi (by decide) hL) dL_law_447 ?_
  refine lv_aload_n hx hb dL_law_448 rfl (lv_at hl 0 rfl) ?_
  refine lv_iload_n hx hb dL_law_449 rfl (lv_at hl 3 rfl) ?_
  refine lv_iconst (v := 2) hx hb dL_law_450 (by decide) ?_
  refine lv_iadd hx hb dL_law_451 ?_
  refine va_sld hx hb hX hbl hbA hS (lw_at 2 ex hi (by decide) hL) dL_law_452 ?_
  have hC : ([0, 13] : List Nat).map (fun i => ([cw_X11 E (q 0) (q 1 0) (q 2 0) (q 4 0) (q 6 0) (q 8 0) (q 9 0) (q 10 0) (q 11 0) (q 12 0) (q 13 0) (q 14 0) (q 15 0) (C 0), cw_X8 E (q 1) (C 1), cw_X4 E (q 2) (q 3 0), cw_X9 E (q 3) (C 3), cw_X0 E (q 4) (q 5 0), cw_X9 E (q 5) (C 5), cw_X5 E (q 6) (q 7 0) (C 6), cw_X9 E (q 7) (C 7), cw_X6 E (q 8) (C 8), cw_X2 E (q 9) (C 9), cw_X10 E (q 10) (C 10), cw_X3 E (q 11) (C 11), cw_X3 E (q 12) (C 12), cw_X7 E (q 13) (C 13), cw_X7 E (q 14) (C 14), cw_X7 E (q 15) (C 15), cw_X12 E (q 16) M])[i]?) = ([cw_X11 E (q 0) (q 1 0) (q 2 0) (q 4 0) (q 6 0) (q 8 0) (q 9 0) (q 10 0) (q 11 0) (q 12 0) (q 13 0) (q 14 0) (q 15 0) (C 0), cw_X7 E (q 13) (C 13)] : List va_W).map some := rfl
  refine sg_i (gs' := [cw_X11 E (q 0) (q 1 0) (q 2 0) (q 4 0) (q 6 0) (q 8 0) (q 9 0) (q 10 0) (q 11 0) (q 12 0) (q 13 0) (q 14 0) (q 15 0) (C 0), cw_X8 E (q 1) (C 1), cw_X4 E (q 2) (q 3 0), cw_X9 E (q 3) (C 3), cw_X0 E (q 4) (q 5 0), cw_X9 E (q 5) (C 5), cw_X5 E (q 6) (q 7 0) (C 6), cw_X9 E (q 7) (C 7), cw_X6 E (q 8) (C 8), cw_X2 E (q 9) (C 9), cw_X10 E (q 10) (C 10), cw_X3 E (q 11) (C 11), cw_X3 E (q 12) (C 12), cw_X7 E (q 13) (C 13), cw_X7 E (q 14) (C 14), cw_X7 E (q 15) (C 15), cw_X12 E (q 16) M]) (gc := [cw_X11 E (q 0) (q 1 0) (q 2 0) (q 4 0) (q 6 0) (q 8 0) (q 9 0) (q 10 0) (q 11 0) (q 12 0) (q 13 0) (q 14 0) (q 15 0) (C 0), cw_X7 E (q 13) (C 13)]) (g1 := [cw_X11 E (q 0) (q 1 0) (q 2 0) (q 4 0) (q 6 0) (q 8 0) (q 9 0) (q 10 0) (q 11 0) (q 12 0) (q 13 0) (q 14 0) (q 15 0) (C 0), cw_X7 E (q 13) (C 13)]) X hP hD hS [0, 13] (by decide) (va_runV (C := RX11) (As := [.int (xs (Int32.toNatClampNeg (x3 + 1))), .int (xs (Int32.toNatClampNeg (x3 + 2)))]) (rest := []) ⟨hx, hb, hml, hown, hg⟩ (c_X11_feels l E (q 0) (q 13) (q 1 0) (q 2 0) (q 4 0) (q 6 0) (q 8 0) (q 9 0) (q 10 0) (q 11 0) (q 12 0) (q 14 0) (q 15 0) H.size (C 0) (C 13) (xs (Int32.toNatClampNeg (x3 + 1))) (xs (Int32.toNatClampNeg (x3 + 2))) u hu) (cwV 2 hg (gwV wm_L_49 wi_X11_feels wsl_X11_feels wini_X11 wco_X11_feels) rfl rfl rfl (by decide +kernel) ⟨Nat.le_of_ble_eq_true rfl, Nat.le_of_ble_eq_true rfl⟩) ⟨ct_blind, sg_rv X.1 hP 0 rfl rfl rfl, sg_pre X hP hD hS [0, 13] (by decide) hC _⟩ rfl rfl hl.1 rfl (lv_room (Nat.le_of_ble_eq_true rfl)) dL_law_453 ⟨Nat.le_of_ble_eq_true rfl, Nat.le_of_ble_eq_true rfl⟩) hC rfl rfl rfl (fun H locs hP hD hS => ?_)
  clear hC
  refine lv_aload_n hx hb dL_law_456 rfl (lv_at hl 2 rfl) ?_
  refine lv_aload_n hx hb dL_law_457 rfl (lv_at hl 0 rfl) ?_
  refine lv_iload_n hx hb dL_law_458 rfl (lv_at hl 3 rfl) ?_
  refine lv_iconst (v := 1) hx hb dL_law_459 (by decide) ?_
  refine lv_iadd hx hb dL_law_460 ?_
  refine va_sld hx hb hX hbl hbA hS (lw_at 1 ex hi (by decide) hL) dL_law_461 ?_
  refine lv_aload_n hx hb dL_law_462 rfl (lv_at hl 0 rfl) ?_
  refine lv_iload_n hx hb dL_law_463 rfl (lv_at hl 3 rfl) ?_
  refine lv_iconst (v := 2) hx hb dL_law_464 (by decide) ?_
  refine lv_iadd hx hb dL_law_465 ?_
  refine va_sld hx hb hX hbl hbA hS (lw_at 2 ex hi (by decide) hL) dL_law_466 ?_
  have hC : ([16] : List Nat).map (fun i => ([cw_X11 E (q 0) (q 1 0) (q 2 0) (q 4 0) (q 6 0) (q 8 0) (q 9 0) (q 10 0) (q 11 0) (q 12 0) (q 13 0) (q 14 0) (q 15 0) (C 0), cw_X8 E (q 1) (C 1), cw_X4 E (q 2) (q 3 0), cw_X9 E (q 3) (C 3), cw_X0 E (q 4) (q 5 0), cw_X9 E (q 5) (C 5), cw_X5 E (q 6) (q 7 0) (C 6), cw_X9 E (q 7) (C 7), cw_X6 E (q 8) (C 8), cw_X2 E (q 9) (C 9), cw_X10 E (q 10) (C 10), cw_X3 E (q 11) (C 11), cw_X3 E (q 12) (C 12), cw_X7 E (q 13) (C 13), cw_X7 E (q 14) (C 14), cw_X7 E (q 15) (C 15), cw_X12 E (q 16) M])[i]?) = ([cw_X12 E (q 16) M] : List va_W).map some := rfl
  refine sg_i (gs' := [cw_X11 E (q 0) (q 1 0) (q 2 0) (q 4 0) (q 6 0) (q 8 0) (q 9 0) (q 10 0) (q 11 0) (q 12 0) (q 13 0) (q 14 0) (q 15 0) (C 0), cw_X8 E (q 1) (C 1), cw_X4 E (q 2) (q 3 0), cw_X9 E (q 3) (C 3), cw_X0 E (q 4) (q 5 0), cw_X9 E (q 5) (C 5), cw_X5 E (q 6) (q 7 0) (C 6), cw_X9 E (q 7) (C 7), cw_X6 E (q 8) (C 8), cw_X2 E (q 9) (C 9), cw_X10 E (q 10) (C 10), cw_X3 E (q 11) (C 11), cw_X3 E (q 12) (C 12), cw_X7 E (q 13) (C 13), cw_X7 E (q 14) (C 14), cw_X7 E (q 15) (C 15), cw_X12 E (q 16) M]) (gc := [cw_X12 E (q 16) M]) (g1 := [cw_X12 E (q 16) M]) X hP hD hS [16] (by decide) (va_runV (C := RX12) (As := [.int (xs (Int32.toNatClampNeg (x3 + 1))), .int (xs (Int32.toNatClampNeg (x3 + 2)))]) (rest := [.int u]) ⟨hx, hb, hml, hown, hg⟩ (c_X12_feels l E (q 16) H.size M (xs (Int32.toNatClampNeg (x3 + 1))) (xs (Int32.toNatClampNeg (x3 + 2))) w hw) (cwV 2 hg (gwV wm_L_52 wi_X12_feels wsl_X12_feels wini_X12 wco_X12_feels) rfl rfl rfl (by decide +kernel) ⟨Nat.le_of_ble_eq_true rfl, Nat.le_of_ble_eq_true rfl⟩) ⟨ct_blind, sg_rv X.1 hP 16 rfl rfl rfl, sg_pre X hP hD hS [16] (by decide) hC _⟩ rfl rfl hl.1 rfl (lv_room (Nat.le_of_ble_eq_true rfl)) dL_law_467 ⟨Nat.le_of_ble_eq_true rfl, Nat.le_of_ble_eq_true rfl⟩) hC rfl rfl rfl (fun H locs hP hD hS => ?_)
  clear hC
  refine lv_icmp_eq (tgt := 1109) hx hb dL_law_470 (by decide) (fun _ => ?_) (fun c9 => absurd euw c9)
  exact KK q C M H locs ls hI hP hD hS hl
set_option maxHeartbeats 4000000 in
set_option maxRecDepth 100000 in
theorem law_when {p : Program} {l : Launch} {e : Env} {s : State} {m : MethodId} {below : List Frame} {meth : Method} {c : Code} {E : Ec} {b L : Nat} {xs : Nat → Int32} {I : (Nat → Gr) → Gr → Prop} (hL : L ≤ 3072) (C0 : lw_At p s m meth c b L xs) (X : ctX E (fun q : Nat => s.heap.size ≤ q) s) (hp : hp_when I) {i : Nat} {x3 : Int32} (ex : x3 = nI i) (hi : i + 6 ≤ L) (q : Nat → Nat → Nat) (C : Nat → Gr) (M : Gr) (hI : I C M) (H : Heap) (locs : List Loc) (ls : Array Slot) (hP : sP E (gsL E q C M) H) (hD : sD (fun q : Nat => s.heap.size ≤ q) (gsL E q C M)) (hS : va_S (fun q : Nat => s.heap.size ≤ q) s.heap H locs) (hl : lv_has ls 4 [(0, .ref b), (1, .ref (q 0 0)), (2, .ref (q 16 0)), (3, .int x3)]) (KK : ∀ (q : Nat → Nat → Nat) (C : Nat → Gr) (M : Gr) (H : Heap) (locs : List Loc) (ls : Array Slot), I C M → sP E (gsL E q C M) H → sD (fun q : Nat => s.heap.size ≤ q) (gsL E q C M) → va_S (fun q : Nat => s.heap.size ≤ q) s.heap H locs → lv_has ls 4 [(0, .ref b), (1, .ref (q 0 0)), (2, .ref (q 16 0)), (3, .int x3)] → W p l e room_1 s m #[Value.ref b] below meth c H locs 600000 7302250 (lw_Z below #[Value.ref b] s) (F0 m 1109 ls [])) : W p l e room_1 s m #[Value.ref b] below meth c H locs 600000 7302250 (lw_Z below #[Value.ref b] s) (F0 m 475 ls []) := by
  obtain ⟨hx, hb, hr, hml, hown, hts, hX, hbl, hlocks, hgv⟩ := C0
  have hg : ∀ w ∈ gtbl, w.before #[Value.ref b] s = true := fun w h => hts w (gtbl_tbl h)
  have hbA : ¬ (fun q : Nat => s.heap.size ≤ q) b := Nat.not_le.mpr hbl
  obtain ⟨u, w, hu, hw, euw, hI⟩ := hp C M hI (xs (Int32.toNatClampNeg (x3 + 1))) (xs (Int32.toNatClampNeg (x3 + 2))) (xs (Int32.toNatClampNeg (x3 + 3)))
  refine lv_aload_n hx hb dL_law_475 rfl (lv_at hl 1 rfl) ?_
  refine lv_aload_n hx hb dL_law_476 rfl (lv_at hl 0 rfl) ?_
  refine lv_iload_n hx hb dL_law_477 rfl (lv_at hl 3 rfl) ?_
  refine lv_iconst (v := 1) hx hb dL_law_478 (by decide) ?_
  refine lv_iadd hx hb dL_law_479 ?_
  refine va_sld hx hb hX hbl hbA hS (lw_at 1 ex hi (by decide) hL) dL_law_480 ?_
  refine lv_aload_n hx hb dL_law_481 rfl (lv_at hl 0 rfl) ?_
  refine lv_iload_n hx hb dL_law_482 rfl (lv_at hl 3 rfl) ?_
  refine lv_iconst (v := 2) hx hb dL_law_483 (by decide) ?_
  refine lv_iadd hx hb dL_law_484 ?_
  refine va_sld hx hb hX hbl hbA hS (lw_at 2 ex hi (by decide) hL) dL_law_485 ?_
  refine lv_aload_n hx hb dL_law_486 rfl (lv_at hl 0 rfl) ?_
  refine lv_iload_n hx hb dL_law_487 rfl (lv_at hl 3 rfl) ?_
  refine lv_iconst (v := 3) hx hb dL_law_488 (by decide) ?_
  refine lv_iadd hx hb dL_law_489 ?_
  refine va_sld hx hb hX hbl hbA hS (lw_at 3 ex hi (by decide) hL) dL_law_490 ?_
  have hC : ([0, 13, 14] : List Nat).map (fun i => ([cw_X11 E (q 0) (q 1 0) (q 2 0) (q 4 0) (q 6 0) (q 8 0) (q 9 0) (q 10 0) (q 11 0) (q 12 0) (q 13 0) (q 14 0) (q 15 0) (C 0), cw_X8 E (q 1) (C 1), cw_X4 E (q 2) (q 3 0), cw_X9 E (q 3) (C 3), cw_X0 E (q 4) (q 5 0), cw_X9 E (q 5) (C 5), cw_X5 E (q 6) (q 7 0) (C 6), cw_X9 E (q 7) (C 7), cw_X6 E (q 8) (C 8), cw_X2 E (q 9) (C 9), cw_X10 E (q 10) (C 10), cw_X3 E (q 11) (C 11), cw_X3 E (q 12) (C 12), cw_X7 E (q 13) (C 13), cw_X7 E (q 14) (C 14), cw_X7 E (q 15) (C 15), cw_X12 E (q 16) M])[i]?) = ([cw_X11 E (q 0) (q 1 0) (q 2 0) (q 4 0) (q 6 0) (q 8 0) (q 9 0) (q 10 0) (q 11 0) (q 12 0) (q 13 0) (q 14 0) (q 15 0) (C 0), cw_X7 E (q 13) (C 13), cw_X7 E (q 14) (C 14)] : List va_W).map some := rfl
  refine sg_i (gs' := [cw_X11 E (q 0) (q 1 0) (q 2 0) (q 4 0) (q 6 0) (q 8 0) (q 9 0) (q 10 0) (q 11 0) (q 12 0) (q 13 0) (q 14 0) (q 15 0) (C 0), cw_X8 E (q 1) (C 1), cw_X4 E (q 2) (q 3 0), cw_X9 E (q 3) (C 3), cw_X0 E (q 4) (q 5 0), cw_X9 E (q 5) (C 5), cw_X5 E (q 6) (q 7 0) (C 6), cw_X9 E (q 7) (C 7), cw_X6 E (q 8) (C 8), cw_X2 E (q 9) (C 9), cw_X10 E (q 10) (C 10), cw_X3 E (q 11) (C 11), cw_X3 E (q 12) (C 12), cw_X7 E (q 13) (C 13), cw_X7 E (q 14) u.2, cw_X7 E (q 15) (C 15), cw_X12 E (q 16) M]) (gc := [cw_X11 E (q 0) (q 1 0) (q 2 0) (q 4 0) (q 6 0) (q 8 0) (q 9 0) (q 10 0) (q 11 0) (q 12 0) (q 13 0) (q 14 0) (q 15 0) (C 0), cw_X7 E (q 13) (C 13), cw_X7 E (q 14) (C 14)]) (g1 := [cw_X11 E (q 0) (q 1 0) (q 2 0) (q 4 0) (q 6 0) (q 8 0) (q 9 0) (q 10 0) (q 11 0) (q 12 0) (q 13 0) (q 14 0) (q 15 0) (C 0), cw_X7 E (q 13) (C 13), cw_X7 E (q 14) u.2]) X hP hD hS [0, 13, 14] (by decide) (va_runV (C := RX11) (As := [.int (xs (Int32.toNatClampNeg (x3 + 1))), .int (xs (Int32.toNatClampNeg (x3 + 2))), .int (xs (Int32.toNatClampNeg (x3 + 3)))]) (rest := []) ⟨hx, hb, hml, hown, hg⟩ (c_X11_when l E (q 0) (q 13) (q 14) (q 1 0) (q 2 0) (q 4 0) (q 6 0) (q 8 0) (q 9 0) (q 10 0) (q 11 0) (q 12 0) (q 15 0) H.size (C 0) (C 13) (C 14) (xs (Int32.toNatClampNeg (x3 + 1))) (xs (Int32.toNatClampNeg (x3 + 2))) (xs (Int32.toNatClampNeg (x3 + 3))) u hu) (cwV 3 hg (gwV wm_L_53 wi_X11_when wsl_X11_when wini_X11 wco_X11_when) rfl rfl rfl (by decide +kernel) ⟨Nat.le_of_ble_eq_true rfl, Nat.le_of_ble_eq_true rfl⟩) ⟨ct_blind, sg_rv X.1 hP 0 rfl rfl rfl, sg_pre X hP hD hS [0, 13, 14] (by decide) hC _⟩ rfl rfl hl.1 rfl (lv_room (Nat.le_of_ble_eq_true rfl)) dL_law_491 ⟨Nat.le_of_ble_eq_true rfl, Nat.le_of_ble_eq_true rfl⟩) hC rfl rfl rfl (fun H locs hP hD hS => ?_)
  clear hC
  refine lv_aload_n hx hb dL_law_494 rfl (lv_at hl 2 rfl) ?_
  refine lv_aload_n hx hb dL_law_495 rfl (lv_at hl 0 rfl) ?_
  refine lv_iload_n hx hb dL_law_496 rfl (lv_at hl 3 rfl) ?_
  refine lv_iconst (v := 1) hx hb dL_law_497 (by decide) ?_
  refine lv_iadd hx hb dL_law_498 ?_
  refine va_sld hx hb hX hbl hbA hS (lw_at 1 ex hi (by decide) hL) dL_law_499 ?_
  refine lv_aload_n hx hb dL_law_500 rfl (lv_at hl 0 rfl) ?_
  refine lv_iload_n hx hb dL_law_501 rfl (lv_at hl 3 rfl) ?_
  refine lv_iconst (v := 2) hx hb dL_law_502 (by decide) ?_
  refine lv_iadd hx hb dL_law_503 ?_
  refine va_sld hx hb hX hbl hbA hS (lw_at 2 ex hi (by decide) hL) dL_law_504 ?_
  refine lv_aload_n hx hb dL_law_505 rfl (lv_at hl 0 rfl) ?_
  refine lv_iload_n hx hb dL_law_506 rfl (lv_at hl 3 rfl) ?_
  refine lv_iconst (v := 3) hx hb dL_law_507 (by decide) ?_
  refine lv_iadd hx hb dL_law_508 ?_
  refine va_sld hx hb hX hbl hbA hS (lw_at 3 ex hi (by decide) hL) dL_law_509 ?_
  have hC : ([16] : List Nat).map (fun i => ([cw_X11 E (q 0) (q 1 0) (q 2 0) (q 4 0) (q 6 0) (q 8 0) (q 9 0) (q 10 0) (q 11 0) (q 12 0) (q 13 0) (q 14 0) (q 15 0) (C 0), cw_X8 E (q 1) (C 1), cw_X4 E (q 2) (q 3 0), cw_X9 E (q 3) (C 3), cw_X0 E (q 4) (q 5 0), cw_X9 E (q 5) (C 5), cw_X5 E (q 6) (q 7 0) (C 6), cw_X9 E (q 7) (C 7), cw_X6 E (q 8) (C 8), cw_X2 E (q 9) (C 9), cw_X10 E (q 10) (C 10), cw_X3 E (q 11) (C 11), cw_X3 E (q 12) (C 12), cw_X7 E (q 13) (C 13), cw_X7 E (q 14) u.2, cw_X7 E (q 15) (C 15), cw_X12 E (q 16) M])[i]?) = ([cw_X12 E (q 16) M] : List va_W).map some := rfl
  refine sg_i (gs' := [cw_X11 E (q 0) (q 1 0) (q 2 0) (q 4 0) (q 6 0) (q 8 0) (q 9 0) (q 10 0) (q 11 0) (q 12 0) (q 13 0) (q 14 0) (q 15 0) (C 0), cw_X8 E (q 1) (C 1), cw_X4 E (q 2) (q 3 0), cw_X9 E (q 3) (C 3), cw_X0 E (q 4) (q 5 0), cw_X9 E (q 5) (C 5), cw_X5 E (q 6) (q 7 0) (C 6), cw_X9 E (q 7) (C 7), cw_X6 E (q 8) (C 8), cw_X2 E (q 9) (C 9), cw_X10 E (q 10) (C 10), cw_X3 E (q 11) (C 11), cw_X3 E (q 12) (C 12), cw_X7 E (q 13) (C 13), cw_X7 E (q 14) u.2, cw_X7 E (q 15) (C 15), cw_X12 E (q 16) w.2]) (gc := [cw_X12 E (q 16) M]) (g1 := [cw_X12 E (q 16) w.2]) X hP hD hS [16] (by decide) (va_runV (C := RX12) (As := [.int (xs (Int32.toNatClampNeg (x3 + 1))), .int (xs (Int32.toNatClampNeg (x3 + 2))), .int (xs (Int32.toNatClampNeg (x3 + 3)))]) (rest := [.int u.1]) ⟨hx, hb, hml, hown, hg⟩ (c_X12_when l E (q 16) H.size M (xs (Int32.toNatClampNeg (x3 + 1))) (xs (Int32.toNatClampNeg (x3 + 2))) (xs (Int32.toNatClampNeg (x3 + 3))) w hw) (cwV 3 hg (gwV wm_L_57 wi_X12_when wsl_X12_when wini_X12 wco_X12_when) rfl rfl rfl (by decide +kernel) ⟨Nat.le_of_ble_eq_true rfl, Nat.le_of_ble_eq_true rfl⟩) ⟨ct_blind, sg_rv X.1 hP 16 rfl rfl rfl, sg_pre X hP hD hS [16] (by decide) hC _⟩ rfl rfl hl.1 rfl (lv_room (Nat.le_of_ble_eq_true rfl)) dL_law_510 ⟨Nat.le_of_ble_eq_true rfl, Nat.le_of_ble_eq_true rfl⟩) hC rfl rfl rfl (fun H locs hP hD hS => ?_)
  clear hC
  refine lv_icmp_eq (tgt := 1109) hx hb dL_law_513 (by decide) (fun _ => ?_) (fun c9 => absurd euw c9)
  exact KK q (va_up C 14 u.2) w.2 H locs ls hI hP hD hS hl
