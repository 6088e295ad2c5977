theorem dX4_condition_0 : decode cX4_condition 0 = .ok (.iconst (-1), 1) := by decide +kernel
theorem dX4_condition_1 : decode cX4_condition 1 = .ok (.istore 4, 2) := by decide +kernel
theorem dX4_condition_3 : decode cX4_condition 3 = .ok (.iconst 0, 1) := by decide +kernel
theorem dX4_condition_4 : decode cX4_condition 4 = .ok (.istore 5, 2) := by decide +kernel
theorem dX4_condition_6 : decode cX4_condition 6 = .ok (.iload 5, 2) := by decide +kernel
theorem dX4_condition_8 : decode cX4_condition 8 = .ok (.sipush 240, 3) := by decide +kernel
theorem dX4_condition_11 : decode cX4_condition 11 = .ok (.if_icmp .gt 78, 3) := by decide +kernel
theorem dX4_condition_14 : decode cX4_condition 14 = .ok (.iload_n 3, 1) := by decide +kernel
theorem dX4_condition_15 : decode cX4_condition 15 = .ok (.bipush 124, 2) := by decide +kernel
theorem dX4_condition_17 : decode cX4_condition 17 = .ok (.if_icmp .ne 14, 3) := by decide +kernel
theorem dX4_condition_20 : decode cX4_condition 20 = .ok (.aload_n 0, 1) := by decide +kernel
theorem dX4_condition_21 : decode cX4_condition 21 = .ok (.aload_n 1, 1) := by decide +kernel
theorem dX4_condition_22 : decode cX4_condition 22 = .ok (.iload_n 2, 1) := by decide +kernel
theorem dX4_condition_23 : decode cX4_condition 23 = .ok (.bipush 38, 2) := by decide +kernel
theorem dX4_condition_25 : decode cX4_condition 25 = .ok (.invokevirtual 67, 3) := by decide +kernel
theorem dX4_condition_28 : decode cX4_condition 28 = .ok (.goto 9, 3) := by decide +kernel
theorem dX4_condition_31 : decode cX4_condition 31 = .ok (.aload_n 0, 1) := by decide +kernel
theorem dX4_condition_32 : decode cX4_condition 32 = .ok (.aload_n 1, 1) := by decide +kernel
theorem dX4_condition_33 : decode cX4_condition 33 = .ok (.iload_n 2, 1) := by decide +kernel
theorem dX4_condition_34 : decode cX4_condition 34 = .ok (.invokevirtual 74, 3) := by decide +kernel
theorem dX4_condition_37 : decode cX4_condition 37 = .ok (.istore 6, 2) := by decide +kernel
theorem dX4_condition_39 : decode cX4_condition 39 = .ok (.iload 6, 2) := by decide +kernel
theorem dX4_condition_41 : decode cX4_condition 41 = .ok (.ifCond .ne 5, 3) := by decide +kernel
theorem dX4_condition_44 : decode cX4_condition 44 = .ok (.iconst 0, 1) := by decide +kernel
theorem dX4_condition_45 : decode cX4_condition 45 = .ok (.ireturn, 1) := by decide +kernel
theorem dX4_condition_46 : decode cX4_condition 46 = .ok (.aload_n 1, 1) := by decide +kernel
theorem dX4_condition_47 : decode cX4_condition 47 = .ok (.iload 4, 2) := by decide +kernel
theorem dX4_condition_49 : decode cX4_condition 49 = .ok (.invokevirtual 77, 3) := by decide +kernel
theorem dX4_condition_52 : decode cX4_condition 52 = .ok (.aload_n 0, 1) := by decide +kernel
theorem dX4_condition_53 : decode cX4_condition 53 = .ok (.getfield 12, 3) := by decide +kernel
theorem dX4_condition_56 : decode cX4_condition 56 = .ok (.invokevirtual 35, 3) := by decide +kernel
theorem dX4_condition_59 : decode cX4_condition 59 = .ok (.iload_n 3, 1) := by decide +kernel
theorem dX4_condition_60 : decode cX4_condition 60 = .ok (.if_icmp .eq 5, 3) := by decide +kernel
theorem dX4_condition_63 : decode cX4_condition 63 = .ok (.iconst 1, 1) := by decide +kernel
theorem dX4_condition_64 : decode cX4_condition 64 = .ok (.ireturn, 1) := by decide +kernel
theorem dX4_condition_65 : decode cX4_condition 65 = .ok (.aload_n 0, 1) := by decide +kernel
theorem dX4_condition_66 : decode cX4_condition 66 = .ok (.getfield 12, 3) := by decide +kernel
theorem dX4_condition_69 : decode cX4_condition 69 = .ok (.invokevirtual 53, 3) := by decide +kernel
theorem dX4_condition_72 : decode cX4_condition 72 = .ok (.aload_n 1, 1) := by decide +kernel
theorem dX4_condition_73 : decode cX4_condition 73 = .ok (.iload_n 3, 1) := by decide +kernel
theorem dX4_condition_74 : decode cX4_condition 74 = .ok (.invokevirtual 80, 3) := by decide +kernel
theorem dX4_condition_77 : decode cX4_condition 77 = .ok (.aload_n 1, 1) := by decide +kernel
theorem dX4_condition_78 : decode cX4_condition 78 = .ok (.invokevirtual 83, 3) := by decide +kernel
theorem dX4_condition_81 : decode cX4_condition 81 = .ok (.istore 4, 2) := by decide +kernel
theorem dX4_condition_83 : decode cX4_condition 83 = .ok (.iinc 5 1, 3) := by decide +kernel
theorem dX4_condition_86 : decode cX4_condition 86 = .ok (.goto (-80), 3) := by decide +kernel
theorem dX4_condition_89 : decode cX4_condition 89 = .ok (.aload_n 0, 1) := by decide +kernel
theorem dX4_condition_90 : decode cX4_condition 90 = .ok (.getfield 12, 3) := by decide +kernel
theorem dX4_condition_93 : decode cX4_condition 93 = .ok (.iconst 1, 1) := by decide +kernel
theorem dX4_condition_94 : decode cX4_condition 94 = .ok (.invokevirtual 46, 3) := by decide +kernel
theorem dX4_condition_97 : decode cX4_condition 97 = .ok (.ireturn, 1) := by decide +kernel
def f_X4_condition_n37 (g_X4_condition : Gr → Gr → Int32 → Int32 → Option (Int32 × Gr × Gr)) (g_X4_test : Gr → Gr → Int32 → Option (Int32 × Gr × Gr)) (g_X4_sum : Gr → Gr → Int32 → Option (Int32 × Gr × Gr)) (g_X4_term : Gr → Gr → Int32 → Option (Int32 × Gr × Gr)) (g_X4_factor : Gr → Gr → Int32 → Option (Int32 × Gr × Gr)) (x2 : Int32) (x3 : Int32) (k6 : Gr → Gr → Int32 → Int32 → Option (Int32 × Gr × Gr)) (S1 : Gr) (S2 : Gr) (x4 : Int32) (x5 : Int32) (w0 : Int32) : Option (Int32 × Gr × Gr) := if w0 = 0 then (some (0, S1, S2)) else ((f_X3_landJump S2 x4).bind fun u7 => (f_X9_peek S1).bind fun u8 => if u8 = x3 then ((f_X9_step S1).bind fun u10 => (f_X3_writeSign u7 x3).bind fun u11 => (f_X3_lastSign u11).bind fun u12 => lt' (x5 + 1) fun v13 => k6 u10 u11 u12 v13) else (some (1, S1, u7)))
def f_X4_condition_n6 (g_X4_condition : Gr → Gr → Int32 → Int32 → Option (Int32 × Gr × Gr)) (g_X4_test : Gr → Gr → Int32 → Option (Int32 × Gr × Gr)) (g_X4_sum : Gr → Gr → Int32 → Option (Int32 × Gr × Gr)) (g_X4_term : Gr → Gr → Int32 → Option (Int32 × Gr × Gr)) (g_X4_factor : Gr → Gr → Int32 → Option (Int32 × Gr × Gr)) (x2 : Int32) (x3 : Int32) : Nat → Gr → Gr → Int32 → Int32 → Option (Int32 × Gr × Gr)
  | 0, _, _, _, _ => none
  | n + 1, S1, S2, x4, x5 => if 240 < x5 then ((f_X9_fail S1 1).bind fun u2 => zb' u2.1 (some (u2.1, u2.2, S2))) else (if x3 = 124 then ((g_X4_condition S1 S2 x2 38).bind fun u5 => f_X4_condition_n37 g_X4_condition g_X4_test g_X4_sum g_X4_term g_X4_factor x2 x3 (f_X4_condition_n6 g_X4_condition g_X4_test g_X4_sum g_X4_term g_X4_factor x2 x3 n) u5.2.1 u5.2.2 x4 x5 u5.1) else ((g_X4_test S1 S2 x2).bind fun u4 => f_X4_condition_n37 g_X4_condition g_X4_test g_X4_sum g_X4_term g_X4_factor x2 x3 (f_X4_condition_n6 g_X4_condition g_X4_test g_X4_sum g_X4_term g_X4_factor x2 x3 n) u4.2.1 u4.2.2 x4 x5 u4.1))
def fo_X4_condition (g_X4_condition : Gr → Gr → Int32 → Int32 → Option (Int32 × Gr × Gr)) (g_X4_test : Gr → Gr → Int32 → Option (Int32 × Gr × Gr)) (g_X4_sum : Gr → Gr → Int32 → Option (Int32 × Gr × Gr)) (g_X4_term : Gr → Gr → Int32 → Option (Int32 × Gr × Gr)) (g_X4_factor : Gr → Gr → Int32 → Option (Int32 × Gr × Gr)) (S1 : Gr) (S2 : Gr) (x2 : Int32) (x3 : Int32) : Option (Int32 × Gr × Gr) := f_X4_condition_n6 g_X4_condition g_X4_test g_X4_sum g_X4_term g_X4_factor x2 x3 fu S1 S2 (-1) 0
set_option maxHeartbeats 4000000 in
set_option maxRecDepth 100000 in
theorem co_X4_condition (l : Launch) (E : Ec) (F Lc : Nat) (g_X4_condition : Gr → Gr → Int32 → Int32 → Option (Int32 × Gr × Gr)) (g_X4_test : Gr → Gr → Int32 → Option (Int32 × Gr × Gr)) (g_X4_sum : Gr → Gr → Int32 → Option (Int32 × Gr × Gr)) (g_X4_term : Gr → Gr → Int32 → Option (Int32 × Gr × Gr)) (g_X4_factor : Gr → Gr → Int32 → Option (Int32 × Gr × Gr)) (hg_X4_condition : ∀ (q0 q1 q2 : Nat → Nat) (sz : Nat) (S1 : Gr) (S2 : Gr) (x2 : Int32) (x3 : Int32) (Rv : Int32 × Gr × Gr), g_X4_condition S1 S2 x2 x3 = some Rv → Met l yX4_condition (wsM (.code yX4_condition cX4_condition 7 (some .boolean))) ({ frames := F, cells := 0, slots := 0, locals := Lc } : Room) (va_Pc [.ref (q0 0), .ref (q2 0), .int x2, .int x3] (ctP E (cw_X4 E q0 (q1 0) ++ (cw_X9 E q1 S1 ++ (cw_X3 E q2 S2))) sz)) (ctI E (cw_X4 E q0 (q1 0) ++ (cw_X9 E q1 S1 ++ (cw_X3 E q2 S2))) (cw_X4 E q0 (q1 0) ++ (cw_X9 E q1 Rv.2.1 ++ (cw_X3 E q2 Rv.2.2))) sz Rv.1) 0 0 (va_A (cw_X4 E q0 (q1 0) ++ (cw_X9 E q1 S1 ++ (cw_X3 E q2 S2))) sz)) (hg_X4_test : ∀ (q0 q1 q2 : Nat → Nat) (sz : Nat) (S1 : Gr) (S2 : Gr) (x2 : Int32) (Rv : Int32 × Gr × Gr), g_X4_test S1 S2 x2 = some Rv → Met l yX4_test (wsM (.code yX4_test cX4_test 5 (some .boolean))) ({ frames := F, cells := 0, slots := 0, locals := Lc } : Room) (va_Pc [.ref (q0 0), .ref (q2 0), .int x2] (ctP E (cw_X4 E q0 (q1 0) ++ (cw_X9 E q1 S1 ++ (cw_X3 E q2 S2))) sz)) (ctI E (cw_X4 E q0 (q1 0) ++ (cw_X9 E q1 S1 ++ (cw_X3 E q2 S2))) (cw_X4 E q0 (q1 0) ++ (cw_X9 E q1 Rv.2.1 ++ (cw_X3 E q2 Rv.2.2))) sz Rv.1) 0 0 (va_A (cw_X4 E q0 (q1 0) ++ (cw_X9 E q1 S1 ++ (cw_X3 E q2 S2))) sz)) (hg_X4_sum : ∀ (q0 q1 q2 : Nat → Nat) (sz : Nat) (S1 : Gr) (S2 : Gr) (x2 : Int32) (Rv : Int32 × Gr × Gr), g_X4_sum S1 S2 x2 = some Rv → Met l yX4_sum (wsM (.code yX4_sum cX4_sum 5 (some .boolean))) ({ frames := F, cells := 0, slots := 0, locals := Lc } : Room) (va_Pc [.ref (q0 0), .ref (q2 0), .int x2] (ctP E (cw_X4 E q0 (q1 0) ++ (cw_X9 E q1 S1 ++ (cw_X3 E q2 S2))) sz)) (ctI E (cw_X4 E q0 (q1 0) ++ (cw_X9 E q1 S1 ++ (cw_X3 E q2 S2))) (cw_X4 E q0 (q1 0) ++ (cw_X9 E q1 Rv.2.1 ++ (cw_X3 E q2 Rv.2.2))) sz Rv.1) 0 0 (va_A (cw_X4 E q0 (q1 0) ++ (cw_X9 E q1 S1 ++ (cw_X3 E q2 S2))) sz)) (hg_X4_term : ∀ (q0 q1 q2 : Nat → Nat) (sz : Nat) (S1 : Gr) (S2 : Gr) (x2 : Int32) (Rv : Int32 × Gr × Gr), g_X4_term S1 S2 x2 = some Rv → Met l yX4_term (wsM (.code yX4_term cX4_term 5 (some .boolean))) ({ frames := F, cells := 0, slots := 0, locals := Lc } : Room) (va_Pc [.ref (q0 0), .ref (q2 0), .int x2] (ctP E (cw_X4 E q0 (q1 0) ++ (cw_X9 E q1 S1 ++ (cw_X3 E q2 S2))) sz)) (ctI E (cw_X4 E q0 (q1 0) ++ (cw_X9 E q1 S1 ++ (cw_X3 E q2 S2))) (cw_X4 E q0 (q1 0) ++ (cw_X9 E q1 Rv.2.1 ++ (cw_X3 E q2 Rv.2.2))) sz Rv.1) 0 0 (va_A (cw_X4 E q0 (q1 0) ++ (cw_X9 E q1 S1 ++ (cw_X3 E q2 S2))) sz)) (hg_X4_factor : ∀ (q0 q1 q2 : Nat → Nat) (sz : Nat) (S1 : Gr) (S2 : Gr) (x2 : Int32) (Rv : Int32 × Gr × Gr), g_X4_factor S1 S2 x2 = some Rv → Met l yX4_factor (wsM (.code yX4_factor cX4_factor 4 (some .boolean))) ({ frames := F, cells := 0, slots := 0, locals := Lc } : Room) (va_Pc [.ref (q0 0), .ref (q2 0), .int x2] (ctP E (cw_X4 E q0 (q1 0) ++ (cw_X9 E q1 S1 ++ (cw_X3 E q2 S2))) sz)) (ctI E (cw_X4 E q0 (q1 0) ++ (cw_X9 E q1 S1 ++ (cw_X3 E q2 S2))) (cw_X4 E q0 (q1 0) ++ (cw_X9 E q1 Rv.2.1 ++ (cw_X3 E q2 Rv.2.2))) sz Rv.1) 0 0 (va_A (cw_X4 E q0 (q1 0) ++ (cw_X9 E q1 S1 ++ (cw_X3 E q2 S2))) sz)) (q0 q1 q2 : Nat → Nat) (sz : Nat) (S1 : Gr) (S2 : Gr) (x2 : Int32) (x3 : Int32) (Rv : Int32 × Gr × Gr) (h : fo_X4_condition g_X4_condition g_X4_test g_X4_sum g_X4_term g_X4_factor S1 S2 x2 x3 = some Rv) : Met l yX4_condition (wsM (.code yX4_condition cX4_condition 7 (some .boolean))) ({ frames := F + 10, cells := 0, slots := 0, locals := Lc + 300 } : Room) (va_Pc [.ref (q0 0), .ref (q2 0), .int x2, .int x3] (ctP E (cw_X4 E q0 (q1 0) ++ (cw_X9 E q1 S1 ++ (cw_X3 E q2 S2))) sz)) (ctI E (cw_X4 E q0 (q1 0) ++ (cw_X9 E q1 S1 ++ (cw_X3 E q2 S2))) (cw_X4 E q0 (q1 0) ++ (cw_X9 E q1 Rv.2.1 ++ (cw_X3 E q2 Rv.2.2))) sz Rv.1) 0 0 (va_A (cw_X4 E q0 (q1 0) ++ (cw_X9 E q1 S1 ++ (cw_X3 E q2 S2))) sz) := by
  refine ct_metI (by decide) (Nat.le_of_ble_eq_true rfl) ?_
  intro p e s m ar below meth c A QM hx hb hml hown hg X hP hD hS RET ls hl
  have hown : s.vm.findClass RX4 = some m.cls := hown
  have hl : lv_has ls 7 [(0, .ref (q0 0)), (1, .ref (q2 0)), (2, .int x2), (3, .int x3)] := hl
  have RT : ∀ (v : Int32) (S1 : Gr) (S2 : Gr) (H : Heap) (locs : List Loc) (ls : Array Slot) (pc : Nat), some (v, S1, S2) = some Rv → narrow .boolean (.int v) = .int v → va_P E.1 vwCl (cw_X4 E q0 (q1 0) ++ (cw_X9 E q1 S1 ++ (cw_X3 E q2 S2))) H → va_D A (cw_X4 E q0 (q1 0) ++ (cw_X9 E q1 S1 ++ (cw_X3 E q2 S2))) → va_S A s.heap H locs → decode cX4_condition pc = .ok (.ireturn, 1) → W p l e ({ frames := F + 10, cells := 0, slots := 0, locals := Lc + 300 } : Room) s m ar below meth c H locs 0 0 QM (F0 m pc ls [.int v]) := by
    intro v S1 S2 H locs ls pc e hn hP hD hS d
    obtain rfl := sm_e e
    exact RET H locs pc ls hn hP hD hS d
  clear RET
  have N37 : ∀ (k6 : Gr → Gr → Int32 → Int32 → Option (Int32 × Gr × Gr)) (hk6 : ∀ (S1 : Gr) (S2 : Gr) (x4 : Int32) (x5 : Int32) (H : Heap) (locs : List Loc) (ls : Array Slot), k6 S1 S2 x4 x5 = some Rv → va_P E.1 vwCl (cw_X4 E q0 (q1 0) ++ (cw_X9 E q1 S1 ++ (cw_X3 E q2 S2))) H → va_D A (cw_X4 E q0 (q1 0) ++ (cw_X9 E q1 S1 ++ (cw_X3 E q2 S2))) → va_S A s.heap H locs → lv_has ls 7 [(0, .ref (q0 0)), (1, .ref (q2 0)), (2, .int x2), (3, .int x3), (4, .int x4), (5, .int x5)] → W p l e ({ frames := F + 10, cells := 0, slots := 0, locals := Lc + 300 } : Room) s m ar below meth c H locs 0 0 QM (F0 m 6 ls [])) (S1 : Gr) (S2 : Gr) (x4 : Int32) (x5 : Int32) (w0 : Int32) (H : Heap) (locs : List Loc) (ls : Array Slot), f_X4_condition_n37 g_X4_condition g_X4_test g_X4_sum g_X4_term g_X4_factor x2 x3 k6 S1 S2 x4 x5 w0 = some Rv → va_P E.1 vwCl (cw_X4 E q0 (q1 0) ++ (cw_X9 E q1 S1 ++ (cw_X3 E q2 S2))) H → va_D A (cw_X4 E q0 (q1 0) ++ (cw_X9 E q1 S1 ++ (cw_X3 E q2 S2))) → va_S A s.heap H locs → lv_has ls 7 [(0, .ref (q0 0)), (1, .ref (q2 0)), (2, .int x2), (3, .int x3), (4, .int x4), (5, .int x5)] → W p l e ({ frames := F + 10, cells := 0, slots := 0, locals := Lc + 300 } : Room) s m ar below meth c H locs 0 0 QM (F0 m 37 ls [.int w0]) := by
    intro k6 hk6 S1 S2 x4 x5 w0 H locs ls h hP hD hS hl
    refine lv_istore (lv' := [(6, .int w0), (0, .ref (q0 0)), (1, .ref (q2 0)), (2, .int x2), (3, .int x3), (4, .int x4), (5, .int x5)]) hx hb dX4_condition_37 hl (by decide) rfl (fun ls hl => ?_)
    refine lv_iload hx hb dX4_condition_39 (lv_at hl 0 rfl) ?_
    refine lv_if_ne (tgt := 46) hx hb dX4_condition_41 (by decide) (fun c6 => ?_) (fun c6 => ?_)
    · have h := it_f h c6
      refine lv_aload_n hx hb dX4_condition_46 rfl (lv_at hl 2 rfl) ?_
      refine lv_iload hx hb dX4_condition_47 (lv_at hl 5 rfl) ?_
      obtain ⟨u7, hc, h⟩ := bd_el h
      have hC : ([3, 4, 5, 6, 7, 8, 9, 10] : List Nat).map (fun i => (cw_X4 E q0 (q1 0) ++ (cw_X9 E q1 S1 ++ (cw_X3 E q2 S2)))[i]?) = (cw_X3 E q2 S2).map some := rfl
      refine ct_v (ws' := cw_X4 E q0 (q1 0) ++ (cw_X9 E q1 S1 ++ (cw_X3 E q2 u7))) X hP hD hS [3, 4, 5, 6, 7, 8, 9, 10] (va_runV (C := RX3) (As := [.int x4]) (rest := []) ⟨hx, hb, hml, hown, hg⟩ (c_X3_landJump l E q2 H.size S2 x4 u7 hc) (cwV 1 hg (gwV wm_X4_77 wi_X3_landJump wsl_X3_landJump wini_X3 wco_X3_landJump) rfl rfl rfl (by decide +kernel) ⟨by dsimp only; omega, by dsimp only; omega⟩) ⟨ct_blind, ct_rv X.1 hP 3 rfl rfl, ct_pre X hP hD hS [3, 4, 5, 6, 7, 8, 9, 10] (by decide) hC _⟩ rfl rfl hl.1 rfl (lv_room (Nat.le_of_ble_eq_true rfl)) dX4_condition_49 ⟨Nat.zero_le _, Nat.zero_le _⟩) hC rfl rfl (fun H locs hP hD hS => ?_)
      clear hC
      refine lv_aload_n hx hb dX4_condition_52 rfl (lv_at hl 1 rfl) ?_
      refine va_get (D := E.1) (ci := 3) (v := .ref (q1 0)) (C := RX4) (T := TX4) (N := 1) hx hb hg in_X4 hown X.1 hP 0 rfl rfl 0 (by decide) (hg _ wf_X4_12) (fun _ h9 => h9) rfl dX4_condition_53 ?_
      obtain ⟨u8, hc, h⟩ := bd_el h
      have hC : ([1, 2] : List Nat).map (fun i => (cw_X4 E q0 (q1 0) ++ (cw_X9 E q1 S1 ++ (cw_X3 E q2 u7)))[i]?) = (cw_X9 E q1 S1).map some := rfl
      refine ct_iR X hP hD hS [1, 2] hC (va_runV (C := RX9) (As := []) (rest := []) ⟨hx, hb, hml, hown, hg⟩ (c_X9_peek l E q1 H.size S1 u8 hc) (cwV 0 hg (gwV wm_X4_35 wi_X9_peek wsl_X9_peek wini_X9 wco_X9_peek) rfl rfl rfl (by decide +kernel) ⟨by dsimp only; omega, by dsimp only; omega⟩) ⟨ct_blind, ct_rv X.1 hP 1 rfl rfl, ct_pre X hP hD hS [1, 2] (by decide) hC _⟩ rfl rfl hl.1 rfl (lv_room (Nat.le_of_ble_eq_true rfl)) dX4_condition_56 ⟨Nat.zero_le _, Nat.zero_le _⟩) (fun H locs hP hD hS => ?_)
      clear hC
      refine lv_iload_n hx hb dX4_condition_59 rfl (lv_at hl 4 rfl) ?_
      refine lv_icmp_eq (tgt := 65) hx hb dX4_condition_60 (by decide) (fun c9 => ?_) (fun c9 => ?_)
      · have h := it_t h c9
        refine lv_aload_n hx hb dX4_condition_65 rfl (lv_at hl 1 rfl) ?_
        refine va_get (D := E.1) (ci := 3) (v := .ref (q1 0)) (C := RX4) (T := TX4) (N := 1) hx hb hg in_X4 hown X.1 hP 0 rfl rfl 0 (by decide) (hg _ wf_X4_12) (fun _ h9 => h9) rfl dX4_condition_66 ?_
        obtain ⟨u10, hc, h⟩ := bd_el h
        have hC : ([1, 2] : List Nat).map (fun i => (cw_X4 E q0 (q1 0) ++ (cw_X9 E q1 S1 ++ (cw_X3 E q2 u7)))[i]?) = (cw_X9 E q1 S1).map some := rfl
        refine ct_v (ws' := cw_X4 E q0 (q1 0) ++ (cw_X9 E q1 u10 ++ (cw_X3 E q2 u7))) X hP hD hS [1, 2] (va_runV (C := RX9) (As := []) (rest := []) ⟨hx, hb, hml, hown, hg⟩ (c_X9_step l E q1 H.size S1 u10 hc) (cwV 0 hg (gwV wm_X4_53 wi_X9_step wsl_X9_step wini_X9 wco_X9_step) rfl rfl rfl (by decide +kernel) ⟨by dsimp only; omega, by dsimp only; omega⟩) ⟨ct_blind, ct_rv X.1 hP 1 rfl rfl, ct_pre X hP hD hS [1, 2] (by decide) hC _⟩ rfl rfl hl.1 rfl (lv_room (Nat.le_of_ble_eq_true rfl)) dX4_condition_69 ⟨Nat.zero_le _, Nat.zero_le _⟩) hC rfl rfl (fun H locs hP hD hS => ?_)
        clear hC
        refine lv_aload_n hx hb dX4_condition_72 rfl (lv_at hl 2 rfl) ?_
        refine lv_iload_n hx hb dX4_condition_73 rfl (lv_at hl 4 rfl) ?_
        obtain ⟨u11, hc, h⟩ := bd_el h
        have hC : ([3, 4, 5, 6, 7, 8, 9, 10] : List Nat).map (fun i => (cw_X4 E q0 (q1 0) ++ (cw_X9 E q1 u10 ++ (cw_X3 E q2 u7)))[i]?) = (cw_X3 E q2 u7).map some := rfl
        refine ct_v (ws' := cw_X4 E q0 (q1 0) ++ (cw_X9 E q1 u10 ++ (cw_X3 E q2 u11))) X hP hD hS [3, 4, 5, 6, 7, 8, 9, 10] (va_runV (C := RX3) (As := [.int x3]) (rest := []) ⟨hx, hb, hml, hown, hg⟩ (c_X3_writeSign l E q2 H.size u7 x3 u11 hc) (cwV 1 hg (gwV wm_X4_80 wi_X3_writeSign wsl_X3_writeSign wini_X3 wco_X3_writeSign) rfl rfl rfl (by decide +kernel) ⟨by dsimp only; omega, by dsimp only; omega⟩) ⟨ct_blind, ct_rv X.1 hP 3 rfl rfl, ct_pre X hP hD hS [3, 4, 5, 6, 7, 8, 9, 10] (by decide) hC _⟩ rfl rfl hl.1 rfl (lv_room (Nat.le_of_ble_eq_true rfl)) dX4_condition_74 ⟨Nat.zero_le _, Nat.zero_le _⟩) hC rfl rfl (fun H locs hP hD hS => ?_)
        clear hC
        refine lv_aload_n hx hb dX4_condition_77 rfl (lv_at hl 2 rfl) ?_
        obtain ⟨u12, hc, h⟩ := bd_el h
        have hC : ([3, 4, 5, 6, 7, 8, 9, 10] : List Nat).map (fun i => (cw_X4 E q0 (q1 0) ++ (cw_X9 E q1 u10 ++ (cw_X3 E q2 u11)))[i]?) = (cw_X3 E q2 u11).map some := rfl
        refine ct_iR X hP hD hS [3, 4, 5, 6, 7, 8, 9, 10] hC (va_runV (C := RX3) (As := []) (rest := []) ⟨hx, hb, hml, hown, hg⟩ (c_X3_lastSign l E q2 H.size u11 u12 hc) (cwV 0 hg (gwV wm_X4_83 wi_X3_lastSign wsl_X3_lastSign wini_X3 wco_X3_lastSign) rfl rfl rfl (by decide +kernel) ⟨by dsimp only; omega, by dsimp only; omega⟩) ⟨ct_blind, ct_rv X.1 hP 3 rfl rfl, ct_pre X hP hD hS [3, 4, 5, 6, 7, 8, 9, 10] (by decide) hC _⟩ rfl rfl hl.1 rfl (lv_room (Nat.le_of_ble_eq_true rfl)) dX4_condition_78 ⟨Nat.zero_le _, Nat.zero_le _⟩) (fun H locs hP hD hS => ?_)
        clear hC
        refine lv_istore (lv' := [(4, .int u12), (6, .int w0), (0, .ref (q0 0)), (1, .ref (q2 0)), (2, .int x2), (3, .int x3), (5, .int x5)]) hx hb dX4_condition_81 hl (by decide) rfl (fun ls hl => ?_)
        obtain ⟨v13, ev13, h⟩ := lt_el h
        refine lv_iinc (v := v13) (lv' := [(5, .int v13), (4, .int u12), (6, .int w0), (0, .ref (q0 0)), (1, .ref (q2 0)), (2, .int x2), (3, .int x3)]) hx hb dX4_condition_83 hl (k := 6) rfl (by rw [ev13]; rfl) (by decide) rfl (fun ls hl => ?_)
        refine lv_goto (tgt := 6) hx hb dX4_condition_86 (by decide) ?_
        exact hk6 u10 u11 u12 v13 _ _ _ h hP hD hS (lv_sub hl [3, 4, 5, 6, 1, 0] rfl)
      · have h := it_f h c9
        refine lv_iconst (v := 1) hx hb dX4_condition_63 (by decide) ?_
        exact RT 1 S1 u7 _ _ _ _ h (by decide +kernel) hP hD hS dX4_condition_64
    · have h := it_t h c6
      refine lv_iconst (v := 0) hx hb dX4_condition_44 (by decide) ?_
      exact RT 0 S1 S2 _ _ _ _ h (by decide +kernel) hP hD hS dX4_condition_45
  have N6 : ∀ (n : Nat) (S1 : Gr) (S2 : Gr) (x4 : Int32) (x5 : Int32) (H : Heap) (locs : List Loc) (ls : Array Slot), f_X4_condition_n6 g_X4_condition g_X4_test g_X4_sum g_X4_term g_X4_factor x2 x3 n S1 S2 x4 x5 = some Rv → va_P E.1 vwCl (cw_X4 E q0 (q1 0) ++ (cw_X9 E q1 S1 ++ (cw_X3 E q2 S2))) H → va_D A (cw_X4 E q0 (q1 0) ++ (cw_X9 E q1 S1 ++ (cw_X3 E q2 S2))) → va_S A s.heap H locs → lv_has ls 7 [(0, .ref (q0 0)), (1, .ref (q2 0)), (2, .int x2), (3, .int x3), (4, .int x4), (5, .int x5)] → W p l e ({ frames := F + 10, cells := 0, slots := 0, locals := Lc + 300 } : Room) s m ar below meth c H locs 0 0 QM (F0 m 6 ls []) := by
    intro n
    induction n with
    | zero => intro S1 S2 x4 x5 H locs ls h; exact nn_el h
    | succ n ih =>
      intro S1 S2 x4 x5 H locs ls h hP hD hS hl
      refine lv_iload hx hb dX4_condition_6 (lv_at hl 5 rfl) ?_
      refine lv_sipush (v := 240) hx hb dX4_condition_8 (by decide) ?_
      refine lv_icmp_gt (tgt := 89) hx hb dX4_condition_11 (by decide) (fun c1 => ?_) (fun c1 => ?_)
      · have h := it_t h c1
        refine lv_aload_n hx hb dX4_condition_89 rfl (lv_at hl 0 rfl) ?_
        refine va_get (D := E.1) (ci := 3) (v := .ref (q1 0)) (C := RX4) (T := TX4) (N := 1) hx hb hg in_X4 hown X.1 hP 0 rfl rfl 0 (by decide) (hg _ wf_X4_12) (fun _ h9 => h9) rfl dX4_condition_90 ?_
        refine lv_iconst (v := 1) hx hb dX4_condition_93 (by decide) ?_
        obtain ⟨u2, hc, h⟩ := bd_el h
        have hC : ([1, 2] : List Nat).map (fun i => (cw_X4 E q0 (q1 0) ++ (cw_X9 E q1 S1 ++ (cw_X3 E q2 S2)))[i]?) = (cw_X9 E q1 S1).map some := rfl
        refine ct_i (ws' := cw_X4 E q0 (q1 0) ++ (cw_X9 E q1 u2.2 ++ (cw_X3 E q2 S2))) X hP hD hS [1, 2] (va_runV (C := RX9) (As := [.int 1]) (rest := []) ⟨hx, hb, hml, hown, hg⟩ (c_X9_fail l E q1 H.size S1 1 u2 hc) (cwV 1 hg (gwV wm_X4_46 wi_X9_fail wsl_X9_fail wini_X9 wco_X9_fail) rfl rfl rfl (by decide +kernel) ⟨by dsimp only; omega, by dsimp only; omega⟩) ⟨ct_blind, ct_rv X.1 hP 1 rfl rfl, ct_pre X hP hD hS [1, 2] (by decide) hC _⟩ rfl rfl hl.1 rfl (lv_room (Nat.le_of_ble_eq_true rfl)) dX4_condition_94 ⟨Nat.zero_le _, Nat.zero_le _⟩) hC rfl rfl (fun H locs hP hD hS => ?_)
        clear hC
        obtain ⟨hn1, -, h⟩ := zb_el h
        exact RT u2.1 u2.2 S2 _ _ _ _ h hn1 hP hD hS dX4_condition_97
      · have h := it_f h c1
        refine lv_iload_n hx hb dX4_condition_14 rfl (lv_at hl 3 rfl) ?_
        refine lv_bipush (v := 124) hx hb dX4_condition_15 (by decide) ?_
        refine lv_icmp_ne (tgt := 31) hx hb dX4_condition_17 (by decide) (fun c3 => ?_) (fun c3 => ?_)
        · have h := it_f h c3
          refine lv_aload_n hx hb dX4_condition_31 rfl (lv_at hl 0 rfl) ?_
          refine lv_aload_n hx hb dX4_condition_32 rfl (lv_at hl 1 rfl) ?_
          refine lv_iload_n hx hb dX4_condition_33 rfl (lv_at hl 2 rfl) ?_
          obtain ⟨u4, hc, h⟩ := bd_el h
          refine ct_iA (w1 := cw_X4 E q0 (q1 0) ++ (cw_X9 E q1 u4.2.1 ++ (cw_X3 E q2 u4.2.2))) X hP hD hS (va_runV (C := RX4) (As := [.ref (q2 0), .int x2]) (rest := []) ⟨hx, hb, hml, hown, hg⟩ (hg_X4_test q0 q1 q2 H.size S1 S2 x2 u4 hc) (cwV 2 hg (gwV wm_X4_74 wi_X4_test wsl_X4_test wini_X4 wco_X4_test) rfl rfl rfl (by decide +kernel) ⟨by dsimp only; omega, by dsimp only; omega⟩) ⟨ct_blind, ct_rv X.1 hP 0 rfl rfl, ct_preA X hP hD hS _⟩ rfl rfl hl.1 rfl (lv_room (Nat.le_of_ble_eq_true rfl)) dX4_condition_34 ⟨Nat.zero_le _, Nat.zero_le _⟩) (fun H locs hP hD hS => ?_)
          exact N37 (f_X4_condition_n6 g_X4_condition g_X4_test g_X4_sum g_X4_term g_X4_factor x2 x3 n) ih u4.2.1 u4.2.2 x4 x5 u4.1 _ _ _ h hP hD hS (lv_sub hl [0, 1, 2, 3, 4, 5] rfl)
        · have h := it_t h c3
          refine lv_aload_n hx hb dX4_condition_20 rfl (lv_at hl 0 rfl) ?_
          refine lv_aload_n hx hb dX4_condition_21 rfl (lv_at hl 1 rfl) ?_
          refine lv_iload_n hx hb dX4_condition_22 rfl (lv_at hl 2 rfl) ?_
          refine lv_bipush (v := 38) hx hb dX4_condition_23 (by decide) ?_
          obtain ⟨u5, hc, h⟩ := bd_el h
          refine ct_iA (w1 := cw_X4 E q0 (q1 0) ++ (cw_X9 E q1 u5.2.1 ++ (cw_X3 E q2 u5.2.2))) X hP hD hS (va_runV (C := RX4) (As := [.ref (q2 0), .int x2, .int 38]) (rest := []) ⟨hx, hb, hml, hown, hg⟩ (hg_X4_condition q0 q1 q2 H.size S1 S2 x2 38 u5 hc) (cwV 3 hg (gwV wm_X4_67 wi_X4_condition wsl_X4_condition wini_X4 wco_X4_condition) rfl rfl rfl (by decide +kernel) ⟨by dsimp only; omega, by dsimp only; omega⟩) ⟨ct_blind, ct_rv X.1 hP 0 rfl rfl, ct_preA X hP hD hS _⟩ rfl rfl hl.1 rfl (lv_room (Nat.le_of_ble_eq_true rfl)) dX4_condition_25 ⟨Nat.zero_le _, Nat.zero_le _⟩) (fun H locs hP hD hS => ?_)
          refine lv_goto (tgt := 37) hx hb dX4_condition_28 (by decide) ?_
          exact N37 (f_X4_condition_n6 g_X4_condition g_X4_test g_X4_sum g_X4_term g_X4_factor x2 x3 n) ih u5.2.1 u5.2.2 x4 x5 u5.1 _ _ _ h hP hD hS (lv_sub hl [0, 1, 2, 3, 4, 5] rfl)
  obtain ⟨H, eH⟩ : ∃ z, z = s.heap := ⟨_, rfl⟩
  rw [← eH]
  have hP : va_P E.1 vwCl (cw_X4 E q0 (q1 0) ++ (cw_X9 E q1 S1 ++ (cw_X3 E q2 S2))) H := by rw [eH]; exact hP
  have hS : va_S A s.heap H [] := by rw [eH]; exact hS
  clear eH
  obtain ⟨locs, el⟩ : ∃ z : List Loc, z = [] := ⟨_, rfl⟩
  rw [← el] at hS ⊢
  clear el
  refine lv_iconst (v := (-1)) hx hb dX4_condition_0 (by decide) ?_
  refine lv_istore (lv' := [(4, .int (-1)), (0, .ref (q0 0)), (1, .ref (q2 0)), (2, .int x2), (3, .int x3)]) hx hb dX4_condition_1 hl (by decide) rfl (fun ls hl => ?_)
  refine lv_iconst (v := 0) hx hb dX4_condition_3 (by decide) ?_
  refine lv_istore (lv' := [(5, .int 0), (4, .int (-1)), (0, .ref (q0 0)), (1, .ref (q2 0)), (2, .int x2), (3, .int x3)]) hx hb dX4_condition_4 hl (by decide) rfl (fun ls hl => ?_)
  exact N6 fu S1 S2 (-1) 0 _ _ _ h hP hD hS (lv_sub hl [2, 3, 4, 5, 1, 0] rfl)
theorem dX4_test_0 : decode cX4_test 0 = .ok (.aload_n 0, 1) := by decide +kernel
theorem dX4_test_1 : decode cX4_test 1 = .ok (.getfield 12, 3) := by decide +kernel
theorem dX4_test_4 : decode cX4_test 4 = .ok (.invokevirtual 35, 3) := by decide +kernel
theorem dX4_test_7 : decode cX4_test 7 = .ok (.istore_n 3, 1) := by decide +kernel
theorem dX4_test_8 : decode cX4_test 8 = .ok (.iload_n 3, 1) := by decide +kernel
theorem dX4_test_9 : decode cX4_test 9 = .ok (.bipush 33, 2) := by decide +kernel
theorem dX4_test_11 : decode cX4_test 11 = .ok (.if_icmp .eq 9, 3) := by decide +kernel
theorem dX4_test_14 : decode cX4_test 14 = .ok (.iload_n 3, 1) := by decide +kernel
theorem dX4_test_15 : decode cX4_test 15 = .ok (.bipush 40, 2) := by decide +kernel
theorem dX4_test_17 : decode cX4_test 17 = .ok (.if_icmp .ne 83, 3) := by decide +kernel
theorem dX4_test_20 : decode cX4_test 20 = .ok (.iload_n 2, 1) := by decide +kernel
theorem dX4_test_21 : decode cX4_test 21 = .ok (.bipush 6, 2) := by decide +kernel
theorem dX4_test_23 : decode cX4_test 23 = .ok (.if_icmp .lt 12, 3) := by decide +kernel
theorem dX4_test_26 : decode cX4_test 26 = .ok (.aload_n 0, 1) := by decide +kernel
theorem dX4_test_27 : decode cX4_test 27 = .ok (.getfield 12, 3) := by decide +kernel
theorem dX4_test_30 : decode cX4_test 30 = .ok (.iconst 5, 1) := by decide +kernel
theorem dX4_test_31 : decode cX4_test 31 = .ok (.invokevirtual 46, 3) := by decide +kernel
theorem dX4_test_34 : decode cX4_test 34 = .ok (.ireturn, 1) := by decide +kernel
theorem dX4_test_35 : decode cX4_test 35 = .ok (.aload_n 0, 1) := by decide +kernel
theorem dX4_test_36 : decode cX4_test 36 = .ok (.getfield 12, 3) := by decide +kernel
theorem dX4_test_39 : decode cX4_test 39 = .ok (.invokevirtual 53, 3) := by decide +kernel
theorem dX4_test_42 : decode cX4_test 42 = .ok (.iload_n 3, 1) := by decide +kernel
theorem dX4_test_43 : decode cX4_test 43 = .ok (.bipush 40, 2) := by decide +kernel
theorem dX4_test_45 : decode cX4_test 45 = .ok (.if_icmp .ne 34, 3) := by decide +kernel
theorem dX4_test_48 : decode cX4_test 48 = .ok (.aload_n 0, 1) := by decide +kernel
theorem dX4_test_49 : decode cX4_test 49 = .ok (.aload_n 1, 1) := by decide +kernel
theorem dX4_test_50 : decode cX4_test 50 = .ok (.iload_n 2, 1) := by decide +kernel
theorem dX4_test_51 : decode cX4_test 51 = .ok (.iconst 1, 1) := by decide +kernel
theorem dX4_test_52 : decode cX4_test 52 = .ok (.iadd, 1) := by decide +kernel
theorem dX4_test_53 : decode cX4_test 53 = .ok (.bipush 124, 2) := by decide +kernel
theorem dX4_test_55 : decode cX4_test 55 = .ok (.invokevirtual 67, 3) := by decide +kernel
theorem dX4_test_58 : decode cX4_test 58 = .ok (.ifCond .eq 19, 3) := by decide +kernel
theorem dX4_test_61 : decode cX4_test 61 = .ok (.aload_n 0, 1) := by decide +kernel
theorem dX4_test_62 : decode cX4_test 62 = .ok (.getfield 12, 3) := by decide +kernel
theorem dX4_test_65 : decode cX4_test 65 = .ok (.bipush 41, 2) := by decide +kernel
theorem dX4_test_67 : decode cX4_test 67 = .ok (.invokevirtual 42, 3) := by decide +kernel
theorem dX4_test_70 : decode cX4_test 70 = .ok (.ifCond .eq 7, 3) := by decide +kernel
theorem dX4_test_73 : decode cX4_test 73 = .ok (.iconst 1, 1) := by decide +kernel
theorem dX4_test_74 : decode cX4_test 74 = .ok (.goto 4, 3) := by decide +kernel
theorem dX4_test_77 : decode cX4_test 77 = .ok (.iconst 0, 1) := by decide +kernel
theorem dX4_test_78 : decode cX4_test 78 = .ok (.ireturn, 1) := by decide +kernel
theorem dX4_test_79 : decode cX4_test 79 = .ok (.aload_n 0, 1) := by decide +kernel
theorem dX4_test_80 : decode cX4_test 80 = .ok (.aload_n 1, 1) := by decide +kernel
theorem dX4_test_81 : decode cX4_test 81 = .ok (.iload_n 2, 1) := by decide +kernel
theorem dX4_test_82 : decode cX4_test 82 = .ok (.iconst 1, 1) := by decide +kernel
theorem dX4_test_83 : decode cX4_test 83 = .ok (.iadd, 1) := by decide +kernel
theorem dX4_test_84 : decode cX4_test 84 = .ok (.invokevirtual 74, 3) := by decide +kernel
theorem dX4_test_87 : decode cX4_test 87 = .ok (.ifCond .ne 5, 3) := by decide +kernel
theorem dX4_test_90 : decode cX4_test 90 = .ok (.iconst 0, 1) := by decide +kernel
theorem dX4_test_91 : decode cX4_test 91 = .ok (.ireturn, 1) := by decide +kernel
theorem dX4_test_92 : decode cX4_test 92 = .ok (.aload_n 1, 1) := by decide +kernel
theorem dX4_test_93 : decode cX4_test 93 = .ok (.bipush 33, 2) := by decide +kernel
theorem dX4_test_95 : decode cX4_test 95 = .ok (.invokevirtual 80, 3) := by decide +kernel
theorem dX4_test_98 : decode cX4_test 98 = .ok (.iconst 1, 1) := by decide +kernel
theorem dX4_test_99 : decode cX4_test 99 = .ok (.ireturn, 1) := by decide +kernel
theorem dX4_test_100 : decode cX4_test 100 = .ok (.aload_n 0, 1) := by decide +kernel
theorem dX4_test_101 : decode cX4_test 101 = .ok (.aload_n 1, 1) := by decide +kernel
theorem dX4_test_102 : decode cX4_test 102 = .ok (.iload_n 2, 1) := by decide +kernel
theorem dX4_test_103 : decode cX4_test 103 = .ok (.invokevirtual 60, 3) := by decide +kernel
theorem dX4_test_106 : decode cX4_test 106 = .ok (.ifCond .ne 5, 3) := by decide +kernel
theorem dX4_test_109 : decode cX4_test 109 = .ok (.iconst 0, 1) := by decide +kernel
theorem dX4_test_110 : decode cX4_test 110 = .ok (.ireturn, 1) := by decide +kernel
theorem dX4_test_111 : decode cX4_test 111 = .ok (.aload_n 0, 1) := by decide +kernel
theorem dX4_test_112 : decode cX4_test 112 = .ok (.getfield 12, 3) := by decide +kernel
theorem dX4_test_115 : decode cX4_test 115 = .ok (.invokevirtual 35, 3) := by decide +kernel
theorem dX4_test_118 : decode cX4_test 118 = .ok (.istore 4, 2) := by decide +kernel
theorem dX4_test_120 : decode cX4_test 120 = .ok (.iload 4, 2) := by decide +kernel
theorem dX4_test_122 : decode cX4_test 122 = .ok (.bipush 60, 2) := by decide +kernel
theorem dX4_test_124 : decode cX4_test 124 = .ok (.if_icmp .eq 26, 3) := by decide +kernel
theorem dX4_test_127 : decode cX4_test 127 = .ok (.iload 4, 2) := by decide +kernel
theorem dX4_test_129 : decode cX4_test 129 = .ok (.bipush 62, 2) := by decide +kernel
theorem dX4_test_131 : decode cX4_test 131 = .ok (.if_icmp .eq 19, 3) := by decide +kernel
theorem dX4_test_134 : decode cX4_test 134 = .ok (.iload 4, 2) := by decide +kernel
theorem dX4_test_136 : decode cX4_test 136 = .ok (.bipush 61, 2) := by decide +kernel
theorem dX4_test_138 : decode cX4_test 138 = .ok (.if_icmp .eq 12, 3) := by decide +kernel
theorem dX4_test_141 : decode cX4_test 141 = .ok (.aload_n 0, 1) := by decide +kernel
theorem dX4_test_142 : decode cX4_test 142 = .ok (.getfield 12, 3) := by decide +kernel
theorem dX4_test_145 : decode cX4_test 145 = .ok (.iconst 1, 1) := by decide +kernel
theorem dX4_test_146 : decode cX4_test 146 = .ok (.invokevirtual 46, 3) := by decide +kernel
theorem dX4_test_149 : decode cX4_test 149 = .ok (.ireturn, 1) := by decide +kernel
theorem dX4_test_150 : decode cX4_test 150 = .ok (.aload_n 0, 1) := by decide +kernel
theorem dX4_test_151 : decode cX4_test 151 = .ok (.getfield 12, 3) := by decide +kernel
theorem dX4_test_154 : decode cX4_test 154 = .ok (.invokevirtual 53, 3) := by decide +kernel
theorem dX4_test_157 : decode cX4_test 157 = .ok (.aload_n 0, 1) := by decide +kernel
theorem dX4_test_158 : decode cX4_test 158 = .ok (.aload_n 1, 1) := by decide +kernel
theorem dX4_test_159 : decode cX4_test 159 = .ok (.iload_n 2, 1) := by decide +kernel
theorem dX4_test_160 : decode cX4_test 160 = .ok (.invokevirtual 60, 3) := by decide +kernel
theorem dX4_test_163 : decode cX4_test 163 = .ok (.ifCond .ne 5, 3) := by decide +kernel
theorem dX4_test_166 : decode cX4_test 166 = .ok (.iconst 0, 1) := by decide +kernel
theorem dX4_test_167 : decode cX4_test 167 = .ok (.ireturn, 1) := by decide +kernel
theorem dX4_test_168 : decode cX4_test 168 = .ok (.aload_n 1, 1) := by decide +kernel
theorem dX4_test_169 : decode cX4_test 169 = .ok (.iload 4, 2) := by decide +kernel
theorem dX4_test_171 : decode cX4_test 171 = .ok (.invokevirtual 80, 3) := by decide +kernel
theorem dX4_test_174 : decode cX4_test 174 = .ok (.iconst 1, 1) := by decide +kernel
theorem dX4_test_175 : decode cX4_test 175 = .ok (.ireturn, 1) := by decide +kernel
def f_X4_test_n20 (g_X4_condition : Gr → Gr → Int32 → Int32 → Option (Int32 × Gr × Gr)) (g_X4_test : Gr → Gr → Int32 → Option (Int32 × Gr × Gr)) (g_X4_sum : Gr → Gr → Int32 → Option (Int32 × Gr × Gr)) (g_X4_term : Gr → Gr → Int32 → Option (Int32 × Gr × Gr)) (g_X4_factor : Gr → Gr → Int32 → Option (Int32 × Gr × Gr)) (x2 : Int32) (S1 : Gr) (S2 : Gr) (x3 : Int32) : Option (Int32 × Gr × Gr) := if x2 < 6 then ((f_X9_step S1).bind fun u16 => if x3 = 40 then ((g_X4_condition u16 S2 (x2 + 1) 124).bind fun u21 => if u21.1 = 0 then (some (0, u21.2.1, u21.2.2)) else ((f_X9_stepOver u21.2.1 41).bind fun u23 => if u23.1 = 0 then (some (0, u23.2, u21.2.2)) else (some (1, u23.2, u21.2.2)))) else ((g_X4_test u16 S2 (x2 + 1)).bind fun u18 => if u18.1 = 0 then (some (0, u18.2.1, u18.2.2)) else ((f_X3_writeSign u18.2.2 33).bind fun u20 => some (1, u18.2.1, u20)))) else ((f_X9_fail S1 5).bind fun u25 => zb' u25.1 (some (u25.1, u25.2, S2)))
def f_X4_test_n150 (g_X4_condition : Gr → Gr → Int32 → Int32 → Option (Int32 × Gr × Gr)) (g_X4_test : Gr → Gr → Int32 → Option (Int32 × Gr × Gr)) (g_X4_sum : Gr → Gr → Int32 → Option (Int32 × Gr × Gr)) (g_X4_term : Gr → Gr → Int32 → Option (Int32 × Gr × Gr)) (g_X4_factor : Gr → Gr → Int32 → Option (Int32 × Gr × Gr)) (x2 : Int32) (S1 : Gr) (S2 : Gr) (x4 : Int32) : Option (Int32 × Gr × Gr) := (f_X9_step S1).bind fun u11 => (g_X4_sum u11 S2 x2).bind fun u12 => if u12.1 = 0 then (some (0, u12.2.1, u12.2.2)) else ((f_X3_writeSign u12.2.2 x4).bind fun u14 => some (1, u12.2.1, u14))
def fo_X4_test (g_X4_condition : Gr → Gr → Int32 → Int32 → Option (Int32 × Gr × Gr)) (g_X4_test : Gr → Gr → Int32 → Option (Int32 × Gr × Gr)) (g_X4_sum : Gr → Gr → Int32 → Option (Int32 × Gr × Gr)) (g_X4_term : Gr → Gr → Int32 → Option (Int32 × Gr × Gr)) (g_X4_factor : Gr → Gr → Int32 → Option (Int32 × Gr × Gr)) (S1 : Gr) (S2 : Gr) (x2 : Int32) : Option (Int32 × Gr × Gr) := (f_X9_peek S1).bind fun u1 => if u1 = 33 then (f_X4_test_n20 g_X4_condition g_X4_test g_X4_sum g_X4_term g_X4_factor x2 S1 S2 u1) else (if u1 = 40 then (f_X4_test_n20 g_X4_condition g_X4_test g_X4_sum g_X4_term g_X4_factor x2 S1 S2 u1) else ((g_X4_sum S1 S2 x2).bind fun u4 => if u4.1 = 0 then (some (0, u4.2.1, u4.2.2)) else ((f_X9_peek u4.2.1).bind fun u6 => if u6 = 60 then (f_X4_test_n150 g_X4_condition g_X4_test g_X4_sum g_X4_term g_X4_factor x2 u4.2.1 u4.2.2 u6) else (if u6 = 62 then (f_X4_test_n150 g_X4_condition g_X4_test g_X4_sum g_X4_term g_X4_factor x2 u4.2.1 u4.2.2 u6) else (if u6 = 61 then (f_X4_test_n150 g_X4_condition g_X4_test g_X4_sum g_X4_term g_X4_factor x2 u4.2.1 u4.2.2 u6) else ((f_X9_fail u4.2.1 1).bind fun u10 => zb' u10.1 (some (u10.1, u10.2, u4.2.2))))))))
set_option maxHeartbeats 4000000 in
set_option maxRecDepth 100000 in
theorem co_X4_test (l : Launch) (E : Ec) (F Lc : Nat) (g_X4_condition : Gr → Gr → Int32 → Int32 → Option (Int32 × Gr × Gr)) (g_X4_test : Gr → Gr → Int32 → Option (Int32 × Gr × Gr)) (g_X4_sum : Gr → Gr → Int32 → Option (Int32 × Gr × Gr)) (g_X4_term : Gr → Gr → Int32 → Option (Int32 × Gr × Gr)) (g_X4_factor : Gr → Gr → Int32 → Option (Int32 × Gr × Gr)) (hg_X4_condition : ∀ (q0 q1 q2 : Nat → Nat) (sz : Nat) (S1 : Gr) (S2 : Gr) (x2 : Int32) (x3 : Int32) (Rv : Int32 × Gr × Gr), g_X4_condition S1 S2 x2 x3 = some Rv → Met l yX4_condition (wsM (.code yX4_condition cX4_condition 7 (some .boolean))) ({ frames := F, cells := 0, slots := 0, locals := Lc } : Room) (va_Pc [.ref (q0 0), .ref (q2 0), .int x2, .int x3] (ctP E (cw_X4 E q0 (q1 0) ++ (cw_X9 E q1 S1 ++ (cw_X3 E q2 S2))) sz)) (ctI E (cw_X4 E q0 (q1 0) ++ (cw_X9 E q1 S1 ++ (cw_X3 E q2 S2))) (cw_X4 E q0 (q1 0) ++ (cw_X9 E q1 Rv.2.1 ++ (cw_X3 E q2 Rv.2.2))) sz Rv.1) 0 0 (va_A (cw_X4 E q0 (q1 0) ++ (cw_X9 E q1 S1 ++ (cw_X3 E q2 S2))) sz)) (hg_X4_test : ∀ (q0 q1 q2 : Nat → Nat) (sz : Nat) (S1 : Gr) (S2 : Gr) (x2 : Int32) (Rv : Int32 × Gr × Gr), g_X4_test S1 S2 x2 = some Rv → Met l yX4_test (wsM (.code yX4_test cX4_test 5 (some .boolean))) ({ frames := F, cells := 0, slots := 0, locals := Lc } : Room) (va_Pc [.ref (q0 0), .ref (q2 0), .int x2] (ctP E (cw_X4 E q0 (q1 0) ++ (cw_X9 E q1 S1 ++ (cw_X3 E q2 S2))) sz)) (ctI E (cw_X4 E q0 (q1 0) ++ (cw_X9 E q1 S1 ++ (cw_X3 E q2 S2))) (cw_X4 E q0 (q1 0) ++ (cw_X9 E q1 Rv.2.1 ++ (cw_X3 E q2 Rv.2.2))) sz Rv.1) 0 0 (va_A (cw_X4 E q0 (q1 0) ++ (cw_X9 E q1 S1 ++ (cw_X3 E q2 S2))) sz)) (hg_X4_sum : ∀ (q0 q1 q2 : Nat → Nat) (sz : Nat) (S1 : Gr) (S2 : Gr) (x2 : Int32) (Rv : Int32 × Gr × Gr), g_X4_sum S1 S2 x2 = some Rv → Met l yX4_sum (wsM (.code yX4_sum cX4_sum 5 (some .boolean))) ({ frames := F, cells := 0, slots := 0, locals := Lc } : Room) (va_Pc [.ref (q0 0), .ref (q2 0), .int x2] (ctP E (cw_X4 E q0 (q1 0) ++ (cw_X9 E q1 S1 ++ (cw_X3 E q2 S2))) sz)) (ctI E (cw_X4 E q0 (q1 0) ++ (cw_X9 E q1 S1 ++ (cw_X3 E q2 S2))) (cw_X4 E q0 (q1 0) ++ (cw_X9 E q1 Rv.2.1 ++ (cw_X3 E q2 Rv.2.2))) sz Rv.1) 0 0 (va_A (cw_X4 E q0 (q1 0) ++ (cw_X9 E q1 S1 ++ (cw_X3 E q2 S2))) sz)) (hg_X4_term : ∀ (q0 q1 q2 : Nat → Nat) (sz : Nat) (S1 : Gr) (S2 : Gr) (x2 : Int32) (Rv : Int32 × Gr × Gr), g_X4_term S1 S2 x2 = some Rv → Met l yX4_term (wsM (.code yX4_term cX4_term 5 (some .boolean))) ({ frames := F, cells := 0, slots := 0, locals := Lc } : Room) (va_Pc [.ref (q0 0), .ref (q2 0), .int x2] (ctP E (cw_X4 E q0 (q1 0) ++ (cw_X9 E q1 S1 ++ (cw_X3 E q2 S2))) sz)) (ctI E (cw_X4 E q0 (q1 0) ++ (cw_X9 E q1 S1 ++ (cw_X3 E q2 S2))) (cw_X4 E q0 (q1 0) ++ (cw_X9 E q1 Rv.2.1 ++ (cw_X3 E q2 Rv.2.2))) sz Rv.1) 0 0 (va_A (cw_X4 E q0 (q1 0) ++ (cw_X9 E q1 S1 ++ (cw_X3 E q2 S2))) sz)) (hg_X4_factor : ∀ (q0 q1 q2 : Nat → Nat) (sz : Nat) (S1 : Gr) (S2 : Gr) (x2 : Int32) (Rv : Int32 × Gr × Gr), g_X4_factor S1 S2 x2 = some Rv → Met l yX4_factor (wsM (.code yX4_factor cX4_factor 4 (some .boolean))) ({ frames := F, cells := 0, slots := 0, locals := Lc } : Room) (va_Pc [.ref (q0 0), .ref (q2 0), .int x2] (ctP E (cw_X4 E q0 (q1 0) ++ (cw_X9 E q1 S1 ++ (cw_X3 E q2 S2))) sz)) (ctI E (cw_X4 E q0 (q1 0) ++ (cw_X9 E q1 S1 ++ (cw_X3 E q2 S2))) (cw_X4 E q0 (q1 0) ++ (cw_X9 E q1 Rv.2.1 ++ (cw_X3 E q2 Rv.2.2))) sz Rv.1) 0 0 (va_A (cw_X4 E q0 (q1 0) ++ (cw_X9 E q1 S1 ++ (cw_X3 E q2 S2))) sz)) (q0 q1 q2 : Nat → Nat) (sz : Nat) (S1 : Gr) (S2 : Gr) (x2 : Int32) (Rv : Int32 × Gr × Gr) (h : fo_X4_test g_X4_condition g_X4_test g_X4_sum g_X4_term g_X4_factor S1 S2 x2 = some Rv) : Met l yX4_test (wsM (.code yX4_test cX4_test 5 (some .boolean))) ({ frames := F + 10, cells := 0, slots := 0, locals := Lc + 300 } : Room) (va_Pc [.ref (q0 0), .ref (q2 0), .int x2] (ctP E (cw_X4 E q0 (q1 0) ++ (cw_X9 E q1 S1 ++ (cw_X3 E q2 S2))) sz)) (ctI E (cw_X4 E q0 (q1 0) ++ (cw_X9 E q1 S1 ++ (cw_X3 E q2 S2))) (cw_X4 E q0 (q1 0) ++ (cw_X9 E q1 Rv.2.1 ++ (cw_X3 E q2 Rv.2.2))) sz Rv.1) 0 0 (va_A (cw_X4 E q0 (q1 0) ++ (cw_X9 E q1 S1 ++ (cw_X3 E q2 S2))) sz) := by
  refine ct_metI (by decide) (Nat.le_of_ble_eq_true rfl) ?_
  intro p e s m ar below meth c A QM hx hb hml hown hg X hP hD hS RET ls hl
  have hown : s.vm.findClass RX4 = some m.cls := hown
  have hl : lv_has ls 5 [(0, .ref (q0 0)), (1, .ref (q2 0)), (2, .int x2)] := hl
  have RT : ∀ (v : Int32) (S1 : Gr) (S2 : Gr) (H : Heap) (locs : List Loc) (ls : Array Slot) (pc : Nat), some (v, S1, S2) = some Rv → narrow .boolean (.int v) = .int v → va_P E.1 vwCl (cw_X4 E q0 (q1 0) ++ (cw_X9 E q1 S1 ++ (cw_X3 E q2 S2))) H → va_D A (cw_X4 E q0 (q1 0) ++ (cw_X9 E q1 S1 ++ (cw_X3 E q2 S2))) → va_S A s.heap H locs → decode cX4_test pc = .ok (.ireturn, 1) → W p l e ({ frames := F + 10, cells := 0, slots := 0, locals := Lc + 300 } : Room) s m ar below meth c H locs 0 0 QM (F0 m pc ls [.int v]) := by
    intro v S1 S2 H locs ls pc e hn hP hD hS d
    obtain rfl := sm_e e
    exact RET H locs pc ls hn hP hD hS d
  clear RET
  have N20 : ∀ (S1 : Gr) (S2 : Gr) (x3 : Int32) (H : Heap) (locs : List Loc) (ls : Array Slot), f_X4_test_n20 g_X4_condition g_X4_test g_X4_sum g_X4_term g_X4_factor x2 S1 S2 x3 = some Rv → va_P E.1 vwCl (cw_X4 E q0 (q1 0) ++ (cw_X9 E q1 S1 ++ (cw_X3 E q2 S2))) H → va_D A (cw_X4 E q0 (q1 0) ++ (cw_X9 E q1 S1 ++ (cw_X3 E q2 S2))) → va_S A s.heap H locs → lv_has ls 5 [(0, .ref (q0 0)), (1, .ref (q2 0)), (2, .int x2), (3, .int x3)] → W p l e ({ frames := F + 10, cells := 0, slots := 0, locals := Lc + 300 } : Room) s m ar below meth c H locs 0 0 QM (F0 m 20 ls []) := by
    intro S1 S2 x3 H locs ls h hP hD hS hl
    refine lv_iload_n hx hb dX4_test_20 rfl (lv_at hl 2 rfl) ?_
    refine lv_bipush (v := 6) hx hb dX4_test_21 (by decide) ?_
    refine lv_icmp_lt (tgt := 35) hx hb dX4_test_23 (by decide) (fun c15 => ?_) (fun c15 => ?_)
    · have h := it_t h c15
      refine lv_aload_n hx hb dX4_test_35 rfl (lv_at hl 0 rfl) ?_
      refine va_get (D := E.1) (ci := 3) (v := .ref (q1 0)) (C := RX4) (T := TX4) (N := 1) hx hb hg in_X4 hown X.1 hP 0 rfl rfl 0 (by decide) (hg _ wf_X4_12) (fun _ h9 => h9) rfl dX4_test_36 ?_
      obtain ⟨u16, hc, h⟩ := bd_el h
      have hC : ([1, 2] : List Nat).map (fun i => (cw_X4 E q0 (q1 0) ++ (cw_X9 E q1 S1 ++ (cw_X3 E q2 S2)))[i]?) = (cw_X9 E q1 S1).map some := rfl
      refine ct_v (ws' := cw_X4 E q0 (q1 0) ++ (cw_X9 E q1 u16 ++ (cw_X3 E q2 S2))) X hP hD hS [1, 2] (va_runV (C := RX9) (As := []) (rest := []) ⟨hx, hb, hml, hown, hg⟩ (c_X9_step l E q1 H.size S1 u16 hc) (cwV 0 hg (gwV wm_X4_53 wi_X9_step wsl_X9_step wini_X9 wco_X9_step) rfl rfl rfl (by decide +kernel) ⟨by dsimp only; omega, by dsimp only; omega⟩) ⟨ct_blind, ct_rv X.1 hP 1 rfl rfl, ct_pre X hP hD hS [1, 2] (by decide) hC _⟩ rfl rfl hl.1 rfl (lv_room (Nat.le_of_ble_eq_true rfl)) dX4_test_39 ⟨Nat.zero_le _, Nat.zero_le _⟩) hC rfl rfl (fun H locs hP hD hS => ?_)
      clear hC
      refine lv_iload_n hx hb dX4_test_42 rfl (lv_at hl 3 rfl) ?_
      refine lv_bipush (v := 40) hx hb dX4_test_43 (by decide) ?_
      refine lv_icmp_ne (tgt := 79) hx hb dX4_test_45 (by decide) (fun c17 => ?_) (fun c17 => ?_)
      · have h := it_f h c17
        refine lv_aload_n hx hb dX4_test_79 rfl (lv_at hl 0 rfl) ?_
        refine lv_aload_n hx hb dX4_test_80 rfl (lv_at hl 1 rfl) ?_
        refine lv_iload_n hx hb dX4_test_81 rfl (lv_at hl 2 rfl) ?_
        refine lv_iconst (v := 1) hx hb dX4_test_82 (by decide) ?_
        refine lv_iadd hx hb dX4_test_83 ?_
        obtain ⟨u18, hc, h⟩ := bd_el h
        refine ct_iA (w1 := cw_X4 E q0 (q1 0) ++ (cw_X9 E q1 u18.2.1 ++ (cw_X3 E q2 u18.2.2))) X hP hD hS (va_runV (C := RX4) (As := [.ref (q2 0), .int (x2 + 1)]) (rest := []) ⟨hx, hb, hml, hown, hg⟩ (hg_X4_test q0 q1 q2 H.size u16 S2 (x2 + 1) u18 hc) (cwV 2 hg (gwV wm_X4_74 wi_X4_test wsl_X4_test wini_X4 wco_X4_test) rfl rfl rfl (by decide +kernel) ⟨by dsimp only; omega, by dsimp only; omega⟩) ⟨ct_blind, ct_rv X.1 hP 0 rfl rfl, ct_preA X hP hD hS _⟩ rfl rfl hl.1 rfl (lv_room (Nat.le_of_ble_eq_true rfl)) dX4_test_84 ⟨Nat.zero_le _, Nat.zero_le _⟩) (fun H locs hP hD hS => ?_)
        refine lv_if_ne (tgt := 92) hx hb dX4_test_87 (by decide) (fun c19 => ?_) (fun c19 => ?_)
        · have h := it_f h c19
          refine lv_aload_n hx hb dX4_test_92 rfl (lv_at hl 1 rfl) ?_
          refine lv_bipush (v := 33) hx hb dX4_test_93 (by decide) ?_
          obtain ⟨u20, hc, h⟩ := bd_el h
          have hC : ([3, 4, 5, 6, 7, 8, 9, 10] : List Nat).map (fun i => (cw_X4 E q0 (q1 0) ++ (cw_X9 E q1 u18.2.1 ++ (cw_X3 E q2 u18.2.2)))[i]?) = (cw_X3 E q2 u18.2.2).map some := rfl
          refine ct_v (ws' := cw_X4 E q0 (q1 0) ++ (cw_X9 E q1 u18.2.1 ++ (cw_X3 E q2 u20))) X hP hD hS [3, 4, 5, 6, 7, 8, 9, 10] (va_runV (C := RX3) (As := [.int 33]) (rest := []) ⟨hx, hb, hml, hown, hg⟩ (c_X3_writeSign l E q2 H.size u18.2.2 33 u20 hc) (cwV 1 hg (gwV wm_X4_80 wi_X3_writeSign wsl_X3_writeSign wini_X3 wco_X3_writeSign) rfl rfl rfl (by decide +kernel) ⟨by dsimp only; omega, by dsimp only; omega⟩) ⟨ct_blind, ct_rv X.1 hP 3 rfl rfl, ct_pre X hP hD hS [3, 4, 5, 6, 7, 8, 9, 10] (by decide) hC _⟩ rfl rfl hl.1 rfl (lv_room (Nat.le_of_ble_eq_true rfl)) dX4_test_95 ⟨Nat.zero_le _, Nat.zero_le _⟩) hC rfl rfl (fun H locs hP hD hS => ?_)
          clear hC
          refine lv_iconst (v := 1) hx hb dX4_test_98 (by decide) ?_
          exact RT 1 u18.2.1 u20 _ _ _ _ h (by decide +kernel) hP hD hS dX4_test_99
        · have h := it_t h c19
          refine lv_iconst (v := 0) hx hb dX4_test_90 (by decide) ?_
          exact RT 0 u18.2.1 u18.2.2 _ _ _ _ h (by decide +kernel) hP hD hS dX4_test_91
      · have h := it_t h c17
        refine lv_aload_n hx hb dX4_test_48 rfl (lv_at hl 0 rfl) ?_
        refine lv_aload_n hx hb dX4_test_49 rfl (lv_at hl 1 rfl) ?_
        refine lv_iload_n hx hb dX4_test_50 rfl (lv_at hl 2 rfl) ?_
        refine lv_iconst (v := 1) hx hb dX4_test_51 (by decide) ?_
        refine lv_iadd hx hb dX4_test_52 ?_
        refine lv_bipush (v := 124) hx hb dX4_test_53 (by decide) ?_
        obtain ⟨u21, hc, h⟩ := bd_el h
        refine ct_iA (w1 := cw_X4 E q0 (q1 0) ++ (cw_X9 E q1 u21.2.1 ++ (cw_X3 E q2 u21.2.2))) X hP hD hS (va_runV (C := RX4) (As := [.ref (q2 0), .int (x2 + 1), .int 124]) (rest := []) ⟨hx, hb, hml, hown, hg⟩ (hg_X4_condition q0 q1 q2 H.size u16 S2 (x2 + 1) 124 u21 hc) (cwV 3 hg (gwV wm_X4_67 wi_X4_condition wsl_X4_condition wini_X4 wco_X4_condition) rfl rfl rfl (by decide +kernel) ⟨by dsimp only; omega, by dsimp only; omega⟩) ⟨ct_blind, ct_rv X.1 hP 0 rfl rfl, ct_preA X hP hD hS _⟩ rfl rfl hl.1 rfl (lv_room (Nat.le_of_ble_eq_true rfl)) dX4_test_55 ⟨Nat.zero_le _, Nat.zero_le _⟩) (fun H locs hP hD hS => ?_)
        refine lv_if_eq (tgt := 77) hx hb dX4_test_58 (by decide) (fun c22 => ?_) (fun c22 => ?_)
        · have h := it_t h c22
          refine lv_iconst (v := 0) hx hb dX4_test_77 (by decide) ?_
          exact RT 0 u21.2.1 u21.2.2 _ _ _ _ h (by decide +kernel) hP hD hS dX4_test_78
        · have h := it_f h c22
          refine lv_aload_n hx hb dX4_test_61 rfl (lv_at hl 0 rfl) ?_
          refine va_get (D := E.1) (ci := 3) (v := .ref (q1 0)) (C := RX4) (T := TX4) (N := 1) hx hb hg in_X4 hown X.1 hP 0 rfl rfl 0 (by decide) (hg _ wf_X4_12) (fun _ h9 => h9) rfl dX4_test_62 ?_
          refine lv_bipush (v := 41) hx hb dX4_test_65 (by decide) ?_
          obtain ⟨u23, hc, h⟩ := bd_el h
          have hC : ([1, 2] : List Nat).map (fun i => (cw_X4 E q0 (q1 0) ++ (cw_X9 E q1 u21.2.1 ++ (cw_X3 E q2 u21.2.2)))[i]?) = (cw_X9 E q1 u21.2.1).map some := rfl
          refine ct_i (ws' := cw_X4 E q0 (q1 0) ++ (cw_X9 E q1 u23.2 ++ (cw_X3 E q2 u21.2.2))) X hP hD hS [1, 2] (va_runV (C := RX9) (As := [.int 41]) (rest := []) ⟨hx, hb, hml, hown, hg⟩ (c_X9_stepOver l E q1 H.size u21.2.1 41 u23 hc) (cwV 1 hg (gwV wm_X4_42 wi_X9_stepOver wsl_X9_stepOver wini_X9 wco_X9_stepOver) rfl rfl rfl (by decide +kernel) ⟨by dsimp only; omega, by dsimp only; omega⟩) ⟨ct_blind, ct_rv X.1 hP 1 rfl rfl, ct_pre X hP hD hS [1, 2] (by decide) hC _⟩ rfl rfl hl.1 rfl (lv_room (Nat.le_of_ble_eq_true rfl)) dX4_test_67 ⟨Nat.zero_le _, Nat.zero_le _⟩) hC rfl rfl (fun H locs hP hD hS => ?_)
          clear hC
          refine lv_if_eq (tgt := 77) hx hb dX4_test_70 (by decide) (fun c24 => ?_) (fun c24 => ?_)
          · have h := it_t h c24
            refine lv_iconst (v := 0) hx hb dX4_test_77 (by decide) ?_
            exact RT 0 u23.2 u21.2.2 _ _ _ _ h (by decide +kernel) hP hD hS dX4_test_78
          · have h := it_f h c24
            refine lv_iconst (v := 1) hx hb dX4_test_73 (by decide) ?_
            refine lv_goto (tgt := 78) hx hb dX4_test_74 (by decide) ?_
            exact RT 1 u23.2 u21.2.2 _ _ _ _ h (by decide +kernel) hP hD hS dX4_test_78
    · have h := it_f h c15
      refine lv_aload_n hx hb dX4_test_26 rfl (lv_at hl 0 rfl) ?_
      refine va_get (D := E.1) (ci := 3) (v := .ref (q1 0)) (C := RX4) (T := TX4) (N := 1) hx hb hg in_X4 hown X.1 hP 0 rfl rfl 0 (by decide) (hg _ wf_X4_12) (fun _ h9 => h9) rfl dX4_test_27 ?_
      refine lv_iconst (v := 5) hx hb dX4_test_30 (by decide) ?_
      obtain ⟨u25, hc, h⟩ := bd_el h
      have hC : ([1, 2] : List Nat).map (fun i => (cw_X4 E q0 (q1 0) ++ (cw_X9 E q1 S1 ++ (cw_X3 E q2 S2)))[i]?) = (cw_X9 E q1 S1).map some := rfl
      refine ct_i (ws' := cw_X4 E q0 (q1 0) ++ (cw_X9 E q1 u25.2 ++ (cw_X3 E q2 S2))) X hP hD hS [1, 2] (va_runV (C := RX9) (As := [.int 5]) (rest := []) ⟨hx, hb, hml, hown, hg⟩ (c_X9_fail l E q1 H.size S1 5 u25 hc) (cwV 1 hg (gwV wm_X4_46 wi_X9_fail wsl_X9_fail wini_X9 wco_X9_fail) rfl rfl rfl (by decide +kernel) ⟨by dsimp only; omega, by dsimp only; omega⟩) ⟨ct_blind, ct_rv X.1 hP 1 rfl rfl, ct_pre X hP hD hS [1, 2] (by decide) hC _⟩ rfl rfl hl.1 rfl (lv_room (Nat.le_of_ble_eq_true rfl)) dX4_test_31 ⟨Nat.zero_le _, Nat.zero_le _⟩) hC rfl rfl (fun H locs hP hD hS => ?_)
      clear hC
      obtain ⟨hn1, -, h⟩ := zb_el h
      exact RT u25.1 u25.2 S2 _ _ _ _ h hn1 hP hD hS dX4_test_34
  have N150 : ∀ (S1 : Gr) (S2 : Gr) (x4 : Int32) (H : Heap) (locs : List Loc) (ls : Array Slot), f_X4_test_n150 g_X4_condition g_X4_test g_X4_sum g_X4_term g_X4_factor x2 S1 S2 x4 = some Rv → va_P E.1 vwCl (cw_X4 E q0 (q1 0) ++ (cw_X9 E q1 S1 ++ (cw_X3 E q2 S2))) H → va_D A (cw_X4 E q0 (q1 0) ++ (cw_X9 E q1 S1 ++ (cw_X3 E q2 S2))) → va_S A s.heap H locs → lv_has ls 5 [(0, .ref (q0 0)), (1, .ref (q2 0)), (2, .int x2), (4, .int x4)] → W p l e ({ frames := F + 10, cells := 0, slots := 0, locals := Lc + 300 } : Room) s m ar below meth c H locs 0 0 QM (F0 m 150 ls []) := by
    intro S1 S2 x4 H locs ls h hP hD hS hl
    refine lv_aload_n hx hb dX4_test_150 rfl (lv_at hl 0 rfl) ?_
    refine va_get (D := E.1) (ci := 3) (v := .ref (q1 0)) (C := RX4) (T := TX4) (N := 1) hx hb hg in_X4 hown X.1 hP 0 rfl rfl 0 (by decide) (hg _ wf_X4_12) (fun _ h9 => h9) rfl dX4_test_151 ?_
    obtain ⟨u11, hc, h⟩ := bd_el h
    have hC : ([1, 2] : List Nat).map (fun i => (cw_X4 E q0 (q1 0) ++ (cw_X9 E q1 S1 ++ (cw_X3 E q2 S2)))[i]?) = (cw_X9 E q1 S1).map some := rfl
    refine ct_v (ws' := cw_X4 E q0 (q1 0) ++ (cw_X9 E q1 u11 ++ (cw_X3 E q2 S2))) X hP hD hS [1, 2] (va_runV (C := RX9) (As := []) (rest := []) ⟨hx, hb, hml, hown, hg⟩ (c_X9_step l E q1 H.size S1 u11 hc) (cwV 0 hg (gwV wm_X4_53 wi_X9_step wsl_X9_step wini_X9 wco_X9_step) rfl rfl rfl (by decide +kernel) ⟨by dsimp only; omega, by dsimp only; omega⟩) ⟨ct_blind, ct_rv X.1 hP 1 rfl rfl, ct_pre X hP hD hS [1, 2] (by decide) hC _⟩ rfl rfl hl.1 rfl (lv_room (Nat.le_of_ble_eq_true rfl)) dX4_test_154 ⟨Nat.zero_le _, Nat.zero_le _⟩) hC rfl rfl (fun H locs hP hD hS => ?_)
    clear hC
    refine lv_aload_n hx hb dX4_test_157 rfl (lv_at hl 0 rfl) ?_
    refine lv_aload_n hx hb dX4_test_158 rfl (lv_at hl 1 rfl) ?_
    refine lv_iload_n hx hb dX4_test_159 rfl (lv_at hl 2 rfl) ?_
    obtain ⟨u12, hc, h⟩ := bd_el h
    refine ct_iA (w1 := cw_X4 E q0 (q1 0) ++ (cw_X9 E q1 u12.2.1 ++ (cw_X3 E q2 u12.2.2))) X hP hD hS (va_runV (C := RX4) (As := [.ref (q2 0), .int x2]) (rest := []) ⟨hx, hb, hml, hown, hg⟩ (hg_X4_sum q0 q1 q2 H.size u11 S2 x2 u12 hc) (cwV 2 hg (gwV wm_X4_60 wi_X4_sum wsl_X4_sum wini_X4 wco_X4_sum) rfl rfl rfl (by decide +kernel) ⟨by dsimp only; omega, by dsimp only; omega⟩) ⟨ct_blind, ct_rv X.1 hP 0 rfl rfl, ct_preA X hP hD hS _⟩ rfl rfl hl.1 rfl (lv_room (Nat.le_of_ble_eq_true rfl)) dX4_test_160 ⟨Nat.zero_le _, Nat.zero_le _⟩) (fun H locs hP hD hS => ?_)
    refine lv_if_ne (tgt := 168) hx hb dX4_test_163 (by decide) (fun c13 => ?_) (fun c13 => ?_)
    · have h := it_f h c13
      refine lv_aload_n hx hb dX4_test_168 rfl (lv_at hl 1 rfl) ?_
      refine lv_iload hx hb dX4_test_169 (lv_at hl 3 rfl) ?_
      obtain ⟨u14, hc, h⟩ := bd_el h
      have hC : ([3, 4, 5, 6, 7, 8, 9, 10] : List Nat).map (fun i => (cw_X4 E q0 (q1 0) ++ (cw_X9 E q1 u12.2.1 ++ (cw_X3 E q2 u12.2.2)))[i]?) = (cw_X3 E q2 u12.2.2).map some := rfl
      refine ct_v (ws' := cw_X4 E q0 (q1 0) ++ (cw_X9 E q1 u12.2.1 ++ (cw_X3 E q2 u14))) X hP hD hS [3, 4, 5, 6, 7, 8, 9, 10] (va_runV (C := RX3) (As := [.int x4]) (rest := []) ⟨hx, hb, hml, hown, hg⟩ (c_X3_writeSign l E q2 H.size u12.2.2 x4 u14 hc) (cwV 1 hg (gwV wm_X4_80 wi_X3_writeSign wsl_X3_writeSign wini_X3 wco_X3_writeSign) rfl rfl rfl (by decide +kernel) ⟨by dsimp only; omega, by dsimp only; omega⟩) ⟨ct_blind, ct_rv X.1 hP 3 rfl rfl, ct_pre X hP hD hS [3, 4, 5, 6, 7, 8, 9, 10] (by decide) hC _⟩ rfl rfl hl.1 rfl (lv_room (Nat.le_of_ble_eq_true rfl)) dX4_test_171 ⟨Nat.zero_le _, Nat.zero_le _⟩) hC rfl rfl (fun H locs hP hD hS => ?_)
      clear hC
      refine lv_iconst (v := 1) hx hb dX4_test_174 (by decide) ?_
      exact RT 1 u12.2.1 u14 _ _ _ _ h (by decide +kernel) hP hD hS dX4_test_175
    · have h := it_t h c13
      refine lv_iconst (v := 0) hx hb dX4_test_166 (by decide) ?_
      exact RT 0 u12.2.1 u12.2.2 _ _ _ _ h (by decide +kernel) hP hD hS dX4_test_167
  obtain ⟨H, eH⟩ : ∃ z, z = s.heap := ⟨_, rfl⟩
  rw [← eH]
  have hP : va_P E.1 vwCl (cw_X4 E q0 (q1 0) ++ (cw_X9 E q1 S1 ++ (cw_X3 E q2 S2))) H := by rw [eH]; exact hP
  have hS : va_S A s.heap H [] := by rw [eH]; exact hS
  clear eH
  obtain ⟨locs, el⟩ : ∃ z : List Loc, z = [] := ⟨_, rfl⟩
  rw [← el] at hS ⊢
  clear el
  refine lv_aload_n hx hb dX4_test_0 rfl (lv_at hl 0 rfl) ?_
  refine va_get (D := E.1) (ci := 3) (v := .ref (q1 0)) (C := RX4) (T := TX4) (N := 1) hx hb hg in_X4 hown X.1 hP 0 rfl rfl 0 (by decide) (hg _ wf_X4_12) (fun _ h9 => h9) rfl dX4_test_1 ?_
  obtain ⟨u1, hc, h⟩ := bd_el h
  have hC : ([1, 2] : List Nat).map (fun i => (cw_X4 E q0 (q1 0) ++ (cw_X9 E q1 S1 ++ (cw_X3 E q2 S2)))[i]?) = (cw_X9 E q1 S1).map some := rfl
  refine ct_iR X hP hD hS [1, 2] hC (va_runV (C := RX9) (As := []) (rest := []) ⟨hx, hb, hml, hown, hg⟩ (c_X9_peek l E q1 H.size S1 u1 hc) (cwV 0 hg (gwV wm_X4_35 wi_X9_peek wsl_X9_peek wini_X9 wco_X9_peek) rfl rfl rfl (by decide +kernel) ⟨by dsimp only; omega, by dsimp only; omega⟩) ⟨ct_blind, ct_rv X.1 hP 1 rfl rfl, ct_pre X hP hD hS [1, 2] (by decide) hC _⟩ rfl rfl hl.1 rfl (lv_room (Nat.le_of_ble_eq_true rfl)) dX4_test_4 ⟨Nat.zero_le _, Nat.zero_le _⟩) (fun H locs hP hD hS => ?_)
  clear hC
  refine lv_istore_n (lv' := [(3, .int u1), (0, .ref (q0 0)), (1, .ref (q2 0)), (2, .int x2)]) hx hb dX4_test_7 rfl hl (by decide) rfl (fun ls hl => ?_)
  refine lv_iload_n hx hb dX4_test_8 rfl (lv_at hl 0 rfl) ?_
  refine lv_bipush (v := 33) hx hb dX4_test_9 (by decide) ?_
  refine lv_icmp_eq (tgt := 20) hx hb dX4_test_11 (by decide) (fun c2 => ?_) (fun c2 => ?_)
  · have h := it_t h c2
    exact N20  S1 S2 u1 _ _ _ h hP hD hS (lv_sub hl [1, 2, 3, 0] rfl)
  · have h := it_f h c2
    refine lv_iload_n hx hb dX4_test_14 rfl (lv_at hl 0 rfl) ?_
    refine lv_bipush (v := 40) hx hb dX4_test_15 (by decide) ?_
    refine lv_icmp_ne (tgt := 100) hx hb dX4_test_17 (by decide) (fun c3 => ?_) (fun c3 => ?_)
    · have h := it_f h c3
      refine lv_aload_n hx hb dX4_test_100 rfl (lv_at hl 1 rfl) ?_
      refine lv_aload_n hx hb dX4_test_101 rfl (lv_at hl 2 rfl) ?_
      refine lv_iload_n hx hb dX4_test_102 rfl (lv_at hl 3 rfl) ?_
      obtain ⟨u4, hc, h⟩ := bd_el h
      refine ct_iA (w1 := cw_X4 E q0 (q1 0) ++ (cw_X9 E q1 u4.2.1 ++ (cw_X3 E q2 u4.2.2))) X hP hD hS (va_runV (C := RX4) (As := [.ref (q2 0), .int x2]) (rest := []) ⟨hx, hb, hml, hown, hg⟩ (hg_X4_sum q0 q1 q2 H.size S1 S2 x2 u4 hc) (cwV 2 hg (gwV wm_X4_60 wi_X4_sum wsl_X4_sum wini_X4 wco_X4_sum) rfl rfl rfl (by decide +kernel) ⟨by dsimp only; omega, by dsimp only; omega⟩) ⟨ct_blind, ct_rv X.1 hP 0 rfl rfl, ct_preA X hP hD hS _⟩ rfl rfl hl.1 rfl (lv_room (Nat.le_of_ble_eq_true rfl)) dX4_test_103 ⟨Nat.zero_le _, Nat.zero_le _⟩) (fun H locs hP hD hS => ?_)
      refine lv_if_ne (tgt := 111) hx hb dX4_test_106 (by decide) (fun c5 => ?_) (fun c5 => ?_)
      · have h := it_f h c5
        refine lv_aload_n hx hb dX4_test_111 rfl (lv_at hl 1 rfl) ?_
        refine va_get (D := E.1) (ci := 3) (v := .ref (q1 0)) (C := RX4) (T := TX4) (N := 1) hx hb hg in_X4 hown X.1 hP 0 rfl rfl 0 (by decide) (hg _ wf_X4_12) (fun _ h9 => h9) rfl dX4_test_112 ?_
        obtain ⟨u6, hc, h⟩ := bd_el h
        have hC : ([1, 2] : List Nat).map (fun i => (cw_X4 E q0 (q1 0) ++ (cw_X9 E q1 u4.2.1 ++ (cw_X3 E q2 u4.2.2)))[i]?) = (cw_X9 E q1 u4.2.1).map some := rfl
        refine ct_iR X hP hD hS [1, 2] hC (va_runV (C := RX9) (As := []) (rest := []) ⟨hx, hb, hml, hown, hg⟩ (c_X9_peek l E q1 H.size u4.2.1 u6 hc) (cwV 0 hg (gwV wm_X4_35 wi_X9_peek wsl_X9_peek wini_X9 wco_X9_peek) rfl rfl rfl (by decide +kernel) ⟨by dsimp only; omega, by dsimp only; omega⟩) ⟨ct_blind, ct_rv X.1 hP 1 rfl rfl, ct_pre X hP hD hS [1, 2] (by decide) hC _⟩ rfl rfl hl.1 rfl (lv_room (Nat.le_of_ble_eq_true rfl)) dX4_test_115 ⟨Nat.zero_le _, Nat.zero_le _⟩) (fun H locs hP hD hS => ?_)
        clear hC
        refine lv_istore (lv' := [(4, .int u6), (3, .int u1), (0, .ref (q0 0)), (1, .ref (q2 0)), (2, .int x2)]) hx hb dX4_test_118 hl (by decide) rfl (fun ls hl => ?_)
        refine lv_iload hx hb dX4_test_120 (lv_at hl 0 rfl) ?_
        refine lv_bipush (v := 60) hx hb dX4_test_122 (by decide) ?_
        refine lv_icmp_eq (tgt := 150) hx hb dX4_test_124 (by decide) (fun c7 => ?_) (fun c7 => ?_)
        · have h := it_t h c7
          exact N150  u4.2.1 u4.2.2 u6 _ _ _ h hP hD hS (lv_sub hl [2, 3, 4, 0] rfl)
        · have h := it_f h c7
          refine lv_iload hx hb dX4_test_127 (lv_at hl 0 rfl) ?_
          refine lv_bipush (v := 62) hx hb dX4_test_129 (by decide) ?_
          refine lv_icmp_eq (tgt := 150) hx hb dX4_test_131 (by decide) (fun c8 => ?_) (fun c8 => ?_)
          · have h := it_t h c8
            exact N150  u4.2.1 u4.2.2 u6 _ _ _ h hP hD hS (lv_sub hl [2, 3, 4, 0] rfl)
          · have h := it_f h c8
            refine lv_iload hx hb dX4_test_134 (lv_at hl 0 rfl) ?_
            refine lv_bipush (v := 61) hx hb dX4_test_136 (by decide) ?_
            refine lv_icmp_eq (tgt := 150) hx hb dX4_test_138 (by decide) (fun c9 => ?_) (fun c9 => ?_)
            · have h := it_t h c9
              exact N150  u4.2.1 u4.2.2 u6 _ _ _ h hP hD hS (lv_sub hl [2, 3, 4, 0] rfl)
            · have h := it_f h c9
              refine lv_aload_n hx hb dX4_test_141 rfl (lv_at hl 2 rfl) ?_
              refine va_get (D := E.1) (ci := 3) (v := .ref (q1 0)) (C := RX4) (T := TX4) (N := 1) hx hb hg in_X4 hown X.1 hP 0 rfl rfl 0 (by decide) (hg _ wf_X4_12) (fun _ h9 => h9) rfl dX4_test_142 ?_
              refine lv_iconst (v := 1) hx hb dX4_test_145 (by decide) ?_
              obtain ⟨u10, hc, h⟩ := bd_el h
              have hC : ([1, 2] : List Nat).map (fun i => (cw_X4 E q0 (q1 0) ++ (cw_X9 E q1 u4.2.1 ++ (cw_X3 E q2 u4.2.2)))[i]?) = (cw_X9 E q1 u4.2.1).map some := rfl
              refine ct_i (ws' := cw_X4 E q0 (q1 0) ++ (cw_X9 E q1 u10.2 ++ (cw_X3 E q2 u4.2.2))) X hP hD hS [1, 2] (va_runV (C := RX9) (As := [.int 1]) (rest := []) ⟨hx, hb, hml, hown, hg⟩ (c_X9_fail l E q1 H.size u4.2.1 1 u10 hc) (cwV 1 hg (gwV wm_X4_46 wi_X9_fail wsl_X9_fail wini_X9 wco_X9_fail) rfl rfl rfl (by decide +kernel) ⟨by dsimp only; omega, by dsimp only; omega⟩) ⟨ct_blind, ct_rv X.1 hP 1 rfl rfl, ct_pre X hP hD hS [1, 2] (by decide) hC _⟩ rfl rfl hl.1 rfl (lv_room (Nat.le_of_ble_eq_true rfl)) dX4_test_146 ⟨Nat.zero_le _, Nat.zero_le _⟩) hC rfl rfl (fun H locs hP hD hS => ?_)
              clear hC
              obtain ⟨hn1, -, h⟩ := zb_el h
              exact RT u10.1 u10.2 u4.2.2 _ _ _ _ h hn1 hP hD hS dX4_test_149
      · have h := it_t h c5
        refine lv_iconst (v := 0) hx hb dX4_test_109 (by decide) ?_
        exact RT 0 u4.2.1 u4.2.2 _ _ _ _ h (by decide +kernel) hP hD hS dX4_test_110
    · have h := it_t h c3
      exact N20  S1 S2 u1 _ _ _ h hP hD hS (lv_sub hl [1, 2, 3, 0] rfl)
theorem dX4_sum_0 : decode cX4_sum 0 = .ok (.aload_n 0, 1) := by decide +kernel
theorem dX4_sum_1 : decode cX4_sum 1 = .ok (.aload_n 1, 1) := by decide +kernel
theorem dX4_sum_2 : decode cX4_sum 2 = .ok (.iload_n 2, 1) := by decide +kernel
theorem dX4_sum_3 : decode cX4_sum 3 = .ok (.invokevirtual 86, 3) := by decide +kernel
theorem dX4_sum_6 : decode cX4_sum 6 = .ok (.ifCond .ne 5, 3) := by decide +kernel
theorem dX4_sum_9 : decode cX4_sum 9 = .ok (.iconst 0, 1) := by decide +kernel
theorem dX4_sum_10 : decode cX4_sum 10 = .ok (.ireturn, 1) := by decide +kernel
theorem dX4_sum_11 : decode cX4_sum 11 = .ok (.iconst 0, 1) := by decide +kernel
theorem dX4_sum_12 : decode cX4_sum 12 = .ok (.istore_n 3, 1) := by decide +kernel
theorem dX4_sum_13 : decode cX4_sum 13 = .ok (.iload_n 3, 1) := by decide +kernel
theorem dX4_sum_14 : decode cX4_sum 14 = .ok (.sipush 240, 3) := by decide +kernel
theorem dX4_sum_17 : decode cX4_sum 17 = .ok (.if_icmp .gt 58, 3) := by decide +kernel
theorem dX4_sum_20 : decode cX4_sum 20 = .ok (.aload_n 0, 1) := by decide +kernel
theorem dX4_sum_21 : decode cX4_sum 21 = .ok (.getfield 12, 3) := by decide +kernel
theorem dX4_sum_24 : decode cX4_sum 24 = .ok (.invokevirtual 35, 3) := by decide +kernel
theorem dX4_sum_27 : decode cX4_sum 27 = .ok (.istore 4, 2) := by decide +kernel
theorem dX4_sum_29 : decode cX4_sum 29 = .ok (.iload 4, 2) := by decide +kernel
theorem dX4_sum_31 : decode cX4_sum 31 = .ok (.bipush 43, 2) := by decide +kernel
theorem dX4_sum_33 : decode cX4_sum 33 = .ok (.if_icmp .eq 12, 3) := by decide +kernel
theorem dX4_sum_36 : decode cX4_sum 36 = .ok (.iload 4, 2) := by decide +kernel
theorem dX4_sum_38 : decode cX4_sum 38 = .ok (.bipush 45, 2) := by decide +kernel
theorem dX4_sum_40 : decode cX4_sum 40 = .ok (.if_icmp .eq 5, 3) := by decide +kernel
theorem dX4_sum_43 : decode cX4_sum 43 = .ok (.iconst 1, 1) := by decide +kernel
theorem dX4_sum_44 : decode cX4_sum 44 = .ok (.ireturn, 1) := by decide +kernel
theorem dX4_sum_45 : decode cX4_sum 45 = .ok (.aload_n 0, 1) := by decide +kernel
theorem dX4_sum_46 : decode cX4_sum 46 = .ok (.getfield 12, 3) := by decide +kernel
theorem dX4_sum_49 : decode cX4_sum 49 = .ok (.invokevirtual 53, 3) := by decide +kernel
theorem dX4_sum_52 : decode cX4_sum 52 = .ok (.aload_n 0, 1) := by decide +kernel
theorem dX4_sum_53 : decode cX4_sum 53 = .ok (.aload_n 1, 1) := by decide +kernel
theorem dX4_sum_54 : decode cX4_sum 54 = .ok (.iload_n 2, 1) := by decide +kernel
theorem dX4_sum_55 : decode cX4_sum 55 = .ok (.invokevirtual 86, 3) := by decide +kernel
theorem dX4_sum_58 : decode cX4_sum 58 = .ok (.ifCond .ne 5, 3) := by decide +kernel
theorem dX4_sum_61 : decode cX4_sum 61 = .ok (.iconst 0, 1) := by decide +kernel
theorem dX4_sum_62 : decode cX4_sum 62 = .ok (.ireturn, 1) := by decide +kernel
theorem dX4_sum_63 : decode cX4_sum 63 = .ok (.aload_n 1, 1) := by decide +kernel
theorem dX4_sum_64 : decode cX4_sum 64 = .ok (.iload 4, 2) := by decide +kernel
theorem dX4_sum_66 : decode cX4_sum 66 = .ok (.invokevirtual 80, 3) := by decide +kernel
theorem dX4_sum_69 : decode cX4_sum 69 = .ok (.iinc 3 1, 3) := by decide +kernel
theorem dX4_sum_72 : decode cX4_sum 72 = .ok (.goto (-59), 3) := by decide +kernel
theorem dX4_sum_75 : decode cX4_sum 75 = .ok (.aload_n 0, 1) := by decide +kernel
theorem dX4_sum_76 : decode cX4_sum 76 = .ok (.getfield 12, 3) := by decide +kernel
theorem dX4_sum_79 : decode cX4_sum 79 = .ok (.iconst 1, 1) := by decide +kernel
theorem dX4_sum_80 : decode cX4_sum 80 = .ok (.invokevirtual 46, 3) := by decide +kernel
theorem dX4_sum_83 : decode cX4_sum 83 = .ok (.ireturn, 1) := by decide +kernel
def f_X4_sum_n45 (g_X4_condition : Gr → Gr → Int32 → Int32 → Option (Int32 × Gr × Gr)) (g_X4_test : Gr → Gr → Int32 → Option (Int32 × Gr × Gr)) (g_X4_sum : Gr → Gr → Int32 → Option (Int32 × Gr × Gr)) (g_X4_term : Gr → Gr → Int32 → Option (Int32 × Gr × Gr)) (g_X4_factor : Gr → Gr → Int32 → Option (Int32 × Gr × Gr)) (x2 : Int32) (k13 : Gr → Gr → Int32 → Option (Int32 × Gr × Gr)) (S1 : Gr) (S2 : Gr) (x3 : Int32) (x4 : Int32) : Option (Int32 × Gr × Gr) := (f_X9_step S1).bind fun u8 => (g_X4_term u8 S2 x2).bind fun u9 => if u9.1 = 0 then (some (0, u9.2.1, u9.2.2)) else ((f_X3_writeSign u9.2.2 x4).bind fun u11 => lt' (x3 + 1) fun v12 => k13 u9.2.1 u11 v12)
def f_X4_sum_n13 (g_X4_condition : Gr → Gr → Int32 → Int32 → Option (Int32 × Gr × Gr)) (g_X4_test : Gr → Gr → Int32 → Option (Int32 × Gr × Gr)) (g_X4_sum : Gr → Gr → Int32 → Option (Int32 × Gr × Gr)) (g_X4_term : Gr → Gr → Int32 → Option (Int32 × Gr × Gr)) (g_X4_factor : Gr → Gr → Int32 → Option (Int32 × Gr × Gr)) (x2 : Int32) : Nat → Gr → Gr → Int32 → Option (Int32 × Gr × Gr)
  | 0, _, _, _ => none
  | n + 1, S1, S2, x3 => if 240 < x3 then ((f_X9_fail S1 1).bind fun u4 => zb' u4.1 (some (u4.1, u4.2, S2))) else ((f_X9_peek S1).bind fun u5 => if u5 = 43 then (f_X4_sum_n45 g_X4_condition g_X4_test g_X4_sum g_X4_term g_X4_factor x2 (f_X4_sum_n13 g_X4_condition g_X4_test g_X4_sum g_X4_term g_X4_factor x2 n) S1 S2 x3 u5) else (if u5 = 45 then (f_X4_sum_n45 g_X4_condition g_X4_test g_X4_sum g_X4_term g_X4_factor x2 (f_X4_sum_n13 g_X4_condition g_X4_test g_X4_sum g_X4_term g_X4_factor x2 n) S1 S2 x3 u5) else (some (1, S1, S2))))
def fo_X4_sum (g_X4_condition : Gr → Gr → Int32 → Int32 → Option (Int32 × Gr × Gr)) (g_X4_test : Gr → Gr → Int32 → Option (Int32 × Gr × Gr)) (g_X4_sum : Gr → Gr → Int32 → Option (Int32 × Gr × Gr)) (g_X4_term : Gr → Gr → Int32 → Option (Int32 × Gr × Gr)) (g_X4_factor : Gr → Gr → Int32 → Option (Int32 × Gr × Gr)) (S1 : Gr) (S2 : Gr) (x2 : Int32) : Option (Int32 × Gr × Gr) := (g_X4_term S1 S2 x2).bind fun u1 => if u1.1 = 0 then (some (0, u1.2.1, u1.2.2)) else (f_X4_sum_n13 g_X4_condition g_X4_test g_X4_sum g_X4_term g_X4_factor x2 fu u1.2.1 u1.2.2 0)
set_option maxHeartbeats 4000000 in
set_option maxRecDepth 100000 in
theorem co_X4_sum (l : Launch) (E : Ec) (F Lc : Nat) (g_X4_condition : Gr → Gr → Int32 → Int32 → Option (Int32 × Gr × Gr)) (g_X4_test : Gr → Gr → Int32 → Option (Int32 × Gr × Gr)) (g_X4_sum : Gr → Gr → Int32 → Option (Int32 × Gr × Gr)) (g_X4_term : Gr → Gr → Int32 → Option (Int32 × Gr × Gr)) (g_X4_factor : Gr → Gr → Int32 → Option (Int32 × Gr × Gr)) (hg_X4_condition : ∀ (q0 q1 q2 : Nat → Nat) (sz : Nat) (S1 : Gr) (S2 : Gr) (x2 : Int32) (x3 : Int32) (Rv : Int32 × Gr × Gr), g_X4_condition S1 S2 x2 x3 = some Rv → Met l yX4_condition (wsM (.code yX4_condition cX4_condition 7 (some .boolean))) ({ frames := F, cells := 0, slots := 0, locals := Lc } : Room) (va_Pc [.ref (q0 0), .ref (q2 0), .int x2, .int x3] (ctP E (cw_X4 E q0 (q1 0) ++ (cw_X9 E q1 S1 ++ (cw_X3 E q2 S2))) sz)) (ctI E (cw_X4 E q0 (q1 0) ++ (cw_X9 E q1 S1 ++ (cw_X3 E q2 S2))) (cw_X4 E q0 (q1 0) ++ (cw_X9 E q1 Rv.2.1 ++ (cw_X3 E q2 Rv.2.2))) sz Rv.1) 0 0 (va_A (cw_X4 E q0 (q1 0) ++ (cw_X9 E q1 S1 ++ (cw_X3 E q2 S2))) sz)) (hg_X4_test : ∀ (q0 q1 q2 : Nat → Nat) (sz : Nat) (S1 : Gr) (S2 : Gr) (x2 : Int32) (Rv : Int32 × Gr × Gr), g_X4_test S1 S2 x2 = some Rv → Met l yX4_test (wsM (.code yX4_test cX4_test 5 (some .boolean))) ({ frames := F, cells := 0, slots := 0, locals := Lc } : Room) (va_Pc [.ref (q0 0), .ref (q2 0), .int x2] (ctP E (cw_X4 E q0 (q1 0) ++ (cw_X9 E q1 S1 ++ (cw_X3 E q2 S2))) sz)) (ctI E (cw_X4 E q0 (q1 0) ++ (cw_X9 E q1 S1 ++ (cw_X3 E q2 S2))) (cw_X4 E q0 (q1 0) ++ (cw_X9 E q1 Rv.2.1 ++ (cw_X3 E q2 Rv.2.2))) sz Rv.1) 0 0 (va_A (cw_X4 E q0 (q1 0) ++ (cw_X9 E q1 S1 ++ (cw_X3 E q2 S2))) sz)) (hg_X4_sum : ∀ (q0 q1 q2 : Nat → Nat) (sz : Nat) (S1 : Gr) (S2 : Gr) (x2 : Int32) (Rv : Int32 × Gr × Gr), g_X4_sum S1 S2 x2 = some Rv → Met l yX4_sum (wsM (.code yX4_sum cX4_sum 5 (some .boolean))) ({ frames := F, cells := 0, slots := 0, locals := Lc } : Room) (va_Pc [.ref (q0 0), .ref (q2 0), .int x2] (ctP E (cw_X4 E q0 (q1 0) ++ (cw_X9 E q1 S1 ++ (cw_X3 E q2 S2))) sz)) (ctI E (cw_X4 E q0 (q1 0) ++ (cw_X9 E q1 S1 ++ (cw_X3 E q2 S2))) (cw_X4 E q0 (q1 0) ++ (cw_X9 E q1 Rv.2.1 ++ (cw_X3 E q2 Rv.2.2))) sz Rv.1) 0 0 (va_A (cw_X4 E q0 (q1 0) ++ (cw_X9 E q1 S1 ++ (cw_X3 E q2 S2))) sz)) (hg_X4_term : ∀ (q0 q1 q2 : Nat → Nat) (sz : Nat) (S1 : Gr) (S2 : Gr) (x2 : Int32) (Rv : Int32 × Gr × Gr), g_X4_term S1 S2 x2 = some Rv → Met l yX4_term (wsM (.code yX4_term cX4_term 5 (some .boolean))) ({ frames := F, cells := 0, slots := 0, locals := Lc } : Room) (va_Pc [.ref (q0 0), .ref (q2 0), .int x2] (ctP E (cw_X4 E q0 (q1 0) ++ (cw_X9 E q1 S1 ++ (cw_X3 E q2 S2))) sz)) (ctI E (cw_X4 E q0 (q1 0) ++ (cw_X9 E q1 S1 ++ (cw_X3 E q2 S2))) (cw_X4 E q0 (q1 0) ++ (cw_X9 E q1 Rv.2.1 ++ (cw_X3 E q2 Rv.2.2))) sz Rv.1) 0 0 (va_A (cw_X4 E q0 (q1 0) ++ (cw_X9 E q1 S1 ++ (cw_X3 E q2 S2))) sz)) (hg_X4_factor : ∀ (q0 q1 q2 : Nat → Nat) (sz : Nat) (S1 : Gr) (S2 : Gr) (x2 : Int32) (Rv : Int32 × Gr × Gr), g_X4_factor S1 S2 x2 = some Rv → Met l yX4_factor (wsM (.code yX4_factor cX4_factor 4 (some .boolean))) ({ frames := F, cells := 0, slots := 0, locals := Lc } : Room) (va_Pc [.ref (q0 0), .ref (q2 0), .int x2] (ctP E (cw_X4 E q0 (q1 0) ++ (cw_X9 E q1 S1 ++ (cw_X3 E q2 S2))) sz)) (ctI E (cw_X4 E q0 (q1 0) ++ (cw_X9 E q1 S1 ++ (cw_X3 E q2 S2))) (cw_X4 E q0 (q1 0) ++ (cw_X9 E q1 Rv.2.1 ++ (cw_X3 E q2 Rv.2.2))) sz Rv.1) 0 0 (va_A (cw_X4 E q0 (q1 0) ++ (cw_X9 E q1 S1 ++ (cw_X3 E q2 S2))) sz)) (q0 q1 q2 : Nat → Nat) (sz : Nat) (S1 : Gr) (S2 : Gr) (x2 : Int32) (Rv : Int32 × Gr × Gr) (h : fo_X4_sum g_X4_condition g_X4_test g_X4_sum g_X4_term g_X4_factor S1 S2 x2 = some Rv) : Met l yX4_sum (wsM (.code yX4_sum cX4_sum 5 (some .boolean))) ({ frames := F + 10, cells := 0, slots := 0, locals := Lc + 300 } : Room) (va_Pc [.ref (q0 0), .ref (q2 0), .int x2] (ctP E (cw_X4 E q0 (q1 0) ++ (cw_X9 E q1 S1 ++ (cw_X3 E q2 S2))) sz)) (ctI E (cw_X4 E q0 (q1 0) ++ (cw_X9 E q1 S1 ++ (cw_X3 E q2 S2))) (cw_X4 E q0 (q1 0) ++ (cw_X9 E q1 Rv.2.1 ++ (cw_X3 E q2 Rv.2.2))) sz Rv.1) 0 0 (va_A (cw_X4 E q0 (q1 0) ++ (cw_X9 E q1 S1 ++ (cw_X3 E q2 S2))) sz) := by
  refine ct_metI (by decide) (Nat.le_of_ble_eq_true rfl) ?_
  intro p e s m ar below meth c A QM hx hb hml hown hg X hP hD hS RET ls hl
  have hown : s.vm.findClass RX4 = some m.cls := hown
  have hl : lv_has ls 5 [(0, .ref (q0 0)), (1, .ref (q2 0)), (2, .int x2)] := hl
  have RT : ∀ (v : Int32) (S1 : Gr) (S2 : Gr) (H : Heap) (locs : List Loc) (ls : Array Slot) (pc : Nat), some (v, S1, S2) = some Rv → narrow .boolean (.int v) = .int v → va_P E.1 vwCl (cw_X4 E q0 (q1 0) ++ (cw_X9 E q1 S1 ++ (cw_X3 E q2 S2))) H → va_D A (cw_X4 E q0 (q1 0) ++ (cw_X9 E q1 S1 ++ (cw_X3 E q2 S2))) → va_S A s.heap H locs → decode cX4_sum pc = .ok (.ireturn, 1) → W p l e ({ frames := F + 10, cells := 0, slots := 0, locals := Lc + 300 } : Room) s m ar below meth c H locs 0 0 QM (F0 m pc ls [.int v]) := by
    intro v S1 S2 H locs ls pc e hn hP hD hS d
    obtain rfl := sm_e e
    exact RET H locs pc ls hn hP hD hS d
  clear RET
  have N45 : ∀ (k13 : Gr → Gr → Int32 → Option (Int32 × Gr × Gr)) (hk13 : ∀ (S1 : Gr) (S2 : Gr) (x3 : Int32) (H : Heap) (locs : List Loc) (ls : Array Slot), k13 S1 S2 x3 = some Rv → va_P E.1 vwCl (cw_X4 E q0 (q1 0) ++ (cw_X9 E q1 S1 ++ (cw_X3 E q2 S2))) H → va_D A (cw_X4 E q0 (q1 0) ++ (cw_X9 E q1 S1 ++ (cw_X3 E q2 S2))) → va_S A s.heap H locs → lv_has ls 5 [(0, .ref (q0 0)), (1, .ref (q2 0)), (2, .int x2), (3, .int x3)] → W p l e ({ frames := F + 10, cells := 0, slots := 0, locals := Lc + 300 } : Room) s m ar below meth c H locs 0 0 QM (F0 m 13 ls [])) (S1 : Gr) (S2 : Gr) (x3 : Int32) (x4 : Int32) (H : Heap) (locs : List Loc) (ls : Array Slot), f_X4_sum_n45 g_X4_condition g_X4_test g_X4_sum g_X4_term g_X4_factor x2 k13 S1 S2 x3 x4 = some Rv → va_P E.1 vwCl (cw_X4 E q0 (q1 0) ++ (cw_X9 E q1 S1 ++ (cw_X3 E q2 S2))) H → va_D A (cw_X4 E q0 (q1 0) ++ (cw_X9 E q1 S1 ++ (cw_X3 E q2 S2))) → va_S A s.heap H locs → lv_has ls 5 [(0, .ref (q0 0)), (1, .ref (q2 0)), (2, .int x2), (3, .int x3), (4, .int x4)] → W p l e ({ frames := F + 10, cells := 0, slots := 0, locals := Lc + 300 } : Room) s m ar below meth c H locs 0 0 QM (F0 m 45 ls []) := by
    intro k13 hk13 S1 S2 x3 x4 H locs ls h hP hD hS hl
    refine lv_aload_n hx hb dX4_sum_45 rfl (lv_at hl 0 rfl) ?_
    refine va_get (D := E.1) (ci := 3) (v := .ref (q1 0)) (C := RX4) (T := TX4) (N := 1) hx hb hg in_X4 hown X.1 hP 0 rfl rfl 0 (by decide) (hg _ wf_X4_12) (fun _ h9 => h9) rfl dX4_sum_46 ?_
    obtain ⟨u8, hc, h⟩ := bd_el h
    have hC : ([1, 2] : List Nat).map (fun i => (cw_X4 E q0 (q1 0) ++ (cw_X9 E q1 S1 ++ (cw_X3 E q2 S2)))[i]?) = (cw_X9 E q1 S1).map some := rfl
    refine ct_v (ws' := cw_X4 E q0 (q1 0) ++ (cw_X9 E q1 u8 ++ (cw_X3 E q2 S2))) X hP hD hS [1, 2] (va_runV (C := RX9) (As := []) (rest := []) ⟨hx, hb, hml, hown, hg⟩ (c_X9_step l E q1 H.size S1 u8 hc) (cwV 0 hg (gwV wm_X4_53 wi_X9_step wsl_X9_step wini_X9 wco_X9_step) rfl rfl rfl (by decide +kernel) ⟨by dsimp only; omega, by dsimp only; omega⟩) ⟨ct_blind, ct_rv X.1 hP 1 rfl rfl, ct_pre X hP hD hS [1, 2] (by decide) hC _⟩ rfl rfl hl.1 rfl (lv_room (Nat.le_of_ble_eq_true rfl)) dX4_sum_49 ⟨Nat.zero_le _, Nat.zero_le _⟩) hC rfl rfl (fun H locs hP hD hS => ?_)
    clear hC
    refine lv_aload_n hx hb dX4_sum_52 rfl (lv_at hl 0 rfl) ?_
    refine lv_aload_n hx hb dX4_sum_53 rfl (lv_at hl 1 rfl) ?_
    refine lv_iload_n hx hb dX4_sum_54 rfl (lv_at hl 2 rfl) ?_
    obtain ⟨u9, hc, h⟩ := bd_el h
    refine ct_iA (w1 := cw_X4 E q0 (q1 0) ++ (cw_X9 E q1 u9.2.1 ++ (cw_X3 E q2 u9.2.2))) X hP hD hS (va_runV (C := RX4) (As := [.ref (q2 0), .int x2]) (rest := []) ⟨hx, hb, hml, hown, hg⟩ (hg_X4_term q0 q1 q2 H.size u8 S2 x2 u9 hc) (cwV 2 hg (gwV wm_X4_86 wi_X4_term wsl_X4_term wini_X4 wco_X4_term) rfl rfl rfl (by decide +kernel) ⟨by dsimp only; omega, by dsimp only; omega⟩) ⟨ct_blind, ct_rv X.1 hP 0 rfl rfl, ct_preA X hP hD hS _⟩ rfl rfl hl.1 rfl (lv_room (Nat.le_of_ble_eq_true rfl)) dX4_sum_55 ⟨Nat.zero_le _, Nat.zero_le _⟩) (fun H locs hP hD hS => ?_)
    refine lv_if_ne (tgt := 63) hx hb dX4_sum_58 (by decide) (fun c10 => ?_) (fun c10 => ?_)
    · have h := it_f h c10
      refine lv_aload_n hx hb dX4_sum_63 rfl (lv_at hl 1 rfl) ?_
      refine lv_iload hx hb dX4_sum_64 (lv_at hl 4 rfl) ?_
      obtain ⟨u11, hc, h⟩ := bd_el h
      have hC : ([3, 4, 5, 6, 7, 8, 9, 10] : List Nat).map (fun i => (cw_X4 E q0 (q1 0) ++ (cw_X9 E q1 u9.2.1 ++ (cw_X3 E q2 u9.2.2)))[i]?) = (cw_X3 E q2 u9.2.2).map some := rfl
      refine ct_v (ws' := cw_X4 E q0 (q1 0) ++ (cw_X9 E q1 u9.2.1 ++ (cw_X3 E q2 u11))) X hP hD hS [3, 4, 5, 6, 7, 8, 9, 10] (va_runV (C := RX3) (As := [.int x4]) (rest := []) ⟨hx, hb, hml, hown, hg⟩ (c_X3_writeSign l E q2 H.size u9.2.2 x4 u11 hc) (cwV 1 hg (gwV wm_X4_80 wi_X3_writeSign wsl_X3_writeSign wini_X3 wco_X3_writeSign) rfl rfl rfl (by decide +kernel) ⟨by dsimp only; omega, by dsimp only; omega⟩) ⟨ct_blind, ct_rv X.1 hP 3 rfl rfl, ct_pre X hP hD hS [3, 4, 5, 6, 7, 8, 9, 10] (by decide) hC _⟩ rfl rfl hl.1 rfl (lv_room (Nat.le_of_ble_eq_true rfl)) dX4_sum_66 ⟨Nat.zero_le _, Nat.zero_le _⟩) hC rfl rfl (fun H locs hP hD hS => ?_)
      clear hC
      obtain ⟨v12, ev12, h⟩ := lt_el h
      refine lv_iinc (v := v12) (lv' := [(3, .int v12), (0, .ref (q0 0)), (1, .ref (q2 0)), (2, .int x2), (4, .int x4)]) hx hb dX4_sum_69 hl (k := 3) rfl (by rw [ev12]; rfl) (by decide) rfl (fun ls hl => ?_)
      refine lv_goto (tgt := 13) hx hb dX4_sum_72 (by decide) ?_
      exact hk13 u9.2.1 u11 v12 _ _ _ h hP hD hS (lv_sub hl [1, 2, 3, 0] rfl)
    · have h := it_t h c10
      refine lv_iconst (v := 0) hx hb dX4_sum_61 (by decide) ?_
      exact RT 0 u9.2.1 u9.2.2 _ _ _ _ h (by decide +kernel) hP hD hS dX4_sum_62
  have N13 : ∀ (n : Nat) (S1 : Gr) (S2 : Gr) (x3 : Int32) (H : Heap) (locs : List Loc) (ls : Array Slot), f_X4_sum_n13 g_X4_condition g_X4_test g_X4_sum g_X4_term g_X4_factor x2 n S1 S2 x3 = some Rv → va_P E.1 vwCl (cw_X4 E q0 (q1 0) ++ (cw_X9 E q1 S1 ++ (cw_X3 E q2 S2))) H → va_D A (cw_X4 E q0 (q1 0) ++ (cw_X9 E q1 S1 ++ (cw_X3 E q2 S2))) → va_S A s.heap H locs → lv_has ls 5 [(0, .ref (q0 0)), (1, .ref (q2 0)), (2, .int x2), (3, .int x3)] → W p l e ({ frames := F + 10, cells := 0, slots := 0, locals := Lc + 300 } : Room) s m ar below meth c H locs 0 0 QM (F0 m 13 ls []) := by
    intro n
    induction n with
    | zero => intro S1 S2 x3 H locs ls h; exact nn_el h
    | succ n ih =>
      intro S1 S2 x3 H locs ls h hP hD hS hl
      refine lv_iload_n hx hb dX4_sum_13 rfl (lv_at hl 3 rfl) ?_
      refine lv_sipush (v := 240) hx hb dX4_sum_14 (by decide) ?_
      refine lv_icmp_gt (tgt := 75) hx hb dX4_sum_17 (by decide) (fun c3 => ?_) (fun c3 => ?_)
      · have h := it_t h c3
        refine lv_aload_n hx hb dX4_sum_75 rfl (lv_at hl 0 rfl) ?_
        refine va_get (D := E.1) (ci := 3) (v := .ref (q1 0)) (C := RX4) (T := TX4) (N := 1) hx hb hg in_X4 hown X.1 hP 0 rfl rfl 0 (by decide) (hg _ wf_X4_12) (fun _ h9 => h9) rfl dX4_sum_76 ?_
        refine lv_iconst (v := 1) hx hb dX4_sum_79 (by decide) ?_
        obtain ⟨u4, hc, h⟩ := bd_el h
        have hC : ([1, 2] : List Nat).map (fun i => (cw_X4 E q0 (q1 0) ++ (cw_X9 E q1 S1 ++ (cw_X3 E q2 S2)))[i]?) = (cw_X9 E q1 S1).map some := rfl
        refine ct_i (ws' := cw_X4 E q0 (q1 0) ++ (cw_X9 E q1 u4.2 ++ (cw_X3 E q2 S2))) X hP hD hS [1, 2] (va_runV (C := RX9) (As := [.int 1]) (rest := []) ⟨hx, hb, hml, hown, hg⟩ (c_X9_fail l E q1 H.size S1 1 u4 hc) (cwV 1 hg (gwV wm_X4_46 wi_X9_fail wsl_X9_fail wini_X9 wco_X9_fail) rfl rfl rfl (by decide +kernel) ⟨by dsimp only; omega, by dsimp only; omega⟩) ⟨ct_blind, ct_rv X.1 hP 1 rfl rfl, ct_pre X hP hD hS [1, 2] (by decide) hC _⟩ rfl rfl hl.1 rfl (lv_room (Nat.le_of_ble_eq_true rfl)) dX4_sum_80 ⟨Nat.zero_le _, Nat.zero_le _⟩) hC rfl rfl (fun H locs hP hD hS => ?_)
        clear hC
        obtain ⟨hn1, -, h⟩ := zb_el h
        exact RT u4.1 u4.2 S2 _ _ _ _ h hn1 hP hD hS dX4_sum_83
      · have h := it_f h c3
        refine lv_aload_n hx hb dX4_sum_20 rfl (lv_at hl 0 rfl) ?_
        refine va_get (D := E.1) (ci := 3) (v := .ref (q1 0)) (C := RX4) (T := TX4) (N := 1) hx hb hg in_X4 hown X.1 hP 0 rfl rfl 0 (by decide) (hg _ wf_X4_12) (fun _ h9 => h9) rfl dX4_sum_21 ?_
        obtain ⟨u5, hc, h⟩ := bd_el h
        have hC : ([1, 2] : List Nat).map (fun i => (cw_X4 E q0 (q1 0) ++ (cw_X9 E q1 S1 ++ (cw_X3 E q2 S2)))[i]?) = (cw_X9 E q1 S1).map some := rfl
        refine ct_iR X hP hD hS [1, 2] hC (va_runV (C := RX9) (As := []) (rest := []) ⟨hx, hb, hml, hown, hg⟩ (c_X9_peek l E q1 H.size S1 u5 hc) (cwV 0 hg (gwV wm_X4_35 wi_X9_peek wsl_X9_peek wini_X9 wco_X9_peek) rfl rfl rfl (by decide +kernel) ⟨by dsimp only; omega, by dsimp only; omega⟩) ⟨ct_blind, ct_rv X.1 hP 1 rfl rfl, ct_pre X hP hD hS [1, 2] (by decide) hC _⟩ rfl rfl hl.1 rfl (lv_room (Nat.le_of_ble_eq_true rfl)) dX4_sum_24 ⟨Nat.zero_le _, Nat.zero_le _⟩) (fun H locs hP hD hS => ?_)
        clear hC
        refine lv_istore (lv' := [(4, .int u5), (0, .ref (q0 0)), (1, .ref (q2 0)), (2, .int x2), (3, .int x3)]) hx hb dX4_sum_27 hl (by decide) rfl (fun ls hl => ?_)
        refine lv_iload hx hb dX4_sum_29 (lv_at hl 0 rfl) ?_
        refine lv_bipush (v := 43) hx hb dX4_sum_31 (by decide) ?_
        refine lv_icmp_eq (tgt := 45) hx hb dX4_sum_33 (by decide) (fun c6 => ?_) (fun c6 => ?_)
        · have h := it_t h c6
          exact N45 (f_X4_sum_n13 g_X4_condition g_X4_test g_X4_sum g_X4_term g_X4_factor x2 n) ih S1 S2 x3 u5 _ _ _ h hP hD hS (lv_sub hl [1, 2, 3, 4, 0] rfl)
        · have h := it_f h c6
          refine lv_iload hx hb dX4_sum_36 (lv_at hl 0 rfl) ?_
          refine lv_bipush (v := 45) hx hb dX4_sum_38 (by decide) ?_
          refine lv_icmp_eq (tgt := 45) hx hb dX4_sum_40 (by decide) (fun c7 => ?_) (fun c7 => ?_)
          · have h := it_t h c7
            exact N45 (f_X4_sum_n13 g_X4_condition g_X4_test g_X4_sum g_X4_term g_X4_factor x2 n) ih S1 S2 x3 u5 _ _ _ h hP hD hS (lv_sub hl [1, 2, 3, 4, 0] rfl)
          · have h := it_f h c7
            refine lv_iconst (v := 1) hx hb dX4_sum_43 (by decide) ?_
            exact RT 1 S1 S2 _ _ _ _ h (by decide +kernel) hP hD hS dX4_sum_44
  obtain ⟨H, eH⟩ : ∃ z, z = s.heap := ⟨_, rfl⟩
  rw [← eH]
  have hP : va_P E.1 vwCl (cw_X4 E q0 (q1 0) ++ (cw_X9 E q1 S1 ++ (cw_X3 E q2 S2))) H := by rw [eH]; exact hP
  have hS : va_S A s.heap H [] := by rw [eH]; exact hS
  clear eH
  obtain ⟨locs, el⟩ : ∃ z : List Loc, z = [] := ⟨_, rfl⟩
  rw [← el] at hS ⊢
  clear el
  refine lv_aload_n hx hb dX4_sum_0 rfl (lv_at hl 0 rfl) ?_
  refine lv_aload_n hx hb dX4_sum_1 rfl (lv_at hl 1 rfl) ?_
  refine lv_iload_n hx hb dX4_sum_2 rfl (lv_at hl 2 rfl) ?_
  obtain ⟨u1, hc, h⟩ := bd_el h
  refine ct_iA (w1 := cw_X4 E q0 (q1 0) ++ (cw_X9 E q1 u1.2.1 ++ (cw_X3 E q2 u1.2.2))) X hP hD hS (va_runV (C := RX4) (As := [.ref (q2 0), .int x2]) (rest := []) ⟨hx, hb, hml, hown, hg⟩ (hg_X4_term q0 q1 q2 H.size S1 S2 x2 u1 hc) (cwV 2 hg (gwV wm_X4_86 wi_X4_term wsl_X4_term wini_X4 wco_X4_term) rfl rfl rfl (by decide +kernel) ⟨by dsimp only; omega, by dsimp only; omega⟩) ⟨ct_blind, ct_rv X.1 hP 0 rfl rfl, ct_preA X hP hD hS _⟩ rfl rfl hl.1 rfl (lv_room (Nat.le_of_ble_eq_true rfl)) dX4_sum_3 ⟨Nat.zero_le _, Nat.zero_le _⟩) (fun H locs hP hD hS => ?_)
  refine lv_if_ne (tgt := 11) hx hb dX4_sum_6 (by decide) (fun c2 => ?_) (fun c2 => ?_)
  · have h := it_f h c2
    refine lv_iconst (v := 0) hx hb dX4_sum_11 (by decide) ?_
    refine lv_istore_n (lv' := [(3, .int 0), (0, .ref (q0 0)), (1, .ref (q2 0)), (2, .int x2)]) hx hb dX4_sum_12 rfl hl (by decide) rfl (fun ls hl => ?_)
    exact N13 fu u1.2.1 u1.2.2 0 _ _ _ h hP hD hS (lv_sub hl [1, 2, 3, 0] rfl)
  · have h := it_t h c2
    refine lv_iconst (v := 0) hx hb dX4_sum_9 (by decide) ?_
    exact RT 0 u1.2.1 u1.2.2 _ _ _ _ h (by decide +kernel) hP hD hS dX4_sum_10
theorem dX4_term_0 : decode cX4_term 0 = .ok (.aload_n 0, 1) := by decide +kernel
theorem dX4_term_1 : decode cX4_term 1 = .ok (.aload_n 1, 1) := by decide +kernel
theorem dX4_term_2 : decode cX4_term 2 = .ok (.iload_n 2, 1) := by decide +kernel
theorem dX4_term_3 : decode cX4_term 3 = .ok (.invokevirtual 89, 3) := by decide +kernel
theorem dX4_term_6 : decode cX4_term 6 = .ok (.ifCond .ne 5, 3) := by decide +kernel
theorem dX4_term_9 : decode cX4_term 9 = .ok (.iconst 0, 1) := by decide +kernel
theorem dX4_term_10 : decode cX4_term 10 = .ok (.ireturn, 1) := by decide +kernel
theorem dX4_term_11 : decode cX4_term 11 = .ok (.iconst 0, 1) := by decide +kernel
theorem dX4_term_12 : decode cX4_term 12 = .ok (.istore_n 3, 1) := by decide +kernel
theorem dX4_term_13 : decode cX4_term 13 = .ok (.iload_n 3, 1) := by decide +kernel
theorem dX4_term_14 : decode cX4_term 14 = .ok (.sipush 240, 3) := by decide +kernel
theorem dX4_term_17 : decode cX4_term 17 = .ok (.if_icmp .gt 65, 3) := by decide +kernel
theorem dX4_term_20 : decode cX4_term 20 = .ok (.aload_n 0, 1) := by decide +kernel
theorem dX4_term_21 : decode cX4_term 21 = .ok (.getfield 12, 3) := by decide +kernel
theorem dX4_term_24 : decode cX4_term 24 = .ok (.invokevirtual 35, 3) := by decide +kernel
theorem dX4_term_27 : decode cX4_term 27 = .ok (.istore 4, 2) := by decide +kernel
theorem dX4_term_29 : decode cX4_term 29 = .ok (.iload 4, 2) := by decide +kernel
theorem dX4_term_31 : decode cX4_term 31 = .ok (.bipush 42, 2) := by decide +kernel
theorem dX4_term_33 : decode cX4_term 33 = .ok (.if_icmp .eq 19, 3) := by decide +kernel
theorem dX4_term_36 : decode cX4_term 36 = .ok (.iload 4, 2) := by decide +kernel
theorem dX4_term_38 : decode cX4_term 38 = .ok (.bipush 47, 2) := by decide +kernel
theorem dX4_term_40 : decode cX4_term 40 = .ok (.if_icmp .eq 12, 3) := by decide +kernel
theorem dX4_term_43 : decode cX4_term 43 = .ok (.iload 4, 2) := by decide +kernel
theorem dX4_term_45 : decode cX4_term 45 = .ok (.bipush 37, 2) := by decide +kernel
theorem dX4_term_47 : decode cX4_term 47 = .ok (.if_icmp .eq 5, 3) := by decide +kernel
theorem dX4_term_50 : decode cX4_term 50 = .ok (.iconst 1, 1) := by decide +kernel
theorem dX4_term_51 : decode cX4_term 51 = .ok (.ireturn, 1) := by decide +kernel
theorem dX4_term_52 : decode cX4_term 52 = .ok (.aload_n 0, 1) := by decide +kernel
theorem dX4_term_53 : decode cX4_term 53 = .ok (.getfield 12, 3) := by decide +kernel
theorem dX4_term_56 : decode cX4_term 56 = .ok (.invokevirtual 53, 3) := by decide +kernel
theorem dX4_term_59 : decode cX4_term 59 = .ok (.aload_n 0, 1) := by decide +kernel
theorem dX4_term_60 : decode cX4_term 60 = .ok (.aload_n 1, 1) := by decide +kernel
theorem dX4_term_61 : decode cX4_term 61 = .ok (.iload_n 2, 1) := by decide +kernel
theorem dX4_term_62 : decode cX4_term 62 = .ok (.invokevirtual 89, 3) := by decide +kernel
theorem dX4_term_65 : decode cX4_term 65 = .ok (.ifCond .ne 5, 3) := by decide +kernel
theorem dX4_term_68 : decode cX4_term 68 = .ok (.iconst 0, 1) := by decide +kernel
theorem dX4_term_69 : decode cX4_term 69 = .ok (.ireturn, 1) := by decide +kernel
theorem dX4_term_70 : decode cX4_term 70 = .ok (.aload_n 1, 1) := by decide +kernel
theorem dX4_term_71 : decode cX4_term 71 = .ok (.iload 4, 2) := by decide +kernel
theorem dX4_term_73 : decode cX4_term 73 = .ok (.invokevirtual 80, 3) := by decide +kernel
theorem dX4_term_76 : decode cX4_term 76 = .ok (.iinc 3 1, 3) := by decide +kernel
theorem dX4_term_79 : decode cX4_term 79 = .ok (.goto (-66), 3) := by decide +kernel
theorem dX4_term_82 : decode cX4_term 82 = .ok (.aload_n 0, 1) := by decide +kernel
theorem dX4_term_83 : decode cX4_term 83 = .ok (.getfield 12, 3) := by decide +kernel
theorem dX4_term_86 : decode cX4_term 86 = .ok (.iconst 1, 1) := by decide +kernel
theorem dX4_term_87 : decode cX4_term 87 = .ok (.invokevirtual 46, 3) := by decide +kernel
theorem dX4_term_90 : decode cX4_term 90 = .ok (.ireturn, 1) := by decide +kernel
def f_X4_term_n52 (g_X4_condition : Gr → Gr → Int32 → Int32 → Option (Int32 × Gr × Gr)) (g_X4_test : Gr → Gr → Int32 → Option (Int32 × Gr × Gr)) (g_X4_sum : Gr → Gr → Int32 → Option (Int32 × Gr × Gr)) (g_X4_term : Gr → Gr → Int32 → Option (Int32 × Gr × Gr)) (g_X4_factor : Gr → Gr → Int32 → Option (Int32 × Gr × Gr)) (x2 : Int32) (k13 : Gr → Gr → Int32 → Option (Int32 × Gr × Gr)) (S1 : Gr) (S2 : Gr) (x3 : Int32) (x4 : Int32) : Option (Int32 × Gr × Gr) := (f_X9_step S1).bind fun u9 => (g_X4_factor u9 S2 x2).bind fun u10 => if u10.1 = 0 then (some (0, u10.2.1, u10.2.2)) else ((f_X3_writeSign u10.2.2 x4).bind fun u12 => lt' (x3 + 1) fun v13 => k13 u10.2.1 u12 v13)
def f_X4_term_n13 (g_X4_condition : Gr → Gr → Int32 → Int32 → Option (Int32 × Gr × Gr)) (g_X4_test : Gr → Gr → Int32 → Option (Int32 × Gr × Gr)) (g_X4_sum : Gr → Gr → Int32 → Option (Int32 × Gr × Gr)) (g_X4_term : Gr → Gr → Int32 → Option (Int32 × Gr × Gr)) (g_X4_factor : Gr → Gr → Int32 → Option (Int32 × Gr × Gr)) (x2 : Int32) : Nat → Gr → Gr → Int32 → Option (Int32 × Gr × Gr)
  | 0, _, _, _ => none
  | n + 1, S1, S2, x3 => if 240 < x3 then ((f_X9_fail S1 1).bind fun u4 => zb' u4.1 (some (u4.1, u4.2, S2))) else ((f_X9_peek S1).bind fun u5 => if u5 = 42 then (f_X4_term_n52 g_X4_condition g_X4_test g_X4_sum g_X4_term g_X4_factor x2 (f_X4_term_n13 g_X4_condition g_X4_test g_X4_sum g_X4_term g_X4_factor x2 n) S1 S2 x3 u5) else (if u5 = 47 then (f_X4_term_n52 g_X4_condition g_X4_test g_X4_sum g_X4_term g_X4_factor x2 (f_X4_term_n13 g_X4_condition g_X4_test g_X4_sum g_X4_term g_X4_factor x2 n) S1 S2 x3 u5) else (if u5 = 37 then (f_X4_term_n52 g_X4_condition g_X4_test g_X4_sum g_X4_term g_X4_factor x2 (f_X4_term_n13 g_X4_condition g_X4_test g_X4_sum g_X4_term g_X4_factor x2 n) S1 S2 x3 u5) else (some (1, S1, S2)))))
def fo_X4_term (g_X4_condition : Gr → Gr → Int32 → Int32 → Option (Int32 × Gr × Gr)) (g_X4_test : Gr → Gr → Int32 → Option (Int32 × Gr × Gr)) (g_X4_sum : Gr → Gr → Int32 → Option (Int32 × Gr × Gr)) (g_X4_term : Gr → Gr → Int32 → Option (Int32 × Gr × Gr)) (g_X4_factor : Gr → Gr → Int32 → Option (Int32 × Gr × Gr)) (S1 : Gr) (S2 : Gr) (x2 : Int32) : Option (Int32 × Gr × Gr) := (g_X4_factor S1 S2 x2).bind fun u1 => if u1.1 = 0 then (some (0, u1.2.1, u1.2.2)) else (f_X4_term_n13 g_X4_condition g_X4_test g_X4_sum g_X4_term g_X4_factor x2 fu u1.2.1 u1.2.2 0)
set_option maxHeartbeats 4000000 in
set_option maxRecDepth 100000 in
theorem co_X4_term (l : Launch) (E : Ec) (F Lc : Nat) (g_X4_condition : Gr → Gr → Int32 → Int32 → Option (Int32 × Gr × Gr)) (g_X4_test : Gr → Gr → Int32 → Option (Int32 × Gr × Gr)) (g_X4_sum : Gr → Gr → Int32 → Option (Int32 × Gr × Gr)) (g_X4_term : Gr → Gr → Int32 → Option (Int32 × Gr × Gr)) (g_X4_factor : Gr → Gr → Int32 → Option (Int32 × Gr × Gr)) (hg_X4_condition : ∀ (q0 q1 q2 : Nat → Nat) (sz : Nat) (S1 : Gr) (S2 : Gr) (x2 : Int32) (x3 : Int32) (Rv : Int32 × Gr × Gr), g_X4_condition S1 S2 x2 x3 = some Rv → Met l yX4_condition (wsM (.code yX4_condition cX4_condition 7 (some .boolean))) ({ frames := F, cells := 0, slots := 0, locals := Lc } : Room) (va_Pc [.ref (q0 0), .ref (q2 0), .int x2, .int x3] (ctP E (cw_X4 E q0 (q1 0) ++ (cw_X9 E q1 S1 ++ (cw_X3 E q2 S2))) sz)) (ctI E (cw_X4 E q0 (q1 0) ++ (cw_X9 E q1 S1 ++ (cw_X3 E q2 S2))) (cw_X4 E q0 (q1 0) ++ (cw_X9 E q1 Rv.2.1 ++ (cw_X3 E q2 Rv.2.2))) sz Rv.1) 0 0 (va_A (cw_X4 E q0 (q1 0) ++ (cw_X9 E q1 S1 ++ (cw_X3 E q2 S2))) sz)) (hg_X4_test : ∀ (q0 q1 q2 : Nat → Nat) (sz : Nat) (S1 : Gr) (S2 : Gr) (x2 : Int32) (Rv : Int32 × Gr × Gr), g_X4_test S1 S2 x2 = some Rv → Met l yX4_test (wsM (.code yX4_test cX4_test 5 (some .boolean))) ({ frames := F, cells := 0, slots := 0, locals := Lc } : Room) (va_Pc [.ref (q0 0), .ref (q2 0), .int x2] (ctP E (cw_X4 E q0 (q1 0) ++ (cw_X9 E q1 S1 ++ (cw_X3 E q2 S2))) sz)) (ctI E (cw_X4 E q0 (q1 0) ++ (cw_X9 E q1 S1 ++ (cw_X3 E q2 S2))) (cw_X4 E q0 (q1 0) ++ (cw_X9 E q1 Rv.2.1 ++ (cw_X3 E q2 Rv.2.2))) sz Rv.1) 0 0 (va_A (cw_X4 E q0 (q1 0) ++ (cw_X9 E q1 S1 ++ (cw_X3 E q2 S2))) sz)) (hg_X4_sum : ∀ (q0 q1 q2 : Nat → Nat) (sz : Nat) (S1 : Gr) (S2 : Gr) (x2 : Int32) (Rv : Int32 × Gr × Gr), g_X4_sum S1 S2 x2 = some Rv → Met l yX4_sum (wsM (.code yX4_sum cX4_sum 5 (some .boolean))) ({ frames := F, cells := 0, slots := 0, locals := Lc } : Room) (va_Pc [.ref (q0 0), .ref (q2 0), .int x2] (ctP E (cw_X4 E q0 (q1 0) ++ (cw_X9 E q1 S1 ++ (cw_X3 E q2 S2))) sz)) (ctI E (cw_X4 E q0 (q1 0) ++ (cw_X9 E q1 S1 ++ (cw_X3 E q2 S2))) (cw_X4 E q0 (q1 0) ++ (cw_X9 E q1 Rv.2.1 ++ (cw_X3 E q2 Rv.2.2))) sz Rv.1) 0 0 (va_A (cw_X4 E q0 (q1 0) ++ (cw_X9 E q1 S1 ++ (cw_X3 E q2 S2))) sz)) (hg_X4_term : ∀ (q0 q1 q2 : Nat → Nat) (sz : Nat) (S1 : Gr) (S2 : Gr) (x2 : Int32) (Rv : Int32 × Gr × Gr), g_X4_term S1 S2 x2 = some Rv → Met l yX4_term (wsM (.code yX4_term cX4_term 5 (some .boolean))) ({ frames := F, cells := 0, slots := 0, locals := Lc } : Room) (va_Pc [.ref (q0 0), .ref (q2 0), .int x2] (ctP E (cw_X4 E q0 (q1 0) ++ (cw_X9 E q1 S1 ++ (cw_X3 E q2 S2))) sz)) (ctI E (cw_X4 E q0 (q1 0) ++ (cw_X9 E q1 S1 ++ (cw_X3 E q2 S2))) (cw_X4 E q0 (q1 0) ++ (cw_X9 E q1 Rv.2.1 ++ (cw_X3 E q2 Rv.2.2))) sz Rv.1) 0 0 (va_A (cw_X4 E q0 (q1 0) ++ (cw_X9 E q1 S1 ++ (cw_X3 E q2 S2))) sz)) (hg_X4_factor : ∀ (q0 q1 q2 : Nat → Nat) (sz : Nat) (S1 : Gr) (S2 : Gr) (x2 : Int32) (Rv : Int32 × Gr × Gr), g_X4_factor S1 S2 x2 = some Rv → Met l yX4_factor (wsM (.code yX4_factor cX4_factor 4 (some .boolean))) ({ frames := F, cells := 0, slots := 0, locals := Lc } : Room) (va_Pc [.ref (q0 0), .ref (q2 0), .int x2] (ctP E (cw_X4 E q0 (q1 0) ++ (cw_X9 E q1 S1 ++ (cw_X3 E q2 S2))) sz)) (ctI E (cw_X4 E q0 (q1 0) ++ (cw_X9 E q1 S1 ++ (cw_X3 E q2 S2))) (cw_X4 E q0 (q1 0) ++ (cw_X9 E q1 Rv.2.1 ++ (cw_X3 E q2 Rv.2.2))) sz Rv.1) 0 0 (va_A (cw_X4 E q0 (q1 0) ++ (cw_X9 E q1 S1 ++ (cw_X3 E q2 S2))) sz)) (q0 q1 q2 : Nat → Nat) (sz : Nat) (S1 : Gr) (S2 : Gr) (x2 : Int32) (Rv : Int32 × Gr × Gr) (h : fo_X4_term g_X4_condition g_X4_test g_X4_sum g_X4_term g_X4_factor S1 S2 x2 = some Rv) : Met l yX4_term (wsM (.code yX4_term cX4_term 5 (some .boolean))) ({ frames := F + 10, cells := 0, slots := 0, locals := Lc + 300 } : Room) (va_Pc [.ref (q0 0), .ref (q2 0), .int x2] (ctP E (cw_X4 E q0 (q1 0) ++ (cw_X9 E q1 S1 ++ (cw_X3 E q2 S2))) sz)) (ctI E (cw_X4 E q0 (q1 0) ++ (cw_X9 E q1 S1 ++ (cw_X3 E q2 S2))) (cw_X4 E q0 (q1 0) ++ (cw_X9 E q1 Rv.2.1 ++ (cw_X3 E q2 Rv.2.2))) sz Rv.1) 0 0 (va_A (cw_X4 E q0 (q1 0) ++ (cw_X9 E q1 S1 ++ (cw_X3 E q2 S2))) sz) := by
  refine ct_metI (by decide) (Nat.le_of_ble_eq_true rfl) ?_
  intro p e s m ar below meth c A QM hx hb hml hown hg X hP hD hS RET ls hl
  have hown : s.vm.findClass RX4 = some m.cls := hown
  have hl : lv_has ls 5 [(0, .ref (q0 0)), (1, .ref (q2 0)), (2, .int x2)] := hl
  have RT : ∀ (v : Int32) (S1 : Gr) (S2 : Gr) (H : Heap) (locs : List Loc) (ls : Array Slot) (pc : Nat), some (v, S1, S2) = some Rv → narrow .boolean (.int v) = .int v → va_P E.1 vwCl (cw_X4 E q0 (q1 0) ++ (cw_X9 E q1 S1 ++ (cw_X3 E q2 S2))) H → va_D A (cw_X4 E q0 (q1 0) ++ (cw_X9 E q1 S1 ++ (cw_X3 E q2 S2))) → va_S A s.heap H locs → decode cX4_term pc = .ok (.ireturn, 1) → W p l e ({ frames := F + 10, cells := 0, slots := 0, locals := Lc + 300 } : Room) s m ar below meth c H locs 0 0 QM (F0 m pc ls [.int v]) := by
    intro v S1 S2 H locs ls pc e hn hP hD hS d
    obtain rfl := sm_e e
    exact RET H locs pc ls hn hP hD hS d
  clear RET
  have N52 : ∀ (k13 : Gr → Gr → Int32 → Option (Int32 × Gr × Gr)) (hk13 : ∀ (S1 : Gr) (S2 : Gr) (x3 : Int32) (H : Heap) (locs : List Loc) (ls : Array Slot), k13 S1 S2 x3 = some Rv → va_P E.1 vwCl (cw_X4 E q0 (q1 0) ++ (cw_X9 E q1 S1 ++ (cw_X3 E q2 S2))) H → va_D A (cw_X4 E q0 (q1 0) ++ (cw_X9 E q1 S1 ++ (cw_X3 E q2 S2))) → va_S A s.heap H locs → lv_has ls 5 [(0, .ref (q0 0)), (1, .ref (q2 0)), (2, .int x2), (3, .int x3)] → W p l e ({ frames := F + 10, cells := 0, slots := 0, locals := Lc + 300 } : Room) s m ar below meth c H locs 0 0 QM (F0 m 13 ls [])) (S1 : Gr) (S2 : Gr) (x3 : Int32) (x4 : Int32) (H : Heap) (locs : List Loc) (ls : Array Slot), f_X4_term_n52 g_X4_condition g_X4_test g_X4_sum g_X4_term g_X4_factor x2 k13 S1 S2 x3 x4 = some Rv → va_P E.1 vwCl (cw_X4 E q0 (q1 0) ++ (cw_X9 E q1 S1 ++ (cw_X3 E q2 S2))) H → va_D A (cw_X4 E q0 (q1 0) ++ (cw_X9 E q1 S1 ++ (cw_X3 E q2 S2))) → va_S A s.heap H locs → lv_has ls 5 [(0, .ref (q0 0)), (1, .ref (q2 0)), (2, .int x2), (3, .int x3), (4, .int x4)] → W p l e ({ frames := F + 10, cells := 0, slots := 0, locals := Lc + 300 } : Room) s m ar below meth c H locs 0 0 QM (F0 m 52 ls []) := by
    intro k13 hk13 S1 S2 x3 x4 H locs ls h hP hD hS hl
    refine lv_aload_n hx hb dX4_term_52 rfl (lv_at hl 0 rfl) ?_
    refine va_get (D := E.1) (ci := 3) (v := .ref (q1 0)) (C := RX4) (T := TX4) (N := 1) hx hb hg in_X4 hown X.1 hP 0 rfl rfl 0 (by decide) (hg _ wf_X4_12) (fun _ h9 => h9) rfl dX4_term_53 ?_
    obtain ⟨u9, hc, h⟩ := bd_el h
    have hC : ([1, 2] : List Nat).map (fun i => (cw_X4 E q0 (q1 0) ++ (cw_X9 E q1 S1 ++ (cw_X3 E q2 S2)))[i]?) = (cw_X9 E q1 S1).map some := rfl
    refine ct_v (ws' := cw_X4 E q0 (q1 0) ++ (cw_X9 E q1 u9 ++ (cw_X3 E q2 S2))) X hP hD hS [1, 2] (va_runV (C := RX9) (As := []) (rest := []) ⟨hx, hb, hml, hown, hg⟩ (c_X9_step l E q1 H.size S1 u9 hc) (cwV 0 hg (gwV wm_X4_53 wi_X9_step wsl_X9_step wini_X9 wco_X9_step) rfl rfl rfl (by decide +kernel) ⟨by dsimp only; omega, by dsimp only; omega⟩) ⟨ct_blind, ct_rv X.1 hP 1 rfl rfl, ct_pre X hP hD hS [1, 2] (by decide) hC _⟩ rfl rfl hl.1 rfl (lv_room (Nat.le_of_ble_eq_true rfl)) dX4_term_56 ⟨Nat.zero_le _, Nat.zero_le _⟩) hC rfl rfl (fun H locs hP hD hS => ?_)
    clear hC
    refine lv_aload_n hx hb dX4_term_59 rfl (lv_at hl 0 rfl) ?_
    refine lv_aload_n hx hb dX4_term_60 rfl (lv_at hl 1 rfl) ?_
    refine lv_iload_n hx hb dX4_term_61 rfl (lv_at hl 2 rfl) ?_
    obtain ⟨u10, hc, h⟩ := bd_el h
    refine ct_iA (w1 := cw_X4 E q0 (q1 0) ++ (cw_X9 E q1 u10.2.1 ++ (cw_X3 E q2 u10.2.2))) X hP hD hS (va_runV (C := RX4) (As := [.ref (q2 0), .int x2]) (rest := []) ⟨hx, hb, hml, hown, hg⟩ (hg_X4_factor q0 q1 q2 H.size u9 S2 x2 u10 hc) (cwV 2 hg (gwV wm_X4_89 wi_X4_factor wsl_X4_factor wini_X4 wco_X4_factor) rfl rfl rfl (by decide +kernel) ⟨by dsimp only; omega, by dsimp only; omega⟩) ⟨ct_blind, ct_rv X.1 hP 0 rfl rfl, ct_preA X hP hD hS _⟩ rfl rfl hl.1 rfl (lv_room (Nat.le_of_ble_eq_true rfl)) dX4_term_62 ⟨Nat.zero_le _, Nat.zero_le _⟩) (fun H locs hP hD hS => ?_)
    refine lv_if_ne (tgt := 70) hx hb dX4_term_65 (by decide) (fun c11 => ?_) (fun c11 => ?_)
    · have h := it_f h c11
      refine lv_aload_n hx hb dX4_term_70 rfl (lv_at hl 1 rfl) ?_
      refine lv_iload hx hb dX4_term_71 (lv_at hl 4 rfl) ?_
      obtain ⟨u12, hc, h⟩ := bd_el h
      have hC : ([3, 4, 5, 6, 7, 8, 9, 10] : List Nat).map (fun i => (cw_X4 E q0 (q1 0) ++ (cw_X9 E q1 u10.2.1 ++ (cw_X3 E q2 u10.2.2)))[i]?) = (cw_X3 E q2 u10.2.2).map some := rfl
      refine ct_v (ws' := cw_X4 E q0 (q1 0) ++ (cw_X9 E q1 u10.2.1 ++ (cw_X3 E q2 u12))) X hP hD hS [3, 4, 5, 6, 7, 8, 9, 10] (va_runV (C := RX3) (As := [.int x4]) (rest := []) ⟨hx, hb, hml, hown, hg⟩ (c_X3_writeSign l E q2 H.size u10.2.2 x4 u12 hc) (cwV 1 hg (gwV wm_X4_80 wi_X3_writeSign wsl_X3_writeSign wini_X3 wco_X3_writeSign) rfl rfl rfl (by decide +kernel) ⟨by dsimp only; omega, by dsimp only; omega⟩) ⟨ct_blind, ct_rv X.1 hP 3 rfl rfl, ct_pre X hP hD hS [3, 4, 5, 6, 7, 8, 9, 10] (by decide) hC _⟩ rfl rfl hl.1 rfl (lv_room (Nat.le_of_ble_eq_true rfl)) dX4_term_73 ⟨Nat.zero_le _, Nat.zero_le _⟩) hC rfl rfl (fun H locs hP hD hS => ?_)
      clear hC
      obtain ⟨v13, ev13, h⟩ := lt_el h
      refine lv_iinc (v := v13) (lv' := [(3, .int v13), (0, .ref (q0 0)), (1, .ref (q2 0)), (2, .int x2), (4, .int x4)]) hx hb dX4_term_76 hl (k := 3) rfl (by rw [ev13]; rfl) (by decide) rfl (fun ls hl => ?_)
      refine lv_goto (tgt := 13) hx hb dX4_term_79 (by decide) ?_
      exact hk13 u10.2.1 u12 v13 _ _ _ h hP hD hS (lv_sub hl [1, 2, 3, 0] rfl)
    · have h := it_t h c11
      refine lv_iconst (v := 0) hx hb dX4_term_68 (by decide) ?_
      exact RT 0 u10.2.1 u10.2.2 _ _ _ _ h (by decide +kernel) hP hD hS dX4_term_69
  have N13 : ∀ (n : Nat) (S1 : Gr) (S2 : Gr) (x3 : Int32) (H : Heap) (locs : List Loc) (ls : Array Slot), f_X4_term_n13 g_X4_condition g_X4_test g_X4_sum g_X4_term g_X4_factor x2 n S1 S2 x3 = some Rv → va_P E.1 vwCl (cw_X4 E q0 (q1 0) ++ (cw_X9 E q1 S1 ++ (cw_X3 E q2 S2))) H → va_D A (cw_X4 E q0 (q1 0) ++ (cw_X9 E q1 S1 ++ (cw_X3 E q2 S2))) → va_S A s.heap H locs → lv_has ls 5 [(0, .ref (q0 0)), (1, .ref (q2 0)), (2, .int x2), (3, .int x3)] → W p l e ({ frames := F + 10, cells := 0, slots := 0, locals := Lc + 300 } : Room) s m ar below meth c H locs 0 0 QM (F0 m 13 ls []) := by
    intro n
    induction n with
    | zero => intro S1 S2 x3 H locs ls h; exact nn_el h
    | succ n ih =>
      intro S1 S2 x3 H locs ls h hP hD hS hl
      refine lv_iload_n hx hb dX4_term_13 rfl (lv_at hl 3 rfl) ?_
      refine lv_sipush (v := 240) hx hb dX4_term_14 (by decide) ?_
      refine lv_icmp_gt (tgt := 82) hx hb dX4_term_17 (by decide) (fun c3 => ?_) (fun c3 => ?_)
      · have h := it_t h c3
        refine lv_aload_n hx hb dX4_term_82 rfl (lv_at hl 0 rfl) ?_
        refine va_get (D := E.1) (ci := 3) (v := .ref (q1 0)) (C := RX4) (T := TX4) (N := 1) hx hb hg in_X4 hown X.1 hP 0 rfl rfl 0 (by decide) (hg _ wf_X4_12) (fun _ h9 => h9) rfl dX4_term_83 ?_
        refine lv_iconst (v := 1) hx hb dX4_term_86 (by decide) ?_
        obtain ⟨u4, hc, h⟩ := bd_el h
        have hC : ([1, 2] : List Nat).map (fun i => (cw_X4 E q0 (q1 0) ++ (cw_X9 E q1 S1 ++ (cw_X3 E q2 S2)))[i]?) = (cw_X9 E q1 S1).map some := rfl
        refine ct_i (ws' := cw_X4 E q0 (q1 0) ++ (cw_X9 E q1 u4.2 ++ (cw_X3 E q2 S2))) X hP hD hS [1, 2] (va_runV (C := RX9) (As := [.int 1]) (rest := []) ⟨hx, hb, hml, hown, hg⟩ (c_X9_fail l E q1 H.size S1 1 u4 hc) (cwV 1 hg (gwV wm_X4_46 wi_X9_fail wsl_X9_fail wini_X9 wco_X9_fail) rfl rfl rfl (by decide +kernel) ⟨by dsimp only; omega, by dsimp only; omega⟩) ⟨ct_blind, ct_rv X.1 hP 1 rfl rfl, ct_pre X hP hD hS [1, 2] (by decide) hC _⟩ rfl rfl hl.1 rfl (lv_room (Nat.le_of_ble_eq_true rfl)) dX4_term_87 ⟨Nat.zero_le _, Nat.zero_le _⟩) hC rfl rfl (fun H locs hP hD hS => ?_)
        clear hC
        obtain ⟨hn1, -, h⟩ := zb_el h
        exact RT u4.1 u4.2 S2 _ _ _ _ h hn1 hP hD hS dX4_term_90
      · have h := it_f h c3
        refine lv_aload_n hx hb dX4_term_20 rfl (lv_at hl 0 rfl) ?_
        refine va_get (D := E.1) (ci := 3) (v := .ref (q1 0)) (C := RX4) (T := TX4) (N := 1) hx hb hg in_X4 hown X.1 hP 0 rfl rfl 0 (by decide) (hg _ wf_X4_12) (fun _ h9 => h9) rfl dX4_term_21 ?_
        obtain ⟨u5, hc, h⟩ := bd_el h
        have hC : ([1, 2] : List Nat).map (fun i => (cw_X4 E q0 (q1 0) ++ (cw_X9 E q1 S1 ++ (cw_X3 E q2 S2)))[i]?) = (cw_X9 E q1 S1).map some := rfl
        refine ct_iR X hP hD hS [1, 2] hC (va_runV (C := RX9) (As := []) (rest := []) ⟨hx, hb, hml, hown, hg⟩ (c_X9_peek l E q1 H.size S1 u5 hc) (cwV 0 hg (gwV wm_X4_35 wi_X9_peek wsl_X9_peek wini_X9 wco_X9_peek) rfl rfl rfl (by decide +kernel) ⟨by dsimp only; omega, by dsimp only; omega⟩) ⟨ct_blind, ct_rv X.1 hP 1 rfl rfl, ct_pre X hP hD hS [1, 2] (by decide) hC _⟩ rfl rfl hl.1 rfl (lv_room (Nat.le_of_ble_eq_true rfl)) dX4_term_24 ⟨Nat.zero_le _, Nat.zero_le _⟩) (fun H locs hP hD hS => ?_)
        clear hC
        refine lv_istore (lv' := [(4, .int u5), (0, .ref (q0 0)), (1, .ref (q2 0)), (2, .int x2), (3, .int x3)]) hx hb dX4_term_27 hl (by decide) rfl (fun ls hl => ?_)
        refine lv_iload hx hb dX4_term_29 (lv_at hl 0 rfl) ?_
        refine lv_bipush (v := 42) hx hb dX4_term_31 (by decide) ?_
        refine lv_icmp_eq (tgt := 52) hx hb dX4_term_33 (by decide) (fun c6 => ?_) (fun c6 => ?_)
        · have h := it_t h c6
          exact N52 (f_X4_term_n13 g_X4_condition g_X4_test g_X4_sum g_X4_term g_X4_factor x2 n) ih S1 S2 x3 u5 _ _ _ h hP hD hS (lv_sub hl [1, 2, 3, 4, 0] rfl)
        · have h := it_f h c6
          refine lv_iload hx hb dX4_term_36 (lv_at hl 0 rfl) ?_
          refine lv_bipush (v := 47) hx hb dX4_term_38 (by decide) ?_
          refine lv_icmp_eq (tgt := 52) hx hb dX4_term_40 (by decide) (fun c7 => ?_) (fun c7 => ?_)
          · have h := it_t h c7
            exact N52 (f_X4_term_n13 g_X4_condition g_X4_test g_X4_sum g_X4_term g_X4_factor x2 n) ih S1 S2 x3 u5 _ _ _ h hP hD hS (lv_sub hl [1, 2, 3, 4, 0] rfl)
          · have h := it_f h c7
            refine lv_iload hx hb dX4_term_43 (lv_at hl 0 rfl) ?_
            refine lv_bipush (v := 37) hx hb dX4_term_45 (by decide) ?_
            refine lv_icmp_eq (tgt := 52) hx hb dX4_term_47 (by decide) (fun c8 => ?_) (fun c8 => ?_)
            · have h := it_t h c8
              exact N52 (f_X4_term_n13 g_X4_condition g_X4_test g_X4_sum g_X4_term g_X4_factor x2 n) ih S1 S2 x3 u5 _ _ _ h hP hD hS (lv_sub hl [1, 2, 3, 4, 0] rfl)
            · have h := it_f h c8
              refine lv_iconst (v := 1) hx hb dX4_term_50 (by decide) ?_
              exact RT 1 S1 S2 _ _ _ _ h (by decide +kernel) hP hD hS dX4_term_51
  obtain ⟨H, eH⟩ : ∃ z, z = s.heap := ⟨_, rfl⟩
  rw [← eH]
  have hP : va_P E.1 vwCl (cw_X4 E q0 (q1 0) ++ (cw_X9 E q1 S1 ++ (cw_X3 E q2 S2))) H := by rw [eH]; exact hP
  have hS : va_S A s.heap H [] := by rw [eH]; exact hS
  clear eH
  obtain ⟨locs, el⟩ : ∃ z : List Loc, z = [] := ⟨_, rfl⟩
  rw [← el] at hS ⊢
  clear el
  refine lv_aload_n hx hb dX4_term_0 rfl (lv_at hl 0 rfl) ?_
  refine lv_aload_n hx hb dX4_term_1 rfl (lv_at hl 1 rfl) ?_
  refine lv_iload_n hx hb dX4_term_2 rfl (lv_at hl 2 rfl) ?_
  obtain ⟨u1, hc, h⟩ := bd_el h
  refine ct_iA (w1 := cw_X4 E q0 (q1 0) ++ (cw_X9 E q1 u1.2.1 ++ (cw_X3 E q2 u1.2.2))) X hP hD hS (va_runV (C := RX4) (As := [.ref (q2 0), .int x2]) (rest := []) ⟨hx, hb, hml, hown, hg⟩ (hg_X4_factor q0 q1 q2 H.size S1 S2 x2 u1 hc) (cwV 2 hg (gwV wm_X4_89 wi_X4_factor wsl_X4_factor wini_X4 wco_X4_factor) rfl rfl rfl (by decide +kernel) ⟨by dsimp only; omega, by dsimp only; omega⟩) ⟨ct_blind, ct_rv X.1 hP 0 rfl rfl, ct_preA X hP hD hS _⟩ rfl rfl hl.1 rfl (lv_room (Nat.le_of_ble_eq_true rfl)) dX4_term_3 ⟨Nat.zero_le _, Nat.zero_le _⟩) (fun H locs hP hD hS => ?_)
  refine lv_if_ne (tgt := 11) hx hb dX4_term_6 (by decide) (fun c2 => ?_) (fun c2 => ?_)
  · have h := it_f h c2
    refine lv_iconst (v := 0) hx hb dX4_term_11 (by decide) ?_
    refine lv_istore_n (lv' := [(3, .int 0), (0, .ref (q0 0)), (1, .ref (q2 0)), (2, .int x2)]) hx hb dX4_term_12 rfl hl (by decide) rfl (fun ls hl => ?_)
    exact N13 fu u1.2.1 u1.2.2 0 _ _ _ h hP hD hS (lv_sub hl [1, 2, 3, 0] rfl)
  · have h := it_t h c2
    refine lv_iconst (v := 0) hx hb dX4_term_9 (by decide) ?_
    exact RT 0 u1.2.1 u1.2.2 _ _ _ _ h (by decide +kernel) hP hD hS dX4_term_10
theorem dX4_factor_0 : decode cX4_factor 0 = .ok (.aload_n 0, 1) := by decide +kernel
theorem dX4_factor_1 : decode cX4_factor 1 = .ok (.getfield 12, 3) := by decide +kernel
theorem dX4_factor_4 : decode cX4_factor 4 = .ok (.invokevirtual 35, 3) := by decide +kernel
theorem dX4_factor_7 : decode cX4_factor 7 = .ok (.bipush 91, 2) := by decide +kernel
theorem dX4_factor_9 : decode cX4_factor 9 = .ok (.if_icmp .ne 54, 3) := by decide +kernel
theorem dX4_factor_12 : decode cX4_factor 12 = .ok (.iload_n 2, 1) := by decide +kernel
theorem dX4_factor_13 : decode cX4_factor 13 = .ok (.bipush 6, 2) := by decide +kernel
theorem dX4_factor_15 : decode cX4_factor 15 = .ok (.if_icmp .lt 12, 3) := by decide +kernel
theorem dX4_factor_18 : decode cX4_factor 18 = .ok (.aload_n 0, 1) := by decide +kernel
theorem dX4_factor_19 : decode cX4_factor 19 = .ok (.getfield 12, 3) := by decide +kernel
theorem dX4_factor_22 : decode cX4_factor 22 = .ok (.iconst 5, 1) := by decide +kernel
theorem dX4_factor_23 : decode cX4_factor 23 = .ok (.invokevirtual 46, 3) := by decide +kernel
theorem dX4_factor_26 : decode cX4_factor 26 = .ok (.ireturn, 1) := by decide +kernel
theorem dX4_factor_27 : decode cX4_factor 27 = .ok (.aload_n 0, 1) := by decide +kernel
theorem dX4_factor_28 : decode cX4_factor 28 = .ok (.getfield 12, 3) := by decide +kernel
theorem dX4_factor_31 : decode cX4_factor 31 = .ok (.invokevirtual 53, 3) := by decide +kernel
theorem dX4_factor_34 : decode cX4_factor 34 = .ok (.aload_n 0, 1) := by decide +kernel
theorem dX4_factor_35 : decode cX4_factor 35 = .ok (.aload_n 1, 1) := by decide +kernel
theorem dX4_factor_36 : decode cX4_factor 36 = .ok (.iload_n 2, 1) := by decide +kernel
theorem dX4_factor_37 : decode cX4_factor 37 = .ok (.iconst 1, 1) := by decide +kernel
theorem dX4_factor_38 : decode cX4_factor 38 = .ok (.iadd, 1) := by decide +kernel
theorem dX4_factor_39 : decode cX4_factor 39 = .ok (.invokevirtual 60, 3) := by decide +kernel
theorem dX4_factor_42 : decode cX4_factor 42 = .ok (.ifCond .eq 19, 3) := by decide +kernel
theorem dX4_factor_45 : decode cX4_factor 45 = .ok (.aload_n 0, 1) := by decide +kernel
theorem dX4_factor_46 : decode cX4_factor 46 = .ok (.getfield 12, 3) := by decide +kernel
theorem dX4_factor_49 : decode cX4_factor 49 = .ok (.bipush 93, 2) := by decide +kernel
theorem dX4_factor_51 : decode cX4_factor 51 = .ok (.invokevirtual 42, 3) := by decide +kernel
theorem dX4_factor_54 : decode cX4_factor 54 = .ok (.ifCond .eq 7, 3) := by decide +kernel
theorem dX4_factor_57 : decode cX4_factor 57 = .ok (.iconst 1, 1) := by decide +kernel
theorem dX4_factor_58 : decode cX4_factor 58 = .ok (.goto 4, 3) := by decide +kernel
theorem dX4_factor_61 : decode cX4_factor 61 = .ok (.iconst 0, 1) := by decide +kernel
theorem dX4_factor_62 : decode cX4_factor 62 = .ok (.ireturn, 1) := by decide +kernel
theorem dX4_factor_63 : decode cX4_factor 63 = .ok (.aload_n 0, 1) := by decide +kernel
theorem dX4_factor_64 : decode cX4_factor 64 = .ok (.getfield 12, 3) := by decide +kernel
theorem dX4_factor_67 : decode cX4_factor 67 = .ok (.bipush 48, 2) := by decide +kernel
theorem dX4_factor_69 : decode cX4_factor 69 = .ok (.bipush 57, 2) := by decide +kernel
theorem dX4_factor_71 : decode cX4_factor 71 = .ok (.invokevirtual 92, 3) := by decide +kernel
theorem dX4_factor_74 : decode cX4_factor 74 = .ok (.ifCond .eq 28, 3) := by decide +kernel
theorem dX4_factor_77 : decode cX4_factor 77 = .ok (.aload_n 0, 1) := by decide +kernel
theorem dX4_factor_78 : decode cX4_factor 78 = .ok (.getfield 12, 3) := by decide +kernel
theorem dX4_factor_81 : decode cX4_factor 81 = .ok (.iconst 5, 1) := by decide +kernel
theorem dX4_factor_82 : decode cX4_factor 82 = .ok (.invokevirtual 96, 3) := by decide +kernel
theorem dX4_factor_85 : decode cX4_factor 85 = .ok (.istore_n 3, 1) := by decide +kernel
theorem dX4_factor_86 : decode cX4_factor 86 = .ok (.aload_n 1, 1) := by decide +kernel
theorem dX4_factor_87 : decode cX4_factor 87 = .ok (.iload_n 3, 1) := by decide +kernel
theorem dX4_factor_88 : decode cX4_factor 88 = .ok (.invokevirtual 100, 3) := by decide +kernel
theorem dX4_factor_91 : decode cX4_factor 91 = .ok (.iload_n 3, 1) := by decide +kernel
theorem dX4_factor_92 : decode cX4_factor 92 = .ok (.iconst (-1), 1) := by decide +kernel
theorem dX4_factor_93 : decode cX4_factor 93 = .ok (.if_icmp .eq 7, 3) := by decide +kernel
theorem dX4_factor_96 : decode cX4_factor 96 = .ok (.iconst 1, 1) := by decide +kernel
theorem dX4_factor_97 : decode cX4_factor 97 = .ok (.goto 4, 3) := by decide +kernel
theorem dX4_factor_100 : decode cX4_factor 100 = .ok (.iconst 0, 1) := by decide +kernel
theorem dX4_factor_101 : decode cX4_factor 101 = .ok (.ireturn, 1) := by decide +kernel
theorem dX4_factor_102 : decode cX4_factor 102 = .ok (.aload_n 1, 1) := by decide +kernel
theorem dX4_factor_103 : decode cX4_factor 103 = .ok (.aload_n 0, 1) := by decide +kernel
theorem dX4_factor_104 : decode cX4_factor 104 = .ok (.getfield 12, 3) := by decide +kernel
theorem dX4_factor_107 : decode cX4_factor 107 = .ok (.invokevirtual 35, 3) := by decide +kernel
theorem dX4_factor_110 : decode cX4_factor 110 = .ok (.invokevirtual 103, 3) := by decide +kernel
theorem dX4_factor_113 : decode cX4_factor 113 = .ok (.ifCond .ne 12, 3) := by decide +kernel
theorem dX4_factor_116 : decode cX4_factor 116 = .ok (.aload_n 0, 1) := by decide +kernel
theorem dX4_factor_117 : decode cX4_factor 117 = .ok (.getfield 12, 3) := by decide +kernel
theorem dX4_factor_120 : decode cX4_factor 120 = .ok (.iconst 1, 1) := by decide +kernel
theorem dX4_factor_121 : decode cX4_factor 121 = .ok (.invokevirtual 46, 3) := by decide +kernel
theorem dX4_factor_124 : decode cX4_factor 124 = .ok (.ireturn, 1) := by decide +kernel
theorem dX4_factor_125 : decode cX4_factor 125 = .ok (.aload_n 0, 1) := by decide +kernel
theorem dX4_factor_126 : decode cX4_factor 126 = .ok (.getfield 12, 3) := by decide +kernel
theorem dX4_factor_129 : decode cX4_factor 129 = .ok (.invokevirtual 53, 3) := by decide +kernel
theorem dX4_factor_132 : decode cX4_factor 132 = .ok (.iconst 1, 1) := by decide +kernel
theorem dX4_factor_133 : decode cX4_factor 133 = .ok (.ireturn, 1) := by decide +kernel
def fo_X4_factor (g_X4_condition : Gr → Gr → Int32 → Int32 → Option (Int32 × Gr × Gr)) (g_X4_test : Gr → Gr → Int32 → Option (Int32 × Gr × Gr)) (g_X4_sum : Gr → Gr → Int32 → Option (Int32 × Gr × Gr)) (g_X4_term : Gr → Gr → Int32 → Option (Int32 × Gr × Gr)) (g_X4_factor : Gr → Gr → Int32 → Option (Int32 × Gr × Gr)) (S1 : Gr) (S2 : Gr) (x2 : Int32) : Option (Int32 × Gr × Gr) := (f_X9_peek S1).bind fun u1 => if u1 = 91 then (if x2 < 6 then ((f_X9_step S1).bind fun u14 => (g_X4_sum u14 S2 (x2 + 1)).bind fun u15 => if u15.1 = 0 then (some (0, u15.2.1, u15.2.2)) else ((f_X9_stepOver u15.2.1 93).bind fun u17 => if u17.1 = 0 then (some (0, u17.2, u15.2.2)) else (some (1, u17.2, u15.2.2)))) else ((f_X9_fail S1 5).bind fun u19 => zb' u19.1 (some (u19.1, u19.2, S2)))) else ((f_X9_isAt S1 48 57).bind fun u3 => if u3 = 0 then ((f_X9_peek S1).bind fun u5 => (f_X3_writeLetter S2 u5).bind fun u6 => if u6.1 = 0 then ((f_X9_fail S1 1).bind fun u9 => zb' u9.1 (some (u9.1, u9.2, u6.2))) else ((f_X9_step S1).bind fun u8 => some (1, u8, u6.2))) else ((f_X9_number S1 5).bind fun u10 => (f_X3_writeNumber S2 u10.1).bind fun u11 => if u10.1 = (-1) then (some (0, u10.2, u11)) else (some (1, u10.2, u11))))
set_option maxHeartbeats 4000000 in
set_option maxRecDepth 100000 in
theorem co_X4_factor (l : Launch) (E : Ec) (F Lc : Nat) (g_X4_condition : Gr → Gr → Int32 → Int32 → Option (Int32 × Gr × Gr)) (g_X4_test : Gr → Gr → Int32 → Option (Int32 × Gr × Gr)) (g_X4_sum : Gr → Gr → Int32 → Option (Int32 × Gr × Gr)) (g_X4_term : Gr → Gr → Int32 → Option (Int32 × Gr × Gr)) (g_X4_factor : Gr → Gr → Int32 → Option (Int32 × Gr × Gr)) (hg_X4_condition : ∀ (q0 q1 q2 : Nat → Nat) (sz : Nat) (S1 : Gr) (S2 : Gr) (x2 : Int32) (x3 : Int32) (Rv : Int32 × Gr × Gr), g_X4_condition S1 S2 x2 x3 = some Rv → Met l yX4_condition (wsM (.code yX4_condition cX4_condition 7 (some .boolean))) ({ frames := F, cells := 0, slots := 0, locals := Lc } : Room) (va_Pc [.ref (q0 0), .ref (q2 0), .int x2, .int x3] (ctP E (cw_X4 E q0 (q1 0) ++ (cw_X9 E q1 S1 ++ (cw_X3 E q2 S2))) sz)) (ctI E (cw_X4 E q0 (q1 0) ++ (cw_X9 E q1 S1 ++ (cw_X3 E q2 S2))) (cw_X4 E q0 (q1 0) ++ (cw_X9 E q1 Rv.2.1 ++ (cw_X3 E q2 Rv.2.2))) sz Rv.1) 0 0 (va_A (cw_X4 E q0 (q1 0) ++ (cw_X9 E q1 S1 ++ (cw_X3 E q2 S2))) sz)) (hg_X4_test : ∀ (q0 q1 q2 : Nat → Nat) (sz : Nat) (S1 : Gr) (S2 : Gr) (x2 : Int32) (Rv : Int32 × Gr × Gr), g_X4_test S1 S2 x2 = some Rv → Met l yX4_test (wsM (.code yX4_test cX4_test 5 (some .boolean))) ({ frames := F, cells := 0, slots := 0, locals := Lc } : Room) (va_Pc [.ref (q0 0), .ref (q2 0), .int x2] (ctP E (cw_X4 E q0 (q1 0) ++ (cw_X9 E q1 S1 ++ (cw_X3 E q2 S2))) sz)) (ctI E (cw_X4 E q0 (q1 0) ++ (cw_X9 E q1 S1 ++ (cw_X3 E q2 S2))) (cw_X4 E q0 (q1 0) ++ (cw_X9 E q1 Rv.2.1 ++ (cw_X3 E q2 Rv.2.2))) sz Rv.1) 0 0 (va_A (cw_X4 E q0 (q1 0) ++ (cw_X9 E q1 S1 ++ (cw_X3 E q2 S2))) sz)) (hg_X4_sum : ∀ (q0 q1 q2 : Nat → Nat) (sz : Nat) (S1 : Gr) (S2 : Gr) (x2 : Int32) (Rv : Int32 × Gr × Gr), g_X4_sum S1 S2 x2 = some Rv → Met l yX4_sum (wsM (.code yX4_sum cX4_sum 5 (some .boolean))) ({ frames := F, cells := 0, slots := 0, locals := Lc } : Room) (va_Pc [.ref (q0 0), .ref (q2 0), .int x2] (ctP E (cw_X4 E q0 (q1 0) ++ (cw_X9 E q1 S1 ++ (cw_X3 E q2 S2))) sz)) (ctI E (cw_X4 E q0 (q1 0) ++ (cw_X9 E q1 S1 ++ (cw_X3 E q2 S2))) (cw_X4 E q0 (q1 0) ++ (cw_X9 E q1 Rv.2.1 ++ (cw_X3 E q2 Rv.2.2))) sz Rv.1) 0 0 (va_A (cw_X4 E q0 (q1 0) ++ (cw_X9 E q1 S1 ++ (cw_X3 E q2 S2))) sz)) (hg_X4_term : ∀ (q0 q1 q2 : Nat → Nat) (sz : Nat) (S1 : Gr) (S2 : Gr) (x2 : Int32) (Rv : Int32 × Gr × Gr), g_X4_term S1 S2 x2 = some Rv → Met l yX4_term (wsM (.code yX4_term cX4_term 5 (some .boolean))) ({ frames := F, cells := 0, slots := 0, locals := Lc } : Room) (va_Pc [.ref (q0 0), .ref (q2 0), .int x2] (ctP E (cw_X4 E q0 (q1 0) ++ (cw_X9 E q1 S1 ++ (cw_X3 E q2 S2))) sz)) (ctI E (cw_X4 E q0 (q1 0) ++ (cw_X9 E q1 S1 ++ (cw_X3 E q2 S2))) (cw_X4 E q0 (q1 0) ++ (cw_X9 E q1 Rv.2.1 ++ (cw_X3 E q2 Rv.2.2))) sz Rv.1) 0 0 (va_A (cw_X4 E q0 (q1 0) ++ (cw_X9 E q1 S1 ++ (cw_X3 E q2 S2))) sz)) (hg_X4_factor : ∀ (q0 q1 q2 : Nat → Nat) (sz : Nat) (S1 : Gr) (S2 : Gr) (x2 : Int32) (Rv : Int32 × Gr × Gr), g_X4_factor S1 S2 x2 = some Rv → Met l yX4_factor (wsM (.code yX4_factor cX4_factor 4 (some .boolean))) ({ frames := F, cells := 0, slots := 0, locals := Lc } : Room) (va_Pc [.ref (q0 0), .ref (q2 0), .int x2] (ctP E (cw_X4 E q0 (q1 0) ++ (cw_X9 E q1 S1 ++ (cw_X3 E q2 S2))) sz)) (ctI E (cw_X4 E q0 (q1 0) ++ (cw_X9 E q1 S1 ++ (cw_X3 E q2 S2))) (cw_X4 E q0 (q1 0) ++ (cw_X9 E q1 Rv.2.1 ++ (cw_X3 E q2 Rv.2.2))) sz Rv.1) 0 0 (va_A (cw_X4 E q0 (q1 0) ++ (cw_X9 E q1 S1 ++ (cw_X3 E q2 S2))) sz)) (q0 q1 q2 : Nat → Nat) (sz : Nat) (S1 : Gr) (S2 : Gr) (x2 : Int32) (Rv : Int32 × Gr × Gr) (h : fo_X4_factor g_X4_condition g_X4_test g_X4_sum g_X4_term g_X4_factor S1 S2 x2 = some Rv) : Met l yX4_factor (wsM (.code yX4_factor cX4_factor 4 (some .boolean))) ({ frames := F + 10, cells := 0, slots := 0, locals := Lc + 300 } : Room) (va_Pc [.ref (q0 0), .ref (q2 0), .int x2] (ctP E (cw_X4 E q0 (q1 0) ++ (cw_X9 E q1 S1 ++ (cw_X3 E q2 S2))) sz)) (ctI E (cw_X4 E q0 (q1 0) ++ (cw_X9 E q1 S1 ++ (cw_X3 E q2 S2))) (cw_X4 E q0 (q1 0) ++ (cw_X9 E q1 Rv.2.1 ++ (cw_X3 E q2 Rv.2.2))) sz Rv.1) 0 0 (va_A (cw_X4 E q0 (q1 0) ++ (cw_X9 E q1 S1 ++ (cw_X3 E q2 S2))) sz) := by
  refine ct_metI (by decide) (Nat.le_of_ble_eq_true rfl) ?_
  intro p e s m ar below meth c A QM hx hb hml hown hg X hP hD hS RET ls hl
  have hown : s.vm.findClass RX4 = some m.cls := hown
  have hl : lv_has ls 4 [(0, .ref (q0 0)), (1, .ref (q2 0)), (2, .int x2)] := hl
  have RT : ∀ (v : Int32) (S1 : Gr) (S2 : Gr) (H : Heap) (locs : List Loc) (ls : Array Slot) (pc : Nat), some (v, S1, S2) = some Rv → narrow .boolean (.int v) = .int v → va_P E.1 vwCl (cw_X4 E q0 (q1 0) ++ (cw_X9 E q1 S1 ++ (cw_X3 E q2 S2))) H → va_D A (cw_X4 E q0 (q1 0) ++ (cw_X9 E q1 S1 ++ (cw_X3 E q2 S2))) → va_S A s.heap H locs → decode cX4_factor pc = .ok (.ireturn, 1) → W p l e ({ frames := F + 10, cells := 0, slots := 0, locals := Lc + 300 } : Room) s m ar below meth c H locs 0 0 QM (F0 m pc ls [.int v]) := by
    intro v S1 S2 H locs ls pc e hn hP hD hS d
    obtain rfl := sm_e e
    exact RET H locs pc ls hn hP hD hS d
  clear RET
  obtain ⟨H, eH⟩ : ∃ z, z = s.heap := ⟨_, rfl⟩
  rw [← eH]
  have hP : va_P E.1 vwCl (cw_X4 E q0 (q1 0) ++ (cw_X9 E q1 S1 ++ (cw_X3 E q2 S2))) H := by rw [eH]; exact hP
  have hS : va_S A s.heap H [] := by rw [eH]; exact hS
  clear eH
  obtain ⟨locs, el⟩ : ∃ z : List Loc, z = [] := ⟨_, rfl⟩
  rw [← el] at hS ⊢
  clear el
  refine lv_aload_n hx hb dX4_factor_0 rfl (lv_at hl 0 rfl) ?_
  refine va_get (D := E.1) (ci := 3) (v := .ref (q1 0)) (C := RX4) (T := TX4) (N := 1) hx hb hg in_X4 hown X.1 hP 0 rfl rfl 0 (by decide) (hg _ wf_X4_12) (fun _ h9 => h9) rfl dX4_factor_1 ?_
  obtain ⟨u1, hc, h⟩ := bd_el h
  have hC : ([1, 2] : List Nat).map (fun i => (cw_X4 E q0 (q1 0) ++ (cw_X9 E q1 S1 ++ (cw_X3 E q2 S2)))[i]?) = (cw_X9 E q1 S1).map some := rfl
  refine ct_iR X hP hD hS [1, 2] hC (va_runV (C := RX9) (As := []) (rest := []) ⟨hx, hb, hml, hown, hg⟩ (c_X9_peek l E q1 H.size S1 u1 hc) (cwV 0 hg (gwV wm_X4_35 wi_X9_peek wsl_X9_peek wini_X9 wco_X9_peek) rfl rfl rfl (by decide +kernel) ⟨by dsimp only; omega, by dsimp only; omega⟩) ⟨ct_blind, ct_rv X.1 hP 1 rfl rfl, ct_pre X hP hD hS [1, 2] (by decide) hC _⟩ rfl rfl hl.1 rfl (lv_room (Nat.le_of_ble_eq_true rfl)) dX4_factor_4 ⟨Nat.zero_le _, Nat.zero_le _⟩) (fun H locs hP hD hS => ?_)
  clear hC
  refine lv_bipush (v := 91) hx hb dX4_factor_7 (by decide) ?_
  refine lv_icmp_ne (tgt := 63) hx hb dX4_factor_9 (by decide) (fun c2 => ?_) (fun c2 => ?_)
  · have h := it_f h c2
    refine lv_aload_n hx hb dX4_factor_63 rfl (lv_at hl 0 rfl) ?_
    refine va_get (D := E.1) (ci := 3) (v := .ref (q1 0)) (C := RX4) (T := TX4) (N := 1) hx hb hg in_X4 hown X.1 hP 0 rfl rfl 0 (by decide) (hg _ wf_X4_12) (fun _ h9 => h9) rfl dX4_factor_64 ?_
    refine lv_bipush (v := 48) hx hb dX4_factor_67 (by decide) ?_
    refine lv_bipush (v := 57) hx hb dX4_factor_69 (by decide) ?_
    obtain ⟨u3, hc, h⟩ := bd_el h
    have hC : ([1, 2] : List Nat).map (fun i => (cw_X4 E q0 (q1 0) ++ (cw_X9 E q1 S1 ++ (cw_X3 E q2 S2)))[i]?) = (cw_X9 E q1 S1).map some := rfl
    refine ct_iR X hP hD hS [1, 2] hC (va_runV (C := RX9) (As := [.int 48, .int 57]) (rest := []) ⟨hx, hb, hml, hown, hg⟩ (c_X9_isAt l E q1 H.size S1 48 57 u3 hc) (cwV 2 hg (gwV wm_X4_92 wi_X9_isAt wsl_X9_isAt wini_X9 wco_X9_isAt) rfl rfl rfl (by decide +kernel) ⟨by dsimp only; omega, by dsimp only; omega⟩) ⟨ct_blind, ct_rv X.1 hP 1 rfl rfl, ct_pre X hP hD hS [1, 2] (by decide) hC _⟩ rfl rfl hl.1 rfl (lv_room (Nat.le_of_ble_eq_true rfl)) dX4_factor_71 ⟨Nat.zero_le _, Nat.zero_le _⟩) (fun H locs hP hD hS => ?_)
    clear hC
    refine lv_if_eq (tgt := 102) hx hb dX4_factor_74 (by decide) (fun c4 => ?_) (fun c4 => ?_)
    · have h := it_t h c4
      refine lv_aload_n hx hb dX4_factor_102 rfl (lv_at hl 1 rfl) ?_
      refine lv_aload_n hx hb dX4_factor_103 rfl (lv_at hl 0 rfl) ?_
      refine va_get (D := E.1) (ci := 3) (v := .ref (q1 0)) (C := RX4) (T := TX4) (N := 1) hx hb hg in_X4 hown X.1 hP 0 rfl rfl 0 (by decide) (hg _ wf_X4_12) (fun _ h9 => h9) rfl dX4_factor_104 ?_
      obtain ⟨u5, hc, h⟩ := bd_el h
      have hC : ([1, 2] : List Nat).map (fun i => (cw_X4 E q0 (q1 0) ++ (cw_X9 E q1 S1 ++ (cw_X3 E q2 S2)))[i]?) = (cw_X9 E q1 S1).map some := rfl
      refine ct_iR X hP hD hS [1, 2] hC (va_runV (C := RX9) (As := []) (rest := [.ref (q2 0)]) ⟨hx, hb, hml, hown, hg⟩ (c_X9_peek l E q1 H.size S1 u5 hc) (cwV 0 hg (gwV wm_X4_35 wi_X9_peek wsl_X9_peek wini_X9 wco_X9_peek) rfl rfl rfl (by decide +kernel) ⟨by dsimp only; omega, by dsimp only; omega⟩) ⟨ct_blind, ct_rv X.1 hP 1 rfl rfl, ct_pre X hP hD hS [1, 2] (by decide) hC _⟩ rfl rfl hl.1 rfl (lv_room (Nat.le_of_ble_eq_true rfl)) dX4_factor_107 ⟨Nat.zero_le _, Nat.zero_le _⟩) (fun H locs hP hD hS => ?_)
      clear hC
      obtain ⟨u6, hc, h⟩ := bd_el h
      have hC : ([3, 4, 5, 6, 7, 8, 9, 10] : List Nat).map (fun i => (cw_X4 E q0 (q1 0) ++ (cw_X9 E q1 S1 ++ (cw_X3 E q2 S2)))[i]?) = (cw_X3 E q2 S2).map some := rfl
      refine ct_i (ws' := cw_X4 E q0 (q1 0) ++ (cw_X9 E q1 S1 ++ (cw_X3 E q2 u6.2))) X hP hD hS [3, 4, 5, 6, 7, 8, 9, 10] (va_runV (C := RX3) (As := [.int u5]) (rest := []) ⟨hx, hb, hml, hown, hg⟩ (c_X3_writeLetter l E q2 H.size S2 u5 u6 hc) (cwV 1 hg (gwV wm_X4_103 wi_X3_writeLetter wsl_X3_writeLetter wini_X3 wco_X3_writeLetter) rfl rfl rfl (by decide +kernel) ⟨by dsimp only; omega, by dsimp only; omega⟩) ⟨ct_blind, ct_rv X.1 hP 3 rfl rfl, ct_pre X hP hD hS [3, 4, 5, 6, 7, 8, 9, 10] (by decide) hC _⟩ rfl rfl hl.1 rfl (lv_room (Nat.le_of_ble_eq_true rfl)) dX4_factor_110 ⟨Nat.zero_le _, Nat.zero_le _⟩) hC rfl rfl (fun H locs hP hD hS => ?_)
      clear hC
      refine lv_if_ne (tgt := 125) hx hb dX4_factor_113 (by decide) (fun c7 => ?_) (fun c7 => ?_)
      · have h := it_f h c7
        refine lv_aload_n hx hb dX4_factor_125 rfl (lv_at hl 0 rfl) ?_
        refine va_get (D := E.1) (ci := 3) (v := .ref (q1 0)) (C := RX4) (T := TX4) (N := 1) hx hb hg in_X4 hown X.1 hP 0 rfl rfl 0 (by decide) (hg _ wf_X4_12) (fun _ h9 => h9) rfl dX4_factor_126 ?_
        obtain ⟨u8, hc, h⟩ := bd_el h
        have hC : ([1, 2] : List Nat).map (fun i => (cw_X4 E q0 (q1 0) ++ (cw_X9 E q1 S1 ++ (cw_X3 E q2 u6.2)))[i]?) = (cw_X9 E q1 S1).map some := rfl
        refine ct_v (ws' := cw_X4 E q0 (q1 0) ++ (cw_X9 E q1 u8 ++ (cw_X3 E q2 u6.2))) X hP hD hS [1, 2] (va_runV (C := RX9) (As := []) (rest := []) ⟨hx, hb, hml, hown, hg⟩ (c_X9_step l E q1 H.size S1 u8 hc) (cwV 0 hg (gwV wm_X4_53 wi_X9_step wsl_X9_step wini_X9 wco_X9_step) rfl rfl rfl (by decide +kernel) ⟨by dsimp only; omega, by dsimp only; omega⟩) ⟨ct_blind, ct_rv X.1 hP 1 rfl rfl, ct_pre X hP hD hS [1, 2] (by decide) hC _⟩ rfl rfl hl.1 rfl (lv_room (Nat.le_of_ble_eq_true rfl)) dX4_factor_129 ⟨Nat.zero_le _, Nat.zero_le _⟩) hC rfl rfl (fun H locs hP hD hS => ?_)
        clear hC
        refine lv_iconst (v := 1) hx hb dX4_factor_132 (by decide) ?_
        exact RT 1 u8 u6.2 _ _ _ _ h (by decide +kernel) hP hD hS dX4_factor_133
      · have h := it_t h c7
        refine lv_aload_n hx hb dX4_factor_116 rfl (lv_at hl 0 rfl) ?_
        refine va_get (D := E.1) (ci := 3) (v := .ref (q1 0)) (C := RX4) (T := TX4) (N := 1) hx hb hg in_X4 hown X.1 hP 0 rfl rfl 0 (by decide) (hg _ wf_X4_12) (fun _ h9 => h9) rfl dX4_factor_117 ?_
        refine lv_iconst (v := 1) hx hb dX4_factor_120 (by decide) ?_
        obtain ⟨u9, hc, h⟩ := bd_el h
        have hC : ([1, 2] : List Nat).map (fun i => (cw_X4 E q0 (q1 0) ++ (cw_X9 E q1 S1 ++ (cw_X3 E q2 u6.2)))[i]?) = (cw_X9 E q1 S1).map some := rfl
        refine ct_i (ws' := cw_X4 E q0 (q1 0) ++ (cw_X9 E q1 u9.2 ++ (cw_X3 E q2 u6.2))) X hP hD hS [1, 2] (va_runV (C := RX9) (As := [.int 1]) (rest := []) ⟨hx, hb, hml, hown, hg⟩ (c_X9_fail l E q1 H.size S1 1 u9 hc) (cwV 1 hg (gwV wm_X4_46 wi_X9_fail wsl_X9_fail wini_X9 wco_X9_fail) rfl rfl rfl (by decide +kernel) ⟨by dsimp only; omega, by dsimp only; omega⟩) ⟨ct_blind, ct_rv X.1 hP 1 rfl rfl, ct_pre X hP hD hS [1, 2] (by decide) hC _⟩ rfl rfl hl.1 rfl (lv_room (Nat.le_of_ble_eq_true rfl)) dX4_factor_121 ⟨Nat.zero_le _, Nat.zero_le _⟩) hC rfl rfl (fun H locs hP hD hS => ?_)
        clear hC
        obtain ⟨hn1, -, h⟩ := zb_el h
        exact RT u9.1 u9.2 u6.2 _ _ _ _ h hn1 hP hD hS dX4_factor_124
    · have h := it_f h c4
      refine lv_aload_n hx hb dX4_factor_77 rfl (lv_at hl 0 rfl) ?_
      refine va_get (D := E.1) (ci := 3) (v := .ref (q1 0)) (C := RX4) (T := TX4) (N := 1) hx hb hg in_X4 hown X.1 hP 0 rfl rfl 0 (by decide) (hg _ wf_X4_12) (fun _ h9 => h9) rfl dX4_factor_78 ?_
      refine lv_iconst (v := 5) hx hb dX4_factor_81 (by decide) ?_
      obtain ⟨u10, hc, h⟩ := bd_el h
      have hC : ([1, 2] : List Nat).map (fun i => (cw_X4 E q0 (q1 0) ++ (cw_X9 E q1 S1 ++ (cw_X3 E q2 S2)))[i]?) = (cw_X9 E q1 S1).map some := rfl
      refine ct_i (ws' := cw_X4 E q0 (q1 0) ++ (cw_X9 E q1 u10.2 ++ (cw_X3 E q2 S2))) X hP hD hS [1, 2] (va_runV (C := RX9) (As := [.int 5]) (rest := []) ⟨hx, hb, hml, hown, hg⟩ (c_X9_number l E q1 H.size S1 5 u10 hc) (cwV 1 hg (gwV wm_X4_96 wi_X9_number wsl_X9_number wini_X9 wco_X9_number) rfl rfl rfl (by decide +kernel) ⟨by dsimp only; omega, by dsimp only; omega⟩) ⟨ct_blind, ct_rv X.1 hP 1 rfl rfl, ct_pre X hP hD hS [1, 2] (by decide) hC _⟩ rfl rfl hl.1 rfl (lv_room (Nat.le_of_ble_eq_true rfl)) dX4_factor_82 ⟨Nat.zero_le _, Nat.zero_le _⟩) hC rfl rfl (fun H locs hP hD hS => ?_)
      clear hC
      refine lv_istore_n (lv' := [(3, .int u10.1), (0, .ref (q0 0)), (1, .ref (q2 0)), (2, .int x2)]) hx hb dX4_factor_85 rfl hl (by decide) rfl (fun ls hl => ?_)
      refine lv_aload_n hx hb dX4_factor_86 rfl (lv_at hl 2 rfl) ?_
      refine lv_iload_n hx hb dX4_factor_87 rfl (lv_at hl 0 rfl) ?_
      obtain ⟨u11, hc, h⟩ := bd_el h
      have hC : ([3, 4, 5, 6, 7, 8, 9, 10] : List Nat).map (fun i => (cw_X4 E q0 (q1 0) ++ (cw_X9 E q1 u10.2 ++ (cw_X3 E q2 S2)))[i]?) = (cw_X3 E q2 S2).map some := rfl
      refine ct_v (ws' := cw_X4 E q0 (q1 0) ++ (cw_X9 E q1 u10.2 ++ (cw_X3 E q2 u11))) X hP hD hS [3, 4, 5, 6, 7, 8, 9, 10] (va_runV (C := RX3) (As := [.int u10.1]) (rest := []) ⟨hx, hb, hml, hown, hg⟩ (c_X3_writeNumber l E q2 H.size S2 u10.1 u11 hc) (cwV 1 hg (gwV wm_X4_100 wi_X3_writeNumber wsl_X3_writeNumber wini_X3 wco_X3_writeNumber) rfl rfl rfl (by decide +kernel) ⟨by dsimp only; omega, by dsimp only; omega⟩) ⟨ct_blind, ct_rv X.1 hP 3 rfl rfl, ct_pre X hP hD hS [3, 4, 5, 6, 7, 8, 9, 10] (by decide) hC _⟩ rfl rfl hl.1 rfl (lv_room (Nat.le_of_ble_eq_true rfl)) dX4_factor_88 ⟨Nat.zero_le _, Nat.zero_le _⟩) hC rfl rfl (fun H locs hP hD hS => ?_)
      clear hC
      refine lv_iload_n hx hb dX4_factor_91 rfl (lv_at hl 0 rfl) ?_
      refine lv_iconst (v := (-1)) hx hb dX4_factor_92 (by decide) ?_
      refine lv_icmp_eq (tgt := 100) hx hb dX4_factor_93 (by decide) (fun c12 => ?_) (fun c12 => ?_)
      · have h := it_t h c12
        refine lv_iconst (v := 0) hx hb dX4_factor_100 (by decide) ?_
        exact RT 0 u10.2 u11 _ _ _ _ h (by decide +kernel) hP hD hS dX4_factor_101
      · have h := it_f h c12
        refine lv_iconst (v := 1) hx hb dX4_factor_96 (by decide) ?_
        refine lv_goto (tgt := 101) hx hb dX4_factor_97 (by decide) ?_
        exact RT 1 u10.2 u11 _ _ _ _ h (by decide +kernel) hP hD hS dX4_factor_101
  · have h := it_t h c2
    refine lv_iload_n hx hb dX4_factor_12 rfl (lv_at hl 2 rfl) ?_
    refine lv_bipush (v := 6) hx hb dX4_factor_13 (by decide) ?_
    refine lv_icmp_lt (tgt := 27) hx hb dX4_factor_15 (by decide) (fun c13 => ?_) (fun c13 => ?_)
    · have h := it_t h c13
      refine lv_aload_n hx hb dX4_factor_27 rfl (lv_at hl 0 rfl) ?_
      refine va_get (D := E.1) (ci := 3) (v := .ref (q1 0)) (C := RX4) (T := TX4) (N := 1) hx hb hg in_X4 hown X.1 hP 0 rfl rfl 0 (by decide) (hg _ wf_X4_12) (fun _ h9 => h9) rfl dX4_factor_28 ?_
      obtain ⟨u14, hc, h⟩ := bd_el h
      have hC : ([1, 2] : List Nat).map (fun i => (cw_X4 E q0 (q1 0) ++ (cw_X9 E q1 S1 ++ (cw_X3 E q2 S2)))[i]?) = (cw_X9 E q1 S1).map some := rfl
      refine ct_v (ws' := cw_X4 E q0 (q1 0) ++ (cw_X9 E q1 u14 ++ (cw_X3 E q2 S2))) X hP hD hS [1, 2] (va_runV (C := RX9) (As := []) (rest := []) ⟨hx, hb, hml, hown, hg⟩ (c_X9_step l E q1 H.size S1 u14 hc) (cwV 0 hg (gwV wm_X4_53 wi_X9_step wsl_X9_step wini_X9 wco_X9_step) rfl rfl rfl (by decide +kernel) ⟨by dsimp only; omega, by dsimp only; omega⟩) ⟨ct_blind, ct_rv X.1 hP 1 rfl rfl, ct_pre X hP hD hS [1, 2] (by decide) hC _⟩ rfl rfl hl.1 rfl (lv_room (Nat.le_of_ble_eq_true rfl)) dX4_factor_31 ⟨Nat.zero_le _, Nat.zero_le _⟩) hC rfl rfl (fun H locs hP hD hS => ?_)
      clear hC
      refine lv_aload_n hx hb dX4_factor_34 rfl (lv_at hl 0 rfl) ?_
      refine lv_aload_n hx hb dX4_factor_35 rfl (lv_at hl 1 rfl) ?_
      refine lv_iload_n hx hb dX4_factor_36 rfl (lv_at hl 2 rfl) ?_
      refine lv_iconst (v := 1) hx hb dX4_factor_37 (by decide) ?_
      refine lv_iadd hx hb dX4_factor_38 ?_
      obtain ⟨u15, hc, h⟩ := bd_el h
      refine ct_iA (w1 := cw_X4 E q0 (q1 0) ++ (cw_X9 E q1 u15.2.1 ++ (cw_X3 E q2 u15.2.2))) X hP hD hS (va_runV (C := RX4) (As := [.ref (q2 0), .int (x2 + 1)]) (rest := []) ⟨hx, hb, hml, hown, hg⟩ (hg_X4_sum q0 q1 q2 H.size u14 S2 (x2 + 1) u15 hc) (cwV 2 hg (gwV wm_X4_60 wi_X4_sum wsl_X4_sum wini_X4 wco_X4_sum) rfl rfl rfl (by decide +kernel) ⟨by dsimp only; omega, by dsimp only; omega⟩) ⟨ct_blind, ct_rv X.1 hP 0 rfl rfl, ct_preA X hP hD hS _⟩ rfl rfl hl.1 rfl (lv_room (Nat.le_of_ble_eq_true rfl)) dX4_factor_39 ⟨Nat.zero_le _, Nat.zero_le _⟩) (fun H locs hP hD hS => ?_)
      refine lv_if_eq (tgt := 61) hx hb dX4_factor_42 (by decide) (fun c16 => ?_) (fun c16 => ?_)
      · have h := it_t h c16
        refine lv_iconst (v := 0) hx hb dX4_factor_61 (by decide) ?_
        exact RT 0 u15.2.1 u15.2.2 _ _ _ _ h (by decide +kernel) hP hD hS dX4_factor_62
      · have h := it_f h c16
        refine lv_aload_n hx hb dX4_factor_45 rfl (lv_at hl 0 rfl) ?_
        refine va_get (D := E.1) (ci := 3) (v := .ref (q1 0)) (C := RX4) (T := TX4) (N := 1) hx hb hg in_X4 hown X.1 hP 0 rfl rfl 0 (by decide) (hg _ wf_X4_12) (fun _ h9 => h9) rfl dX4_factor_46 ?_
        refine lv_bipush (v := 93) hx hb dX4_factor_49 (by decide) ?_
        obtain ⟨u17, hc, h⟩ := bd_el h
        have hC : ([1, 2] : List Nat).map (fun i => (cw_X4 E q0 (q1 0) ++ (cw_X9 E q1 u15.2.1 ++ (cw_X3 E q2 u15.2.2)))[i]?) = (cw_X9 E q1 u15.2.1).map some := rfl
        refine ct_i (ws' := cw_X4 E q0 (q1 0) ++ (cw_X9 E q1 u17.2 ++ (cw_X3 E q2 u15.2.2))) X hP hD hS [1, 2] (va_runV (C := RX9) (As := [.int 93]) (rest := []) ⟨hx, hb, hml, hown, hg⟩ (c_X9_stepOver l E q1 H.size u15.2.1 93 u17 hc) (cwV 1 hg (gwV wm_X4_42 wi_X9_stepOver wsl_X9_stepOver wini_X9 wco_X9_stepOver) rfl rfl rfl (by decide +kernel) ⟨by dsimp only; omega, by dsimp only; omega⟩) ⟨ct_blind, ct_rv X.1 hP 1 rfl rfl, ct_pre X hP hD hS [1, 2] (by decide) hC _⟩ rfl rfl hl.1 rfl (lv_room (Nat.le_of_ble_eq_true rfl)) dX4_factor_51 ⟨Nat.zero_le _, Nat.zero_le _⟩) hC rfl rfl (fun H locs hP hD hS => ?_)
        clear hC
        refine lv_if_eq (tgt := 61) hx hb dX4_factor_54 (by decide) (fun c18 => ?_) (fun c18 => ?_)
        · have h := it_t h c18
          refine lv_iconst (v := 0) hx hb dX4_factor_61 (by decide) ?_
          exact RT 0 u17.2 u15.2.2 _ _ _ _ h (by decide +kernel) hP hD hS dX4_factor_62
        · have h := it_f h c18
          refine lv_iconst (v := 1) hx hb dX4_factor_57 (by decide) ?_
          refine lv_goto (tgt := 62) hx hb dX4_factor_58 (by decide) ?_
          exact RT 1 u17.2 u15.2.2 _ _ _ _ h (by decide +kernel) hP hD hS dX4_factor_62
    · have h := it_f h c13
      refine lv_aload_n hx hb dX4_factor_18 rfl (lv_at hl 0 rfl) ?_
      refine va_get (D := E.1) (ci := 3) (v := .ref (q1 0)) (C := RX4) (T := TX4) (N := 1) hx hb hg in_X4 hown X.1 hP 0 rfl rfl 0 (by decide) (hg _ wf_X4_12) (fun _ h9 => h9) rfl dX4_factor_19 ?_
      refine lv_iconst (v := 5) hx hb dX4_factor_22 (by decide) ?_
      obtain ⟨u19, hc, h⟩ := bd_el h
      have hC : ([1, 2] : List Nat).map (fun i => (cw_X4 E q0 (q1 0) ++ (cw_X9 E q1 S1 ++ (cw_X3 E q2 S2)))[i]?) = (cw_X9 E q1 S1).map some := rfl
      refine ct_i (ws' := cw_X4 E q0 (q1 0) ++ (cw_X9 E q1 u19.2 ++ (cw_X3 E q2 S2))) X hP hD hS [1, 2] (va_runV (C := RX9) (As := [.int 5]) (rest := []) ⟨hx, hb, hml, hown, hg⟩ (c_X9_fail l E q1 H.size S1 5 u19 hc) (cwV 1 hg (gwV wm_X4_46 wi_X9_fail wsl_X9_fail wini_X9 wco_X9_fail) rfl rfl rfl (by decide +kernel) ⟨by dsimp only; omega, by dsimp only; omega⟩) ⟨ct_blind, ct_rv X.1 hP 1 rfl rfl, ct_pre X hP hD hS [1, 2] (by decide) hC _⟩ rfl rfl hl.1 rfl (lv_room (Nat.le_of_ble_eq_true rfl)) dX4_factor_23 ⟨Nat.zero_le _, Nat.zero_le _⟩) hC rfl rfl (fun H locs hP hD hS => ?_)
      clear hC
      obtain ⟨hn1, -, h⟩ := zb_el h
      exact RT u19.1 u19.2 S2 _ _ _ _ h hn1 hP hD hS dX4_factor_26
def kX4 : Nat → ((Gr → Gr → Int32 → Int32 → Option (Int32 × Gr × Gr)) × (Gr → Gr → Int32 → Option (Int32 × Gr × Gr)) × (Gr → Gr → Int32 → Option (Int32 × Gr × Gr)) × (Gr → Gr → Int32 → Option (Int32 × Gr × Gr)) × (Gr → Gr → Int32 → Option (Int32 × Gr × Gr)))
  | 0 => (fun _ _ _ _ => none, fun _ _ _ => none, fun _ _ _ => none, fun _ _ _ => none, fun _ _ _ => none)
  | d + 1 => (fo_X4_condition (kX4 d).1 (kX4 d).2.1 (kX4 d).2.2.1 (kX4 d).2.2.2.1 (kX4 d).2.2.2.2, fo_X4_test (kX4 d).1 (kX4 d).2.1 (kX4 d).2.2.1 (kX4 d).2.2.2.1 (kX4 d).2.2.2.2, fo_X4_sum (kX4 d).1 (kX4 d).2.1 (kX4 d).2.2.1 (kX4 d).2.2.2.1 (kX4 d).2.2.2.2, fo_X4_term (kX4 d).1 (kX4 d).2.1 (kX4 d).2.2.1 (kX4 d).2.2.2.1 (kX4 d).2.2.2.2, fo_X4_factor (kX4 d).1 (kX4 d).2.1 (kX4 d).2.2.1 (kX4 d).2.2.2.1 (kX4 d).2.2.2.2)
theorem kX4_met (l : Launch) (E : Ec) : ∀ d : Nat, (∀ (q0 q1 q2 : Nat → Nat) (sz : Nat) (S1 : Gr) (S2 : Gr) (x2 : Int32) (x3 : Int32) (Rv : Int32 × Gr × Gr), (kX4 d).1 S1 S2 x2 x3 = some Rv → Met l yX4_condition (wsM (.code yX4_condition cX4_condition 7 (some .boolean))) ({ frames := 10 * d + 10, cells := 0, slots := 0, locals := 300 * d + 300 } : Room) (va_Pc [.ref (q0 0), .ref (q2 0), .int x2, .int x3] (ctP E (cw_X4 E q0 (q1 0) ++ (cw_X9 E q1 S1 ++ (cw_X3 E q2 S2))) sz)) (ctI E (cw_X4 E q0 (q1 0) ++ (cw_X9 E q1 S1 ++ (cw_X3 E q2 S2))) (cw_X4 E q0 (q1 0) ++ (cw_X9 E q1 Rv.2.1 ++ (cw_X3 E q2 Rv.2.2))) sz Rv.1) 0 0 (va_A (cw_X4 E q0 (q1 0) ++ (cw_X9 E q1 S1 ++ (cw_X3 E q2 S2))) sz)) ∧ (∀ (q0 q1 q2 : Nat → Nat) (sz : Nat) (S1 : Gr) (S2 : Gr) (x2 : Int32) (Rv : Int32 × Gr × Gr), (kX4 d).2.1 S1 S2 x2 = some Rv → Met l yX4_test (wsM (.code yX4_test cX4_test 5 (some .boolean))) ({ frames := 10 * d + 10, cells := 0, slots := 0, locals := 300 * d + 300 } : Room) (va_Pc [.ref (q0 0), .ref (q2 0), .int x2] (ctP E (cw_X4 E q0 (q1 0) ++ (cw_X9 E q1 S1 ++ (cw_X3 E q2 S2))) sz)) (ctI E (cw_X4 E q0 (q1 0) ++ (cw_X9 E q1 S1 ++ (cw_X3 E q2 S2))) (cw_X4 E q0 (q1 0) ++ (cw_X9 E q1 Rv.2.1 ++ (cw_X3 E q2 Rv.2.2))) sz Rv.1) 0 0 (va_A (cw_X4 E q0 (q1 0) ++ (cw_X9 E q1 S1 ++ (cw_X3 E q2 S2))) sz)) ∧ (∀ (q0 q1 q2 : Nat → Nat) (sz : Nat) (S1 : Gr) (S2 : Gr) (x2 : Int32) (Rv : Int32 × Gr × Gr), (kX4 d).2.2.1 S1 S2 x2 = some Rv → Met l yX4_sum (wsM (.code yX4_sum cX4_sum 5 (some .boolean))) ({ frames := 10 * d + 10, cells := 0, slots := 0, locals := 300 * d + 300 } : Room) (va_Pc [.ref (q0 0), .ref (q2 0), .int x2] (ctP E (cw_X4 E q0 (q1 0) ++ (cw_X9 E q1 S1 ++ (cw_X3 E q2 S2))) sz)) (ctI E (cw_X4 E q0 (q1 0) ++ (cw_X9 E q1 S1 ++ (cw_X3 E q2 S2))) (cw_X4 E q0 (q1 0) ++ (cw_X9 E q1 Rv.2.1 ++ (cw_X3 E q2 Rv.2.2))) sz Rv.1) 0 0 (va_A (cw_X4 E q0 (q1 0) ++ (cw_X9 E q1 S1 ++ (cw_X3 E q2 S2))) sz)) ∧ (∀ (q0 q1 q2 : Nat → Nat) (sz : Nat) (S1 : Gr) (S2 : Gr) (x2 : Int32) (Rv : Int32 × Gr × Gr), (kX4 d).2.2.2.1 S1 S2 x2 = some Rv → Met l yX4_term (wsM (.code yX4_term cX4_term 5 (some .boolean))) ({ frames := 10 * d + 10, cells := 0, slots := 0, locals := 300 * d + 300 } : Room) (va_Pc [.ref (q0 0), .ref (q2 0), .int x2] (ctP E (cw_X4 E q0 (q1 0) ++ (cw_X9 E q1 S1 ++ (cw_X3 E q2 S2))) sz)) (ctI E (cw_X4 E q0 (q1 0) ++ (cw_X9 E q1 S1 ++ (cw_X3 E q2 S2))) (cw_X4 E q0 (q1 0) ++ (cw_X9 E q1 Rv.2.1 ++ (cw_X3 E q2 Rv.2.2))) sz Rv.1) 0 0 (va_A (cw_X4 E q0 (q1 0) ++ (cw_X9 E q1 S1 ++ (cw_X3 E q2 S2))) sz)) ∧ (∀ (q0 q1 q2 : Nat → Nat) (sz : Nat) (S1 : Gr) (S2 : Gr) (x2 : Int32) (Rv : Int32 × Gr × Gr), (kX4 d).2.2.2.2 S1 S2 x2 = some Rv → Met l yX4_factor (wsM (.code yX4_factor cX4_factor 4 (some .boolean))) ({ frames := 10 * d + 10, cells := 0, slots := 0, locals := 300 * d + 300 } : Room) (va_Pc [.ref (q0 0), .ref (q2 0), .int x2] (ctP E (cw_X4 E q0 (q1 0) ++ (cw_X9 E q1 S1 ++ (cw_X3 E q2 S2))) sz)) (ctI E (cw_X4 E q0 (q1 0) ++ (cw_X9 E q1 S1 ++ (cw_X3 E q2 S2))) (cw_X4 E q0 (q1 0) ++ (cw_X9 E q1 Rv.2.1 ++ (cw_X3 E q2 Rv.2.2))) sz Rv.1) 0 0 (va_A (cw_X4 E q0 (q1 0) ++ (cw_X9 E q1 S1 ++ (cw_X3 E q2 S2))) sz)) := by
  intro d
  induction d with
  | zero => exact ⟨fun _ _ _ _ _ _ _ _ _ h => nn_el h, fun _ _ _ _ _ _ _ _ h => nn_el h, fun _ _ _ _ _ _ _ _ h => nn_el h, fun _ _ _ _ _ _ _ _ h => nn_el h, fun _ _ _ _ _ _ _ _ h => nn_el h⟩
  | succ d ih =>
    obtain ⟨i0, i1, i2, i3, i4⟩ := ih
    refine ⟨?_, ?_, ?_, ?_, ?_⟩
    · intro a0 a1 a2 a3 a4 a5 a6 a7 a8 h
      exact co_X4_condition l E (10 * d + 10) (300 * d + 300) _ _ _ _ _ i0 i1 i2 i3 i4 a0 a1 a2 a3 a4 a5 a6 a7 a8 h
    · intro a0 a1 a2 a3 a4 a5 a6 a7 h
      exact co_X4_test l E (10 * d + 10) (300 * d + 300) _ _ _ _ _ i0 i1 i2 i3 i4 a0 a1 a2 a3 a4 a5 a6 a7 h
    · intro a0 a1 a2 a3 a4 a5 a6 a7 h
      exact co_X4_sum l E (10 * d + 10) (300 * d + 300) _ _ _ _ _ i0 i1 i2 i3 i4 a0 a1 a2 a3 a4 a5 a6 a7 h
    · intro a0 a1 a2 a3 a4 a5 a6 a7 h
      exact co_X4_term l E (10 * d + 10) (300 * d + 300) _ _ _ _ _ i0 i1 i2 i3 i4 a0 a1 a2 a3 a4 a5 a6 a7 h
    · intro a0 a1 a2 a3 a4 a5 a6 a7 h
      exact co_X4_factor l E (10 * d + 10) (300 * d + 300) _ _ _ _ _ i0 i1 i2 i3 i4 a0 a1 a2 a3 a4 a5 a6 a7 h
def f_X4_condition : Gr → Gr → Int32 → Int32 → Option (Int32 × Gr × Gr) := (kX4 60).1
theorem c_X4_condition (l : Launch) (E : Ec) : ∀ (q0 q1 q2 : Nat → Nat) (sz : Nat) (S1 : Gr) (S2 : Gr) (x2 : Int32) (x3 : Int32) (Rv : Int32 × Gr × Gr), f_X4_condition S1 S2 x2 x3 = some Rv → Met l yX4_condition (wsM (.code yX4_condition cX4_condition 7 (some .boolean))) ({ frames := 610, cells := 0, slots := 0, locals := 18300 } : Room) (va_Pc [.ref (q0 0), .ref (q2 0), .int x2, .int x3] (ctP E (cw_X4 E q0 (q1 0) ++ (cw_X9 E q1 S1 ++ (cw_X3 E q2 S2))) sz)) (ctI E (cw_X4 E q0 (q1 0) ++ (cw_X9 E q1 S1 ++ (cw_X3 E q2 S2))) (cw_X4 E q0 (q1 0) ++ (cw_X9 E q1 Rv.2.1 ++ (cw_X3 E q2 Rv.2.2))) sz Rv.1) 0 0 (va_A (cw_X4 E q0 (q1 0) ++ (cw_X9 E q1 S1 ++ (cw_X3 E q2 S2))) sz) := (kX4_met l E 60).1
def f_X4_test : Gr → Gr → Int32 → Option (Int32 × Gr × Gr) := (kX4 60).2.1
theorem c_X4_test (l : Launch) (E : Ec) : ∀ (q0 q1 q2 : Nat → Nat) (sz : Nat) (S1 : Gr) (S2 : Gr) (x2 : Int32) (Rv : Int32 × Gr × Gr), f_X4_test S1 S2 x2 = some Rv → Met l yX4_test (wsM (.code yX4_test cX4_test 5 (some .boolean))) ({ frames := 610, cells := 0, slots := 0, locals := 18300 } : Room) (va_Pc [.ref (q0 0), .ref (q2 0), .int x2] (ctP E (cw_X4 E q0 (q1 0) ++ (cw_X9 E q1 S1 ++ (cw_X3 E q2 S2))) sz)) (ctI E (cw_X4 E q0 (q1 0) ++ (cw_X9 E q1 S1 ++ (cw_X3 E q2 S2))) (cw_X4 E q0 (q1 0) ++ (cw_X9 E q1 Rv.2.1 ++ (cw_X3 E q2 Rv.2.2))) sz Rv.1) 0 0 (va_A (cw_X4 E q0 (q1 0) ++ (cw_X9 E q1 S1 ++ (cw_X3 E q2 S2))) sz) := (kX4_met l E 60).2.1
def f_X4_sum : Gr → Gr → Int32 → Option (Int32 × Gr × Gr) := (kX4 60).2.2.1
theorem c_X4_sum (l : Launch) (E : Ec) : ∀ (q0 q1 q2 : Nat → Nat) (sz : Nat) (S1 : Gr) (S2 : Gr) (x2 : Int32) (Rv : Int32 × Gr × Gr), f_X4_sum S1 S2 x2 = some Rv → Met l yX4_sum (wsM (.code yX4_sum cX4_sum 5 (some .boolean))) ({ frames := 610, cells := 0, slots := 0, locals := 18300 } : Room) (va_Pc [.ref (q0 0), .ref (q2 0), .int x2] (ctP E (cw_X4 E q0 (q1 0) ++ (cw_X9 E q1 S1 ++ (cw_X3 E q2 S2))) sz)) (ctI E (cw_X4 E q0 (q1 0) ++ (cw_X9 E q1 S1 ++ (cw_X3 E q2 S2))) (cw_X4 E q0 (q1 0) ++ (cw_X9 E q1 Rv.2.1 ++ (cw_X3 E q2 Rv.2.2))) sz Rv.1) 0 0 (va_A (cw_X4 E q0 (q1 0) ++ (cw_X9 E q1 S1 ++ (cw_X3 E q2 S2))) sz) := (kX4_met l E 60).2.2.1
def f_X4_term : Gr → Gr → Int32 → Option (Int32 × Gr × Gr) := (kX4 60).2.2.2.1
theorem c_X4_term (l : Launch) (E : Ec) : ∀ (q0 q1 q2 : Nat → Nat) (sz : Nat) (S1 : Gr) (S2 : Gr) (x2 : Int32) (Rv : Int32 × Gr × Gr), f_X4_term S1 S2 x2 = some Rv → Met l yX4_term (wsM (.code yX4_term cX4_term 5 (some .boolean))) ({ frames := 610, cells := 0, slots := 0, locals := 18300 } : Room) (va_Pc [.ref (q0 0), .ref (q2 0), .int x2] (ctP E (cw_X4 E q0 (q1 0) ++ (cw_X9 E q1 S1 ++ (cw_X3 E q2 S2))) sz)) (ctI E (cw_X4 E q0 (q1 0) ++ (cw_X9 E q1 S1 ++ (cw_X3 E q2 S2))) (cw_X4 E q0 (q1 0) ++ (cw_X9 E q1 Rv.2.1 ++ (cw_X3 E q2 Rv.2.2))) sz Rv.1) 0 0 (va_A (cw_X4 E q0 (q1 0) ++ (cw_X9 E q1 S1 ++ (cw_X3 E q2 S2))) sz) := (kX4_met l E 60).2.2.2.1
def f_X4_factor : Gr → Gr → Int32 → Option (Int32 × Gr × Gr) := (kX4 60).2.2.2.2
theorem c_X4_factor (l : Launch) (E : Ec) : ∀ (q0 q1 q2 : Nat → Nat) (sz : Nat) (S1 : Gr) (S2 : Gr) (x2 : Int32) (Rv : Int32 × Gr × Gr), f_X4_factor S1 S2 x2 = some Rv → Met l yX4_factor (wsM (.code yX4_factor cX4_factor 4 (some .boolean))) ({ frames := 610, cells := 0, slots := 0, locals := 18300 } : Room) (va_Pc [.ref (q0 0), .ref (q2 0), .int x2] (ctP E (cw_X4 E q0 (q1 0) ++ (cw_X9 E q1 S1 ++ (cw_X3 E q2 S2))) sz)) (ctI E (cw_X4 E q0 (q1 0) ++ (cw_X9 E q1 S1 ++ (cw_X3 E q2 S2))) (cw_X4 E q0 (q1 0) ++ (cw_X9 E q1 Rv.2.1 ++ (cw_X3 E q2 Rv.2.2))) sz Rv.1) 0 0 (va_A (cw_X4 E q0 (q1 0) ++ (cw_X9 E q1 S1 ++ (cw_X3 E q2 S2))) sz) := (kX4_met l E 60).2.2.2.2
theorem dX4_rule_0 : decode cX4_rule 0 = .ok (.aload_n 0, 1) := by decide +kernel
theorem dX4_rule_1 : decode cX4_rule 1 = .ok (.getfield 12, 3) := by decide +kernel
theorem dX4_rule_4 : decode cX4_rule 4 = .ok (.invokevirtual 35, 3) := by decide +kernel
theorem dX4_rule_7 : decode cX4_rule 7 = .ok (.istore_n 2, 1) := by decide +kernel
theorem dX4_rule_8 : decode cX4_rule 8 = .ok (.iload_n 2, 1) := by decide +kernel
theorem dX4_rule_9 : decode cX4_rule 9 = .ok (.bipush 116, 2) := by decide +kernel
theorem dX4_rule_11 : decode cX4_rule 11 = .ok (.if_icmp .eq 24, 3) := by decide +kernel
theorem dX4_rule_14 : decode cX4_rule 14 = .ok (.iload_n 2, 1) := by decide +kernel
theorem dX4_rule_15 : decode cX4_rule 15 = .ok (.bipush 109, 2) := by decide +kernel
theorem dX4_rule_17 : decode cX4_rule 17 = .ok (.if_icmp .eq 18, 3) := by decide +kernel
theorem dX4_rule_20 : decode cX4_rule 20 = .ok (.iload_n 2, 1) := by decide +kernel
theorem dX4_rule_21 : decode cX4_rule 21 = .ok (.bipush 120, 2) := by decide +kernel
theorem dX4_rule_23 : decode cX4_rule 23 = .ok (.if_icmp .eq 12, 3) := by decide +kernel
theorem dX4_rule_26 : decode cX4_rule 26 = .ok (.aload_n 0, 1) := by decide +kernel
theorem dX4_rule_27 : decode cX4_rule 27 = .ok (.getfield 12, 3) := by decide +kernel
theorem dX4_rule_30 : decode cX4_rule 30 = .ok (.iconst 1, 1) := by decide +kernel
theorem dX4_rule_31 : decode cX4_rule 31 = .ok (.invokevirtual 46, 3) := by decide +kernel
theorem dX4_rule_34 : decode cX4_rule 34 = .ok (.ireturn, 1) := by decide +kernel
theorem dX4_rule_35 : decode cX4_rule 35 = .ok (.aload_n 1, 1) := by decide +kernel
theorem dX4_rule_36 : decode cX4_rule 36 = .ok (.invokevirtual 49, 3) := by decide +kernel
theorem dX4_rule_39 : decode cX4_rule 39 = .ok (.ifCond .eq 12, 3) := by decide +kernel
theorem dX4_rule_42 : decode cX4_rule 42 = .ok (.aload_n 0, 1) := by decide +kernel
theorem dX4_rule_43 : decode cX4_rule 43 = .ok (.getfield 12, 3) := by decide +kernel
theorem dX4_rule_46 : decode cX4_rule 46 = .ok (.iconst 4, 1) := by decide +kernel
theorem dX4_rule_47 : decode cX4_rule 47 = .ok (.invokevirtual 46, 3) := by decide +kernel
theorem dX4_rule_50 : decode cX4_rule 50 = .ok (.ireturn, 1) := by decide +kernel
theorem dX4_rule_51 : decode cX4_rule 51 = .ok (.aload_n 0, 1) := by decide +kernel
theorem dX4_rule_52 : decode cX4_rule 52 = .ok (.getfield 12, 3) := by decide +kernel
theorem dX4_rule_55 : decode cX4_rule 55 = .ok (.invokevirtual 53, 3) := by decide +kernel
theorem dX4_rule_58 : decode cX4_rule 58 = .ok (.aload_n 1, 1) := by decide +kernel
theorem dX4_rule_59 : decode cX4_rule 59 = .ok (.iload_n 2, 1) := by decide +kernel
theorem dX4_rule_60 : decode cX4_rule 60 = .ok (.invokevirtual 56, 3) := by decide +kernel
theorem dX4_rule_63 : decode cX4_rule 63 = .ok (.iload_n 2, 1) := by decide +kernel
theorem dX4_rule_64 : decode cX4_rule 64 = .ok (.bipush 120, 2) := by decide +kernel
theorem dX4_rule_66 : decode cX4_rule 66 = .ok (.if_icmp .eq 18, 3) := by decide +kernel
theorem dX4_rule_69 : decode cX4_rule 69 = .ok (.aload_n 0, 1) := by decide +kernel
theorem dX4_rule_70 : decode cX4_rule 70 = .ok (.aload_n 1, 1) := by decide +kernel
theorem dX4_rule_71 : decode cX4_rule 71 = .ok (.iconst 0, 1) := by decide +kernel
theorem dX4_rule_72 : decode cX4_rule 72 = .ok (.invokevirtual 60, 3) := by decide +kernel
theorem dX4_rule_75 : decode cX4_rule 75 = .ok (.ifCond .ne 5, 3) := by decide +kernel
theorem dX4_rule_78 : decode cX4_rule 78 = .ok (.iconst 0, 1) := by decide +kernel
theorem dX4_rule_79 : decode cX4_rule 79 = .ok (.ireturn, 1) := by decide +kernel
theorem dX4_rule_80 : decode cX4_rule 80 = .ok (.aload_n 1, 1) := by decide +kernel
theorem dX4_rule_81 : decode cX4_rule 81 = .ok (.invokevirtual 64, 3) := by decide +kernel
theorem dX4_rule_84 : decode cX4_rule 84 = .ok (.aload_n 0, 1) := by decide +kernel
theorem dX4_rule_85 : decode cX4_rule 85 = .ok (.getfield 12, 3) := by decide +kernel
theorem dX4_rule_88 : decode cX4_rule 88 = .ok (.bipush 40, 2) := by decide +kernel
theorem dX4_rule_90 : decode cX4_rule 90 = .ok (.invokevirtual 42, 3) := by decide +kernel
theorem dX4_rule_93 : decode cX4_rule 93 = .ok (.ifCond .eq 26, 3) := by decide +kernel
theorem dX4_rule_96 : decode cX4_rule 96 = .ok (.aload_n 0, 1) := by decide +kernel
theorem dX4_rule_97 : decode cX4_rule 97 = .ok (.aload_n 1, 1) := by decide +kernel
theorem dX4_rule_98 : decode cX4_rule 98 = .ok (.iconst 1, 1) := by decide +kernel
theorem dX4_rule_99 : decode cX4_rule 99 = .ok (.bipush 124, 2) := by decide +kernel
theorem dX4_rule_101 : decode cX4_rule 101 = .ok (.invokevirtual 67, 3) := by decide +kernel
theorem dX4_rule_104 : decode cX4_rule 104 = .ok (.ifCond .eq 15, 3) := by decide +kernel
theorem dX4_rule_107 : decode cX4_rule 107 = .ok (.aload_n 0, 1) := by decide +kernel
theorem dX4_rule_108 : decode cX4_rule 108 = .ok (.getfield 12, 3) := by decide +kernel
theorem dX4_rule_111 : decode cX4_rule 111 = .ok (.bipush 41, 2) := by decide +kernel
theorem dX4_rule_113 : decode cX4_rule 113 = .ok (.invokevirtual 42, 3) := by decide +kernel
theorem dX4_rule_116 : decode cX4_rule 116 = .ok (.ifCond .ne 5, 3) := by decide +kernel
theorem dX4_rule_119 : decode cX4_rule 119 = .ok (.iconst 0, 1) := by decide +kernel
theorem dX4_rule_120 : decode cX4_rule 120 = .ok (.ireturn, 1) := by decide +kernel
theorem dX4_rule_121 : decode cX4_rule 121 = .ok (.aload_n 1, 1) := by decide +kernel
theorem dX4_rule_122 : decode cX4_rule 122 = .ok (.invokevirtual 71, 3) := by decide +kernel
theorem dX4_rule_125 : decode cX4_rule 125 = .ok (.iconst 1, 1) := by decide +kernel
theorem dX4_rule_126 : decode cX4_rule 126 = .ok (.ireturn, 1) := by decide +kernel
def f_X4_rule_n84  (S1 : Gr) (S2 : Gr) : Option (Int32 × Gr × Gr) := (f_X9_stepOver S1 40).bind fun u15 => if u15.1 = 0 then (some (0, u15.2, S2)) else ((f_X4_condition u15.2 S2 1 124).bind fun u17 => if u17.1 = 0 then (some (0, u17.2.1, u17.2.2)) else ((f_X9_stepOver u17.2.1 41).bind fun u19 => if u19.1 = 0 then (some (0, u19.2, u17.2.2)) else ((f_X3_endRule u17.2.2).bind fun u21 => some (1, u19.2, u21))))
def f_X4_rule_n35  (S1 : Gr) (S2 : Gr) (x2 : Int32) : Option (Int32 × Gr × Gr) := (f_X3_isFull S2).bind fun u6 => if u6 = 0 then ((f_X9_step S1).bind fun u8 => (f_X3_beginRule S2 x2).bind fun u9 => if x2 = 120 then (f_X4_rule_n84 u8 u9) else ((f_X4_sum u8 u9 0).bind fun u11 => if u11.1 = 0 then (some (0, u11.2.1, u11.2.2)) else ((f_X3_endWorth u11.2.2).bind fun u13 => f_X4_rule_n84 u11.2.1 u13))) else ((f_X9_fail S1 4).bind fun u14 => zb' u14.1 (some (u14.1, u14.2, S2)))
def f_X4_rule (S1 : Gr) (S2 : Gr) : Option (Int32 × Gr × Gr) := (f_X9_peek S1).bind fun u1 => if u1 = 116 then (f_X4_rule_n35 S1 S2 u1) else (if u1 = 109 then (f_X4_rule_n35 S1 S2 u1) else (if u1 = 120 then (f_X4_rule_n35 S1 S2 u1) else ((f_X9_fail S1 1).bind fun u5 => zb' u5.1 (some (u5.1, u5.2, S2)))))
set_option maxHeartbeats 4000000 in
set_option maxRecDepth 100000 in
theorem c_X4_rule (l : Launch) (E : Ec) (q0 q1 q2 : Nat → Nat) (sz : Nat) (S1 : Gr) (S2 : Gr) (Rv : Int32 × Gr × Gr) (h : f_X4_rule S1 S2 = some Rv) : Met l yX4_rule (wsM (.code yX4_rule cX4_rule 3 (some .boolean))) ({ frames := 611, cells := 0, slots := 0, locals := 18326 } : Room) (va_Pc [.ref (q0 0), .ref (q2 0)] (ctP E (cw_X4 E q0 (q1 0) ++ (cw_X9 E q1 S1 ++ (cw_X3 E q2 S2))) sz)) (ctI E (cw_X4 E q0 (q1 0) ++ (cw_X9 E q1 S1 ++ (cw_X3 E q2 S2))) (cw_X4 E q0 (q1 0) ++ (cw_X9 E q1 Rv.2.1 ++ (cw_X3 E q2 Rv.2.2))) sz Rv.1) 0 0 (va_A (cw_X4 E q0 (q1 0) ++ (cw_X9 E q1 S1 ++ (cw_X3 E q2 S2))) sz) := by
  refine ct_metI (by decide) (Nat.le_of_ble_eq_true rfl) ?_
  intro p e s m ar below meth c A QM hx hb hml hown hg X hP hD hS RET ls hl
  have hown : s.vm.findClass RX4 = some m.cls := hown
  have hl : lv_has ls 3 [(0, .ref (q0 0)), (1, .ref (q2 0))] := hl
  have RT : ∀ (v : Int32) (S1 : Gr) (S2 : Gr) (H : Heap) (locs : List Loc) (ls : Array Slot) (pc : Nat), some (v, S1, S2) = some Rv → narrow .boolean (.int v) = .int v → va_P E.1 vwCl (cw_X4 E q0 (q1 0) ++ (cw_X9 E q1 S1 ++ (cw_X3 E q2 S2))) H → va_D A (cw_X4 E q0 (q1 0) ++ (cw_X9 E q1 S1 ++ (cw_X3 E q2 S2))) → va_S A s.heap H locs → decode cX4_rule pc = .ok (.ireturn, 1) → W p l e ({ frames := 611, cells := 0, slots := 0, locals := 18326 } : Room) s m ar below meth c H locs 0 0 QM (F0 m pc ls [.int v]) := by
    intro v S1 S2 H locs ls pc e hn hP hD hS d
    obtain rfl := sm_e e
    exact RET H locs pc ls hn hP hD hS d
  clear RET
  have N84 : ∀ (S1 : Gr) (S2 : Gr) (H : Heap) (locs : List Loc) (ls : Array Slot), f_X4_rule_n84 S1 S2 = some Rv → va_P E.1 vwCl (cw_X4 E q0 (q1 0) ++ (cw_X9 E q1 S1 ++ (cw_X3 E q2 S2))) H → va_D A (cw_X4 E q0 (q1 0) ++ (cw_X9 E q1 S1 ++ (cw_X3 E q2 S2))) → va_S A s.heap H locs → lv_has ls 3 [(0, .ref (q0 0)), (1, .ref (q2 0))] → W p l e ({ frames := 611, cells := 0, slots := 0, locals := 18326 } : Room) s m ar below meth c H locs 0 0 QM (F0 m 84 ls []) := by
    intro S1 S2 H locs ls h hP hD hS hl
    refine lv_aload_n hx hb dX4_rule_84 rfl (lv_at hl 0 rfl) ?_
    refine va_get (D := E.1) (ci := 3) (v := .ref (q1 0)) (C := RX4) (T := TX4) (N := 1) hx hb hg in_X4 hown X.1 hP 0 rfl rfl 0 (by decide) (hg _ wf_X4_12) (fun _ h9 => h9) rfl dX4_rule_85 ?_
    refine lv_bipush (v := 40) hx hb dX4_rule_88 (by decide) ?_
    obtain ⟨u15, hc, h⟩ := bd_el h
    have hC : ([1, 2] : List Nat).map (fun i => (cw_X4 E q0 (q1 0) ++ (cw_X9 E q1 S1 ++ (cw_X3 E q2 S2)))[i]?) = (cw_X9 E q1 S1).map some := rfl
    refine ct_i (ws' := cw_X4 E q0 (q1 0) ++ (cw_X9 E q1 u15.2 ++ (cw_X3 E q2 S2))) X hP hD hS [1, 2] (va_runV (C := RX9) (As := [.int 40]) (rest := []) ⟨hx, hb, hml, hown, hg⟩ (c_X9_stepOver l E q1 H.size S1 40 u15 hc) (cwV 1 hg (gwV wm_X4_42 wi_X9_stepOver wsl_X9_stepOver wini_X9 wco_X9_stepOver) rfl rfl rfl (by decide +kernel) ⟨Nat.le_of_ble_eq_true rfl, Nat.le_of_ble_eq_true rfl⟩) ⟨ct_blind, ct_rv X.1 hP 1 rfl rfl, ct_pre X hP hD hS [1, 2] (by decide) hC _⟩ rfl rfl hl.1 rfl (lv_room (Nat.le_of_ble_eq_true rfl)) dX4_rule_90 ⟨Nat.zero_le _, Nat.zero_le _⟩) hC rfl rfl (fun H locs hP hD hS => ?_)
    clear hC
    refine lv_if_eq (tgt := 119) hx hb dX4_rule_93 (by decide) (fun c16 => ?_) (fun c16 => ?_)
    · have h := it_t h c16
      refine lv_iconst (v := 0) hx hb dX4_rule_119 (by decide) ?_
      exact RT 0 u15.2 S2 _ _ _ _ h (by decide +kernel) hP hD hS dX4_rule_120
    · have h := it_f h c16
      refine lv_aload_n hx hb dX4_rule_96 rfl (lv_at hl 0 rfl) ?_
      refine lv_aload_n hx hb dX4_rule_97 rfl (lv_at hl 1 rfl) ?_
      refine lv_iconst (v := 1) hx hb dX4_rule_98 (by decide) ?_
      refine lv_bipush (v := 124) hx hb dX4_rule_99 (by decide) ?_
      obtain ⟨u17, hc, h⟩ := bd_el h
      refine ct_iA (w1 := cw_X4 E q0 (q1 0) ++ (cw_X9 E q1 u17.2.1 ++ (cw_X3 E q2 u17.2.2))) X hP hD hS (va_runV (C := RX4) (As := [.ref (q2 0), .int 1, .int 124]) (rest := []) ⟨hx, hb, hml, hown, hg⟩ (c_X4_condition l E q0 q1 q2 H.size u15.2 S2 1 124 u17 hc) (cwV 3 hg (gwV wm_X4_67 wi_X4_condition wsl_X4_condition wini_X4 wco_X4_condition) rfl rfl rfl (by decide +kernel) ⟨Nat.le_of_ble_eq_true rfl, Nat.le_of_ble_eq_true rfl⟩) ⟨ct_blind, ct_rv X.1 hP 0 rfl rfl, ct_preA X hP hD hS _⟩ rfl rfl hl.1 rfl (lv_room (Nat.le_of_ble_eq_true rfl)) dX4_rule_101 ⟨Nat.zero_le _, Nat.zero_le _⟩) (fun H locs hP hD hS => ?_)
      refine lv_if_eq (tgt := 119) hx hb dX4_rule_104 (by decide) (fun c18 => ?_) (fun c18 => ?_)
      · have h := it_t h c18
        refine lv_iconst (v := 0) hx hb dX4_rule_119 (by decide) ?_
        exact RT 0 u17.2.1 u17.2.2 _ _ _ _ h (by decide +kernel) hP hD hS dX4_rule_120
      · have h := it_f h c18
        refine lv_aload_n hx hb dX4_rule_107 rfl (lv_at hl 0 rfl) ?_
        refine va_get (D := E.1) (ci := 3) (v := .ref (q1 0)) (C := RX4) (T := TX4) (N := 1) hx hb hg in_X4 hown X.1 hP 0 rfl rfl 0 (by decide) (hg _ wf_X4_12) (fun _ h9 => h9) rfl dX4_rule_108 ?_
        refine lv_bipush (v := 41) hx hb dX4_rule_111 (by decide) ?_
        obtain ⟨u19, hc, h⟩ := bd_el h
        have hC : ([1, 2] : List Nat).map (fun i => (cw_X4 E q0 (q1 0) ++ (cw_X9 E q1 u17.2.1 ++ (cw_X3 E q2 u17.2.2)))[i]?) = (cw_X9 E q1 u17.2.1).map some := rfl
        refine ct_i (ws' := cw_X4 E q0 (q1 0) ++ (cw_X9 E q1 u19.2 ++ (cw_X3 E q2 u17.2.2))) X hP hD hS [1, 2] (va_runV (C := RX9) (As := [.int 41]) (rest := []) ⟨hx, hb, hml, hown, hg⟩ (c_X9_stepOver l E q1 H.size u17.2.1 41 u19 hc) (cwV 1 hg (gwV wm_X4_42 wi_X9_stepOver wsl_X9_stepOver wini_X9 wco_X9_stepOver) rfl rfl rfl (by decide +kernel) ⟨Nat.le_of_ble_eq_true rfl, Nat.le_of_ble_eq_true rfl⟩) ⟨ct_blind, ct_rv X.1 hP 1 rfl rfl, ct_pre X hP hD hS [1, 2] (by decide) hC _⟩ rfl rfl hl.1 rfl (lv_room (Nat.le_of_ble_eq_true rfl)) dX4_rule_113 ⟨Nat.zero_le _, Nat.zero_le _⟩) hC rfl rfl (fun H locs hP hD hS => ?_)
        clear hC
        refine lv_if_ne (tgt := 121) hx hb dX4_rule_116 (by decide) (fun c20 => ?_) (fun c20 => ?_)
        · have h := it_f h c20
          refine lv_aload_n hx hb dX4_rule_121 rfl (lv_at hl 1 rfl) ?_
          obtain ⟨u21, hc, h⟩ := bd_el h
          have hC : ([3, 4, 5, 6, 7, 8, 9, 10] : List Nat).map (fun i => (cw_X4 E q0 (q1 0) ++ (cw_X9 E q1 u19.2 ++ (cw_X3 E q2 u17.2.2)))[i]?) = (cw_X3 E q2 u17.2.2).map some := rfl
          refine ct_v (ws' := cw_X4 E q0 (q1 0) ++ (cw_X9 E q1 u19.2 ++ (cw_X3 E q2 u21))) X hP hD hS [3, 4, 5, 6, 7, 8, 9, 10] (va_runV (C := RX3) (As := []) (rest := []) ⟨hx, hb, hml, hown, hg⟩ (c_X3_endRule l E q2 H.size u17.2.2 u21 hc) (cwV 0 hg (gwV wm_X4_71 wi_X3_endRule wsl_X3_endRule wini_X3 wco_X3_endRule) rfl rfl rfl (by decide +kernel) ⟨Nat.le_of_ble_eq_true rfl, Nat.le_of_ble_eq_true rfl⟩) ⟨ct_blind, ct_rv X.1 hP 3 rfl rfl, ct_pre X hP hD hS [3, 4, 5, 6, 7, 8, 9, 10] (by decide) hC _⟩ rfl rfl hl.1 rfl (lv_room (Nat.le_of_ble_eq_true rfl)) dX4_rule_122 ⟨Nat.zero_le _, Nat.zero_le _⟩) hC rfl rfl (fun H locs hP hD hS => ?_)
          clear hC
          refine lv_iconst (v := 1) hx hb dX4_rule_125 (by decide) ?_
          exact RT 1 u19.2 u21 _ _ _ _ h (by decide +kernel) hP hD hS dX4_rule_126
        · have h := it_t h c20
          refine lv_iconst (v := 0) hx hb dX4_rule_119 (by decide) ?_
          exact RT 0 u19.2 u17.2.2 _ _ _ _ h (by decide +kernel) hP hD hS dX4_rule_120
  have N35 : ∀ (S1 : Gr) (S2 : Gr) (x2 : Int32) (H : Heap) (locs : List Loc) (ls : Array Slot), f_X4_rule_n35 S1 S2 x2 = some Rv → va_P E.1 vwCl (cw_X4 E q0 (q1 0) ++ (cw_X9 E q1 S1 ++ (cw_X3 E q2 S2))) H → va_D A (cw_X4 E q0 (q1 0) ++ (cw_X9 E q1 S1 ++ (cw_X3 E q2 S2))) → va_S A s.heap H locs → lv_has ls 3 [(0, .ref (q0 0)), (1, .ref (q2 0)), (2, .int x2)] → W p l e ({ frames := 611, cells := 0, slots := 0, locals := 18326 } : Room) s m ar below meth c H locs 0 0 QM (F0 m 35 ls []) := by
    intro S1 S2 x2 H locs ls h hP hD hS hl
    refine lv_aload_n hx hb dX4_rule_35 rfl (lv_at hl 1 rfl) ?_
    obtain ⟨u6, hc, h⟩ := bd_el h
    have hC : ([3, 4, 5, 6, 7, 8, 9, 10] : List Nat).map (fun i => (cw_X4 E q0 (q1 0) ++ (cw_X9 E q1 S1 ++ (cw_X3 E q2 S2)))[i]?) = (cw_X3 E q2 S2).map some := rfl
    refine ct_iR X hP hD hS [3, 4, 5, 6, 7, 8, 9, 10] hC (va_runV (C := RX3) (As := []) (rest := []) ⟨hx, hb, hml, hown, hg⟩ (c_X3_isFull l E q2 H.size S2 u6 hc) (cwV 0 hg (gwV wm_X4_49 wi_X3_isFull wsl_X3_isFull wini_X3 wco_X3_isFull) rfl rfl rfl (by decide +kernel) ⟨Nat.le_of_ble_eq_true rfl, Nat.le_of_ble_eq_true rfl⟩) ⟨ct_blind, ct_rv X.1 hP 3 rfl rfl, ct_pre X hP hD hS [3, 4, 5, 6, 7, 8, 9, 10] (by decide) hC _⟩ rfl rfl hl.1 rfl (lv_room (Nat.le_of_ble_eq_true rfl)) dX4_rule_36 ⟨Nat.zero_le _, Nat.zero_le _⟩) (fun H locs hP hD hS => ?_)
    clear hC
    refine lv_if_eq (tgt := 51) hx hb dX4_rule_39 (by decide) (fun c7 => ?_) (fun c7 => ?_)
    · have h := it_t h c7
      refine lv_aload_n hx hb dX4_rule_51 rfl (lv_at hl 0 rfl) ?_
      refine va_get (D := E.1) (ci := 3) (v := .ref (q1 0)) (C := RX4) (T := TX4) (N := 1) hx hb hg in_X4 hown X.1 hP 0 rfl rfl 0 (by decide) (hg _ wf_X4_12) (fun _ h9 => h9) rfl dX4_rule_52 ?_
      obtain ⟨u8, hc, h⟩ := bd_el h
      have hC : ([1, 2] : List Nat).map (fun i => (cw_X4 E q0 (q1 0) ++ (cw_X9 E q1 S1 ++ (cw_X3 E q2 S2)))[i]?) = (cw_X9 E q1 S1).map some := rfl
      refine ct_v (ws' := cw_X4 E q0 (q1 0) ++ (cw_X9 E q1 u8 ++ (cw_X3 E q2 S2))) X hP hD hS [1, 2] (va_runV (C := RX9) (As := []) (rest := []) ⟨hx, hb, hml, hown, hg⟩ (c_X9_step l E q1 H.size S1 u8 hc) (cwV 0 hg (gwV wm_X4_53 wi_X9_step wsl_X9_step wini_X9 wco_X9_step) rfl rfl rfl (by decide +kernel) ⟨Nat.le_of_ble_eq_true rfl, Nat.le_of_ble_eq_true rfl⟩) ⟨ct_blind, ct_rv X.1 hP 1 rfl rfl, ct_pre X hP hD hS [1, 2] (by decide) hC _⟩ rfl rfl hl.1 rfl (lv_room (Nat.le_of_ble_eq_true rfl)) dX4_rule_55 ⟨Nat.zero_le _, Nat.zero_le _⟩) hC rfl rfl (fun H locs hP hD hS => ?_)
      clear hC
      refine lv_aload_n hx hb dX4_rule_58 rfl (lv_at hl 1 rfl) ?_
      refine lv_iload_n hx hb dX4_rule_59 rfl (lv_at hl 2 rfl) ?_
      obtain ⟨u9, hc, h⟩ := bd_el h
      have hC : ([3, 4, 5, 6, 7, 8, 9, 10] : List Nat).map (fun i => (cw_X4 E q0 (q1 0) ++ (cw_X9 E q1 u8 ++ (cw_X3 E q2 S2)))[i]?) = (cw_X3 E q2 S2).map some := rfl
      refine ct_v (ws' := cw_X4 E q0 (q1 0) ++ (cw_X9 E q1 u8 ++ (cw_X3 E q2 u9))) X hP hD hS [3, 4, 5, 6, 7, 8, 9, 10] (va_runV (C := RX3) (As := [.int x2]) (rest := []) ⟨hx, hb, hml, hown, hg⟩ (c_X3_beginRule l E q2 H.size S2 x2 u9 hc) (cwV 1 hg (gwV wm_X4_56 wi_X3_beginRule wsl_X3_beginRule wini_X3 wco_X3_beginRule) rfl rfl rfl (by decide +kernel) ⟨Nat.le_of_ble_eq_true rfl, Nat.le_of_ble_eq_true rfl⟩) ⟨ct_blind, ct_rv X.1 hP 3 rfl rfl, ct_pre X hP hD hS [3, 4, 5, 6, 7, 8, 9, 10] (by decide) hC _⟩ rfl rfl hl.1 rfl (lv_room (Nat.le_of_ble_eq_true rfl)) dX4_rule_60 ⟨Nat.zero_le _, Nat.zero_le _⟩) hC rfl rfl (fun H locs hP hD hS => ?_)
      clear hC
      refine lv_iload_n hx hb dX4_rule_63 rfl (lv_at hl 2 rfl) ?_
      refine lv_bipush (v := 120) hx hb dX4_rule_64 (by decide) ?_
      refine lv_icmp_eq (tgt := 84) hx hb dX4_rule_66 (by decide) (fun c10 => ?_) (fun c10 => ?_)
      · have h := it_t h c10
        exact N84  u8 u9 _ _ _ h hP hD hS (lv_sub hl [0, 1] rfl)
      · have h := it_f h c10
        refine lv_aload_n hx hb dX4_rule_69 rfl (lv_at hl 0 rfl) ?_
        refine lv_aload_n hx hb dX4_rule_70 rfl (lv_at hl 1 rfl) ?_
        refine lv_iconst (v := 0) hx hb dX4_rule_71 (by decide) ?_
        obtain ⟨u11, hc, h⟩ := bd_el h
        refine ct_iA (w1 := cw_X4 E q0 (q1 0) ++ (cw_X9 E q1 u11.2.1 ++ (cw_X3 E q2 u11.2.2))) X hP hD hS (va_runV (C := RX4) (As := [.ref (q2 0), .int 0]) (rest := []) ⟨hx, hb, hml, hown, hg⟩ (c_X4_sum l E q0 q1 q2 H.size u8 u9 0 u11 hc) (cwV 2 hg (gwV wm_X4_60 wi_X4_sum wsl_X4_sum wini_X4 wco_X4_sum) rfl rfl rfl (by decide +kernel) ⟨Nat.le_of_ble_eq_true rfl, Nat.le_of_ble_eq_true rfl⟩) ⟨ct_blind, ct_rv X.1 hP 0 rfl rfl, ct_preA X hP hD hS _⟩ rfl rfl hl.1 rfl (lv_room (Nat.le_of_ble_eq_true rfl)) dX4_rule_72 ⟨Nat.zero_le _, Nat.zero_le _⟩) (fun H locs hP hD hS => ?_)
        refine lv_if_ne (tgt := 80) hx hb dX4_rule_75 (by decide) (fun c12 => ?_) (fun c12 => ?_)
        · have h := it_f h c12
          refine lv_aload_n hx hb dX4_rule_80 rfl (lv_at hl 1 rfl) ?_
          obtain ⟨u13, hc, h⟩ := bd_el h
          have hC : ([3, 4, 5, 6, 7, 8, 9, 10] : List Nat).map (fun i => (cw_X4 E q0 (q1 0) ++ (cw_X9 E q1 u11.2.1 ++ (cw_X3 E q2 u11.2.2)))[i]?) = (cw_X3 E q2 u11.2.2).map some := rfl
          refine ct_v (ws' := cw_X4 E q0 (q1 0) ++ (cw_X9 E q1 u11.2.1 ++ (cw_X3 E q2 u13))) X hP hD hS [3, 4, 5, 6, 7, 8, 9, 10] (va_runV (C := RX3) (As := []) (rest := []) ⟨hx, hb, hml, hown, hg⟩ (c_X3_endWorth l E q2 H.size u11.2.2 u13 hc) (cwV 0 hg (gwV wm_X4_64 wi_X3_endWorth wsl_X3_endWorth wini_X3 wco_X3_endWorth) rfl rfl rfl (by decide +kernel) ⟨Nat.le_of_ble_eq_true rfl, Nat.le_of_ble_eq_true rfl⟩) ⟨ct_blind, ct_rv X.1 hP 3 rfl rfl, ct_pre X hP hD hS [3, 4, 5, 6, 7, 8, 9, 10] (by decide) hC _⟩ rfl rfl hl.1 rfl (lv_room (Nat.le_of_ble_eq_true rfl)) dX4_rule_81 ⟨Nat.zero_le _, Nat.zero_le _⟩) hC rfl rfl (fun H locs hP hD hS => ?_)
          clear hC
          exact N84  u11.2.1 u13 _ _ _ h hP hD hS (lv_sub hl [0, 1] rfl)
        · have h := it_t h c12
          refine lv_iconst (v := 0) hx hb dX4_rule_78 (by decide) ?_
          exact RT 0 u11.2.1 u11.2.2 _ _ _ _ h (by decide +kernel) hP hD hS dX4_rule_79
    · have h := it_f h c7
      refine lv_aload_n hx hb dX4_rule_42 rfl (lv_at hl 0 rfl) ?_
      refine va_get (D := E.1) (ci := 3) (v := .ref (q1 0)) (C := RX4) (T := TX4) (N := 1) hx hb hg in_X4 hown X.1 hP 0 rfl rfl 0 (by decide) (hg _ wf_X4_12) (fun _ h9 => h9) rfl dX4_rule_43 ?_
      refine lv_iconst (v := 4) hx hb dX4_rule_46 (by decide) ?_
      obtain ⟨u14, hc, h⟩ := bd_el h
      have hC : ([1, 2] : List Nat).map (fun i => (cw_X4 E q0 (q1 0) ++ (cw_X9 E q1 S1 ++ (cw_X3 E q2 S2)))[i]?) = (cw_X9 E q1 S1).map some := rfl
      refine ct_i (ws' := cw_X4 E q0 (q1 0) ++ (cw_X9 E q1 u14.2 ++ (cw_X3 E q2 S2))) X hP hD hS [1, 2] (va_runV (C := RX9) (As := [.int 4]) (rest := []) ⟨hx, hb, hml, hown, hg⟩ (c_X9_fail l E q1 H.size S1 4 u14 hc) (cwV 1 hg (gwV wm_X4_46 wi_X9_fail wsl_X9_fail wini_X9 wco_X9_fail) rfl rfl rfl (by decide +kernel) ⟨Nat.le_of_ble_eq_true rfl, Nat.le_of_ble_eq_true rfl⟩) ⟨ct_blind, ct_rv X.1 hP 1 rfl rfl, ct_pre X hP hD hS [1, 2] (by decide) hC _⟩ rfl rfl hl.1 rfl (lv_room (Nat.le_of_ble_eq_true rfl)) dX4_rule_47 ⟨Nat.zero_le _, Nat.zero_le _⟩) hC rfl rfl (fun H locs hP hD hS => ?_)
      clear hC
      obtain ⟨hn1, -, h⟩ := zb_el h
      exact RT u14.1 u14.2 S2 _ _ _ _ h hn1 hP hD hS dX4_rule_50
  obtain ⟨H, eH⟩ : ∃ z, z = s.heap := ⟨_, rfl⟩
  rw [← eH]
  have hP : va_P E.1 vwCl (cw_X4 E q0 (q1 0) ++ (cw_X9 E q1 S1 ++ (cw_X3 E q2 S2))) H := by rw [eH]; exact hP
  have hS : va_S A s.heap H [] := by rw [eH]; exact hS
  clear eH
  obtain ⟨locs, el⟩ : ∃ z : List Loc, z = [] := ⟨_, rfl⟩
  rw [← el] at hS ⊢
  clear el
  refine lv_aload_n hx hb dX4_rule_0 rfl (lv_at hl 0 rfl) ?_
  refine va_get (D := E.1) (ci := 3) (v := .ref (q1 0)) (C := RX4) (T := TX4) (N := 1) hx hb hg in_X4 hown X.1 hP 0 rfl rfl 0 (by decide) (hg _ wf_X4_12) (fun _ h9 => h9) rfl dX4_rule_1 ?_
  obtain ⟨u1, hc, h⟩ := bd_el h
  have hC : ([1, 2] : List Nat).map (fun i => (cw_X4 E q0 (q1 0) ++ (cw_X9 E q1 S1 ++ (cw_X3 E q2 S2)))[i]?) = (cw_X9 E q1 S1).map some := rfl
  refine ct_iR X hP hD hS [1, 2] hC (va_runV (C := RX9) (As := []) (rest := []) ⟨hx, hb, hml, hown, hg⟩ (c_X9_peek l E q1 H.size S1 u1 hc) (cwV 0 hg (gwV wm_X4_35 wi_X9_peek wsl_X9_peek wini_X9 wco_X9_peek) rfl rfl rfl (by decide +kernel) ⟨Nat.le_of_ble_eq_true rfl, Nat.le_of_ble_eq_true rfl⟩) ⟨ct_blind, ct_rv X.1 hP 1 rfl rfl, ct_pre X hP hD hS [1, 2] (by decide) hC _⟩ rfl rfl hl.1 rfl (lv_room (Nat.le_of_ble_eq_true rfl)) dX4_rule_4 ⟨Nat.zero_le _, Nat.zero_le _⟩) (fun H locs hP hD hS => ?_)
  clear hC
  refine lv_istore_n (lv' := [(2, .int u1), (0, .ref (q0 0)), (1, .ref (q2 0))]) hx hb dX4_rule_7 rfl hl (by decide) rfl (fun ls hl => ?_)
  refine lv_iload_n hx hb dX4_rule_8 rfl (lv_at hl 0 rfl) ?_
  refine lv_bipush (v := 116) hx hb dX4_rule_9 (by decide) ?_
  refine lv_icmp_eq (tgt := 35) hx hb dX4_rule_11 (by decide) (fun c2 => ?_) (fun c2 => ?_)
  · have h := it_t h c2
    exact N35  S1 S2 u1 _ _ _ h hP hD hS (lv_sub hl [1, 2, 0] rfl)
  · have h := it_f h c2
    refine lv_iload_n hx hb dX4_rule_14 rfl (lv_at hl 0 rfl) ?_
    refine lv_bipush (v := 109) hx hb dX4_rule_15 (by decide) ?_
    refine lv_icmp_eq (tgt := 35) hx hb dX4_rule_17 (by decide) (fun c3 => ?_) (fun c3 => ?_)
    · have h := it_t h c3
      exact N35  S1 S2 u1 _ _ _ h hP hD hS (lv_sub hl [1, 2, 0] rfl)
    · have h := it_f h c3
      refine lv_iload_n hx hb dX4_rule_20 rfl (lv_at hl 0 rfl) ?_
      refine lv_bipush (v := 120) hx hb dX4_rule_21 (by decide) ?_
      refine lv_icmp_eq (tgt := 35) hx hb dX4_rule_23 (by decide) (fun c4 => ?_) (fun c4 => ?_)
      · have h := it_t h c4
        exact N35  S1 S2 u1 _ _ _ h hP hD hS (lv_sub hl [1, 2, 0] rfl)
      · have h := it_f h c4
        refine lv_aload_n hx hb dX4_rule_26 rfl (lv_at hl 1 rfl) ?_
        refine va_get (D := E.1) (ci := 3) (v := .ref (q1 0)) (C := RX4) (T := TX4) (N := 1) hx hb hg in_X4 hown X.1 hP 0 rfl rfl 0 (by decide) (hg _ wf_X4_12) (fun _ h9 => h9) rfl dX4_rule_27 ?_
        refine lv_iconst (v := 1) hx hb dX4_rule_30 (by decide) ?_
        obtain ⟨u5, hc, h⟩ := bd_el h
        have hC : ([1, 2] : List Nat).map (fun i => (cw_X4 E q0 (q1 0) ++ (cw_X9 E q1 S1 ++ (cw_X3 E q2 S2)))[i]?) = (cw_X9 E q1 S1).map some := rfl
        refine ct_i (ws' := cw_X4 E q0 (q1 0) ++ (cw_X9 E q1 u5.2 ++ (cw_X3 E q2 S2))) X hP hD hS [1, 2] (va_runV (C := RX9) (As := [.int 1]) (rest := []) ⟨hx, hb, hml, hown, hg⟩ (c_X9_fail l E q1 H.size S1 1 u5 hc) (cwV 1 hg (gwV wm_X4_46 wi_X9_fail wsl_X9_fail wini_X9 wco_X9_fail) rfl rfl rfl (by decide +kernel) ⟨Nat.le_of_ble_eq_true rfl, Nat.le_of_ble_eq_true rfl⟩) ⟨ct_blind, ct_rv X.1 hP 1 rfl rfl, ct_pre X hP hD hS [1, 2] (by decide) hC _⟩ rfl rfl hl.1 rfl (lv_room (Nat.le_of_ble_eq_true rfl)) dX4_rule_31 ⟨Nat.zero_le _, Nat.zero_le _⟩) hC rfl rfl (fun H locs hP hD hS => ?_)
        clear hC
        obtain ⟨hn1, -, h⟩ := zb_el h
        exact RT u5.1 u5.2 S2 _ _ _ _ h hn1 hP hD hS dX4_rule_34
theorem dX4_read_0 : decode cX4_read 0 = .ok (.aload_n 0, 1) := by decide +kernel
theorem dX4_read_1 : decode cX4_read 1 = .ok (.getfield 12, 3) := by decide +kernel
theorem dX4_read_4 : decode cX4_read 4 = .ok (.aload_n 1, 1) := by decide +kernel
theorem dX4_read_5 : decode cX4_read 5 = .ok (.iload_n 2, 1) := by decide +kernel
theorem dX4_read_6 : decode cX4_read 6 = .ok (.invokevirtual 18, 3) := by decide +kernel
theorem dX4_read_9 : decode cX4_read 9 = .ok (.aload_n 3, 1) := by decide +kernel
theorem dX4_read_10 : decode cX4_read 10 = .ok (.invokevirtual 22, 3) := by decide +kernel
theorem dX4_read_13 : decode cX4_read 13 = .ok (.iconst 0, 1) := by decide +kernel
theorem dX4_read_14 : decode cX4_read 14 = .ok (.istore 4, 2) := by decide +kernel
theorem dX4_read_16 : decode cX4_read 16 = .ok (.iload 4, 2) := by decide +kernel
theorem dX4_read_18 : decode cX4_read 18 = .ok (.sipush 240, 3) := by decide +kernel
theorem dX4_read_21 : decode cX4_read 21 = .ok (.if_icmp .gt 61, 3) := by decide +kernel
theorem dX4_read_24 : decode cX4_read 24 = .ok (.aload_n 0, 1) := by decide +kernel
theorem dX4_read_25 : decode cX4_read 25 = .ok (.aload_n 3, 1) := by decide +kernel
theorem dX4_read_26 : decode cX4_read 26 = .ok (.invokevirtual 27, 3) := by decide +kernel
theorem dX4_read_29 : decode cX4_read 29 = .ok (.ifCond .ne 11, 3) := by decide +kernel
theorem dX4_read_32 : decode cX4_read 32 = .ok (.aload_n 0, 1) := by decide +kernel
theorem dX4_read_33 : decode cX4_read 33 = .ok (.getfield 12, 3) := by decide +kernel
theorem dX4_read_36 : decode cX4_read 36 = .ok (.getfield 31, 3) := by decide +kernel
theorem dX4_read_39 : decode cX4_read 39 = .ok (.ireturn, 1) := by decide +kernel
theorem dX4_read_40 : decode cX4_read 40 = .ok (.aload_n 0, 1) := by decide +kernel
theorem dX4_read_41 : decode cX4_read 41 = .ok (.getfield 12, 3) := by decide +kernel
theorem dX4_read_44 : decode cX4_read 44 = .ok (.invokevirtual 35, 3) := by decide +kernel
theorem dX4_read_47 : decode cX4_read 47 = .ok (.iconst (-1), 1) := by decide +kernel
theorem dX4_read_48 : decode cX4_read 48 = .ok (.if_icmp .ne 8, 3) := by decide +kernel
theorem dX4_read_51 : decode cX4_read 51 = .ok (.aload_n 3, 1) := by decide +kernel
theorem dX4_read_52 : decode cX4_read 52 = .ok (.invokevirtual 39, 3) := by decide +kernel
theorem dX4_read_55 : decode cX4_read 55 = .ok (.ireturn, 1) := by decide +kernel
theorem dX4_read_56 : decode cX4_read 56 = .ok (.aload_n 0, 1) := by decide +kernel
theorem dX4_read_57 : decode cX4_read 57 = .ok (.getfield 12, 3) := by decide +kernel
theorem dX4_read_60 : decode cX4_read 60 = .ok (.bipush 59, 2) := by decide +kernel
theorem dX4_read_62 : decode cX4_read 62 = .ok (.invokevirtual 42, 3) := by decide +kernel
theorem dX4_read_65 : decode cX4_read 65 = .ok (.ifCond .ne 11, 3) := by decide +kernel
theorem dX4_read_68 : decode cX4_read 68 = .ok (.aload_n 0, 1) := by decide +kernel
theorem dX4_read_69 : decode cX4_read 69 = .ok (.getfield 12, 3) := by decide +kernel
theorem dX4_read_72 : decode cX4_read 72 = .ok (.getfield 31, 3) := by decide +kernel
theorem dX4_read_75 : decode cX4_read 75 = .ok (.ireturn, 1) := by decide +kernel
theorem dX4_read_76 : decode cX4_read 76 = .ok (.iinc 4 1, 3) := by decide +kernel
theorem dX4_read_79 : decode cX4_read 79 = .ok (.goto (-63), 3) := by decide +kernel
theorem dX4_read_82 : decode cX4_read 82 = .ok (.aload_n 0, 1) := by decide +kernel
theorem dX4_read_83 : decode cX4_read 83 = .ok (.getfield 12, 3) := by decide +kernel
theorem dX4_read_86 : decode cX4_read 86 = .ok (.getfield 31, 3) := by decide +kernel
theorem dX4_read_89 : decode cX4_read 89 = .ok (.ireturn, 1) := by decide +kernel
def f_X4_read_n16 (S2 : Gr) (x2 : Int32) : Nat → Gr → Gr → Int32 → Option (Int32 × Gr × Gr)
  | 0, _, _, _ => none
  | n + 1, S1, S3, x4 => if 240 < x4 then (some ((S1.1 3), S1, S3)) else ((f_X4_rule S1 S3).bind fun u4 => if u4.1 = 0 then (some ((u4.2.1.1 3), u4.2.1, u4.2.2)) else ((f_X9_peek u4.2.1).bind fun u6 => if u6 = (-1) then ((f_X3_size u4.2.2).bind fun u11 => some (u11, u4.2.1, u4.2.2)) else ((f_X9_stepOver u4.2.1 59).bind fun u8 => if u8.1 = 0 then (some ((u8.2.1 3), u8.2, u4.2.2)) else (lt' (x4 + 1) fun v10 => f_X4_read_n16 S2 x2 n u8.2 u4.2.2 v10))))
def f_X4_read (S1 : Gr) (S2 : Gr) (S3 : Gr) (x2 : Int32) : Option (Int32 × Gr × Gr) := (f_X9_take S1 S2 x2).bind fun u1 => (f_X3_clearRules S3).bind fun u2 => f_X4_read_n16 S2 x2 fu u1 u2 0
set_option maxHeartbeats 4000000 in
set_option maxRecDepth 100000 in
theorem c_X4_read (l : Launch) (E : Ec) (q0 q1 q2 q3 : Nat → Nat) (sz : Nat) (S1 : Gr) (S2 : Gr) (S3 : Gr) (x2 : Int32) (Rv : Int32 × Gr × Gr) (h : f_X4_read S1 S2 S3 x2 = some Rv) : Met l yX4_read (wsM (.code yX4_read cX4_read 5 (some .int))) ({ frames := 612, cells := 0, slots := 0, locals := 18348 } : Room) (va_Pc [.ref (q0 0), .ref (q2 0), .int x2, .ref (q3 0)] (ctP E (cw_X4 E q0 (q1 0) ++ (cw_X9 E q1 S1 ++ (cw_X8 E q2 S2 ++ (cw_X3 E q3 S3)))) sz)) (ctI E (cw_X4 E q0 (q1 0) ++ (cw_X9 E q1 S1 ++ (cw_X8 E q2 S2 ++ (cw_X3 E q3 S3)))) (cw_X4 E q0 (q1 0) ++ (cw_X9 E q1 Rv.2.1 ++ (cw_X8 E q2 S2 ++ (cw_X3 E q3 Rv.2.2)))) sz Rv.1) 0 0 (va_A (cw_X4 E q0 (q1 0) ++ (cw_X9 E q1 S1 ++ (cw_X8 E q2 S2 ++ (cw_X3 E q3 S3)))) sz) := by
  refine ct_metI (by decide) (Nat.le_of_ble_eq_true rfl) ?_
  intro p e s m ar below meth c A QM hx hb hml hown hg X hP hD hS RET ls hl
  have hown : s.vm.findClass RX4 = some m.cls := hown
  have hl : lv_has ls 5 [(0, .ref (q0 0)), (1, .ref (q2 0)), (2, .int x2), (3, .ref (q3 0))] := hl
  have RT : ∀ (v : Int32) (S1 : Gr) (S3 : Gr) (H : Heap) (locs : List Loc) (ls : Array Slot) (pc : Nat), some (v, S1, S3) = some Rv → narrow .int (.int v) = .int v → va_P E.1 vwCl (cw_X4 E q0 (q1 0) ++ (cw_X9 E q1 S1 ++ (cw_X8 E q2 S2 ++ (cw_X3 E q3 S3)))) H → va_D A (cw_X4 E q0 (q1 0) ++ (cw_X9 E q1 S1 ++ (cw_X8 E q2 S2 ++ (cw_X3 E q3 S3)))) → va_S A s.heap H locs → decode cX4_read pc = .ok (.ireturn, 1) → W p l e ({ frames := 612, cells := 0, slots := 0, locals := 18348 } : Room) s m ar below meth c H locs 0 0 QM (F0 m pc ls [.int v]) := by
    intro v S1 S3 H locs ls pc e hn hP hD hS d
    obtain rfl := sm_e e
    exact RET H locs pc ls hn hP hD hS d
  clear RET
  have N16 : ∀ (n : Nat) (S1 : Gr) (S3 : Gr) (x4 : Int32) (H : Heap) (locs : List Loc) (ls : Array Slot), f_X4_read_n16 S2 x2 n S1 S3 x4 = some Rv → va_P E.1 vwCl (cw_X4 E q0 (q1 0) ++ (cw_X9 E q1 S1 ++ (cw_X8 E q2 S2 ++ (cw_X3 E q3 S3)))) H → va_D A (cw_X4 E q0 (q1 0) ++ (cw_X9 E q1 S1 ++ (cw_X8 E q2 S2 ++ (cw_X3 E q3 S3)))) → va_S A s.heap H locs → lv_has ls 5 [(0, .ref (q0 0)), (3, .ref (q3 0)), (4, .int x4)] → W p l e ({ frames := 612, cells := 0, slots := 0, locals := 18348 } : Room) s m ar below meth c H locs 0 0 QM (F0 m 16 ls []) := by
    intro n
    induction n with
    | zero => intro S1 S3 x4 H locs ls h; exact nn_el h
    | succ n ih =>
      intro S1 S3 x4 H locs ls h hP hD hS hl
      refine lv_iload hx hb dX4_read_16 (lv_at hl 2 rfl) ?_
      refine lv_sipush (v := 240) hx hb dX4_read_18 (by decide) ?_
      refine lv_icmp_gt (tgt := 82) hx hb dX4_read_21 (by decide) (fun c3 => ?_) (fun c3 => ?_)
      · have h := it_t h c3
        refine lv_aload_n hx hb dX4_read_82 rfl (lv_at hl 0 rfl) ?_
        refine va_get (D := E.1) (ci := 3) (v := .ref (q1 0)) (C := RX4) (T := TX4) (N := 1) hx hb hg in_X4 hown X.1 hP 0 rfl rfl 0 (by decide) (hg _ wf_X4_12) (fun _ h9 => h9) rfl dX4_read_83 ?_
        refine va_getN (D := E.1) (ci := 8) (v := .int (S1.1 3)) (C := RX9) (T := TX9) (N := 4) hx hb hg in_X9 hown X.1 hP 1 rfl rfl 3 (by decide) (va_Nw.use rfl (nf_X4_31 X.2.1)) (fun _ h9 => h9) rfl dX4_read_86 ?_
        exact RT (S1.1 3) S1 S3 _ _ _ _ h rfl hP hD hS dX4_read_89
      · have h := it_f h c3
        refine lv_aload_n hx hb dX4_read_24 rfl (lv_at hl 0 rfl) ?_
        refine lv_aload_n hx hb dX4_read_25 rfl (lv_at hl 1 rfl) ?_
        obtain ⟨u4, hc, h⟩ := bd_el h
        have hC : ([0, 1, 2, 5, 6, 7, 8, 9, 10, 11, 12] : List Nat).map (fun i => (cw_X4 E q0 (q1 0) ++ (cw_X9 E q1 S1 ++ (cw_X8 E q2 S2 ++ (cw_X3 E q3 S3))))[i]?) = (cw_X4 E q0 (q1 0) ++ (cw_X9 E q1 S1 ++ (cw_X3 E q3 S3))).map some := rfl
        refine ct_i (ws' := cw_X4 E q0 (q1 0) ++ (cw_X9 E q1 u4.2.1 ++ (cw_X8 E q2 S2 ++ (cw_X3 E q3 u4.2.2)))) X hP hD hS [0, 1, 2, 5, 6, 7, 8, 9, 10, 11, 12] (va_runV (C := RX4) (As := [.ref (q3 0)]) (rest := []) ⟨hx, hb, hml, hown, hg⟩ (c_X4_rule l E q0 q1 q3 H.size S1 S3 u4 hc) (cwV 1 hg (gwV wm_X4_27 wi_X4_rule wsl_X4_rule wini_X4 wco_X4_rule) rfl rfl rfl (by decide +kernel) ⟨Nat.le_of_ble_eq_true rfl, Nat.le_of_ble_eq_true rfl⟩) ⟨ct_blind, ct_rv X.1 hP 0 rfl rfl, ct_pre X hP hD hS [0, 1, 2, 5, 6, 7, 8, 9, 10, 11, 12] (by decide) hC _⟩ rfl rfl hl.1 rfl (lv_room (Nat.le_of_ble_eq_true rfl)) dX4_read_26 ⟨Nat.zero_le _, Nat.zero_le _⟩) hC rfl rfl (fun H locs hP hD hS => ?_)
        clear hC
        refine lv_if_ne (tgt := 40) hx hb dX4_read_29 (by decide) (fun c5 => ?_) (fun c5 => ?_)
        · have h := it_f h c5
          refine lv_aload_n hx hb dX4_read_40 rfl (lv_at hl 0 rfl) ?_
          refine va_get (D := E.1) (ci := 3) (v := .ref (q1 0)) (C := RX4) (T := TX4) (N := 1) hx hb hg in_X4 hown X.1 hP 0 rfl rfl 0 (by decide) (hg _ wf_X4_12) (fun _ h9 => h9) rfl dX4_read_41 ?_
          obtain ⟨u6, hc, h⟩ := bd_el h
          have hC : ([1, 2] : List Nat).map (fun i => (cw_X4 E q0 (q1 0) ++ (cw_X9 E q1 u4.2.1 ++ (cw_X8 E q2 S2 ++ (cw_X3 E q3 u4.2.2))))[i]?) = (cw_X9 E q1 u4.2.1).map some := rfl
          refine ct_iR X hP hD hS [1, 2] hC (va_runV (C := RX9) (As := []) (rest := []) ⟨hx, hb, hml, hown, hg⟩ (c_X9_peek l E q1 H.size u4.2.1 u6 hc) (cwV 0 hg (gwV wm_X4_35 wi_X9_peek wsl_X9_peek wini_X9 wco_X9_peek) rfl rfl rfl (by decide +kernel) ⟨Nat.le_of_ble_eq_true rfl, Nat.le_of_ble_eq_true rfl⟩) ⟨ct_blind, ct_rv X.1 hP 1 rfl rfl, ct_pre X hP hD hS [1, 2] (by decide) hC _⟩ rfl rfl hl.1 rfl (lv_room (Nat.le_of_ble_eq_true rfl)) dX4_read_44 ⟨Nat.zero_le _, Nat.zero_le _⟩) (fun H locs hP hD hS => ?_)
          clear hC
          refine lv_iconst (v := (-1)) hx hb dX4_read_47 (by decide) ?_
          refine lv_icmp_ne (tgt := 56) hx hb dX4_read_48 (by decide) (fun c7 => ?_) (fun c7 => ?_)
          · have h := it_f h c7
            refine lv_aload_n hx hb dX4_read_56 rfl (lv_at hl 0 rfl) ?_
            refine va_get (D := E.1) (ci := 3) (v := .ref (q1 0)) (C := RX4) (T := TX4) (N := 1) hx hb hg in_X4 hown X.1 hP 0 rfl rfl 0 (by decide) (hg _ wf_X4_12) (fun _ h9 => h9) rfl dX4_read_57 ?_
            refine lv_bipush (v := 59) hx hb dX4_read_60 (by decide) ?_
            obtain ⟨u8, hc, h⟩ := bd_el h
            have hC : ([1, 2] : List Nat).map (fun i => (cw_X4 E q0 (q1 0) ++ (cw_X9 E q1 u4.2.1 ++ (cw_X8 E q2 S2 ++ (cw_X3 E q3 u4.2.2))))[i]?) = (cw_X9 E q1 u4.2.1).map some := rfl
            refine ct_i (ws' := cw_X4 E q0 (q1 0) ++ (cw_X9 E q1 u8.2 ++ (cw_X8 E q2 S2 ++ (cw_X3 E q3 u4.2.2)))) X hP hD hS [1, 2] (va_runV (C := RX9) (As := [.int 59]) (rest := []) ⟨hx, hb, hml, hown, hg⟩ (c_X9_stepOver l E q1 H.size u4.2.1 59 u8 hc) (cwV 1 hg (gwV wm_X4_42 wi_X9_stepOver wsl_X9_stepOver wini_X9 wco_X9_stepOver) rfl rfl rfl (by decide +kernel) ⟨Nat.le_of_ble_eq_true rfl, Nat.le_of_ble_eq_true rfl⟩) ⟨ct_blind, ct_rv X.1 hP 1 rfl rfl, ct_pre X hP hD hS [1, 2] (by decide) hC _⟩ rfl rfl hl.1 rfl (lv_room (Nat.le_of_ble_eq_true rfl)) dX4_read_62 ⟨Nat.zero_le _, Nat.zero_le _⟩) hC rfl rfl (fun H locs hP hD hS => ?_)
            clear hC
            refine lv_if_ne (tgt := 76) hx hb dX4_read_65 (by decide) (fun c9 => ?_) (fun c9 => ?_)
            · have h := it_f h c9
              obtain ⟨v10, ev10, h⟩ := lt_el h
              refine lv_iinc (v := v10) (lv' := [(4, .int v10), (0, .ref (q0 0)), (3, .ref (q3 0))]) hx hb dX4_read_76 hl (k := 2) rfl (by rw [ev10]; rfl) (by decide) rfl (fun ls hl => ?_)
              refine lv_goto (tgt := 16) hx hb dX4_read_79 (by decide) ?_
              exact ih u8.2 u4.2.2 v10 _ _ _ h hP hD hS (lv_sub hl [1, 2, 0] rfl)
            · have h := it_t h c9
              refine lv_aload_n hx hb dX4_read_68 rfl (lv_at hl 0 rfl) ?_
              refine va_get (D := E.1) (ci := 3) (v := .ref (q1 0)) (C := RX4) (T := TX4) (N := 1) hx hb hg in_X4 hown X.1 hP 0 rfl rfl 0 (by decide) (hg _ wf_X4_12) (fun _ h9 => h9) rfl dX4_read_69 ?_
              refine va_getN (D := E.1) (ci := 8) (v := .int (u8.2.1 3)) (C := RX9) (T := TX9) (N := 4) hx hb hg in_X9 hown X.1 hP 1 rfl rfl 3 (by decide) (va_Nw.use rfl (nf_X4_31 X.2.1)) (fun _ h9 => h9) rfl dX4_read_72 ?_
              exact RT (u8.2.1 3) u8.2 u4.2.2 _ _ _ _ h rfl hP hD hS dX4_read_75
          · have h := it_t h c7
            refine lv_aload_n hx hb dX4_read_51 rfl (lv_at hl 1 rfl) ?_
            obtain ⟨u11, hc, h⟩ := bd_el h
            have hC : ([5, 6, 7, 8, 9, 10, 11, 12] : List Nat).map (fun i => (cw_X4 E q0 (q1 0) ++ (cw_X9 E q1 u4.2.1 ++ (cw_X8 E q2 S2 ++ (cw_X3 E q3 u4.2.2))))[i]?) = (cw_X3 E q3 u4.2.2).map some := rfl
            refine ct_iR X hP hD hS [5, 6, 7, 8, 9, 10, 11, 12] hC (va_runV (C := RX3) (As := []) (rest := []) ⟨hx, hb, hml, hown, hg⟩ (c_X3_size l E q3 H.size u4.2.2 u11 hc) (cwV 0 hg (gwV wm_X4_39 wi_X3_size wsl_X3_size wini_X3 wco_X3_size) rfl rfl rfl (by decide +kernel) ⟨Nat.le_of_ble_eq_true rfl, Nat.le_of_ble_eq_true rfl⟩) ⟨ct_blind, ct_rv X.1 hP 5 rfl rfl, ct_pre X hP hD hS [5, 6, 7, 8, 9, 10, 11, 12] (by decide) hC _⟩ rfl rfl hl.1 rfl (lv_room (Nat.le_of_ble_eq_true rfl)) dX4_read_52 ⟨Nat.zero_le _, Nat.zero_le _⟩) (fun H locs hP hD hS => ?_)
            clear hC
            exact RT u11 u4.2.1 u4.2.2 _ _ _ _ h rfl hP hD hS dX4_read_55
        · have h := it_t h c5
          refine lv_aload_n hx hb dX4_read_32 rfl (lv_at hl 0 rfl) ?_
          refine va_get (D := E.1) (ci := 3) (v := .ref (q1 0)) (C := RX4) (T := TX4) (N := 1) hx hb hg in_X4 hown X.1 hP 0 rfl rfl 0 (by decide) (hg _ wf_X4_12) (fun _ h9 => h9) rfl dX4_read_33 ?_
          refine va_getN (D := E.1) (ci := 8) (v := .int (u4.2.1.1 3)) (C := RX9) (T := TX9) (N := 4) hx hb hg in_X9 hown X.1 hP 1 rfl rfl 3 (by decide) (va_Nw.use rfl (nf_X4_31 X.2.1)) (fun _ h9 => h9) rfl dX4_read_36 ?_
          exact RT (u4.2.1.1 3) u4.2.1 u4.2.2 _ _ _ _ h rfl hP hD hS dX4_read_39
  obtain ⟨H, eH⟩ : ∃ z, z = s.heap := ⟨_, rfl⟩
  rw [← eH]
  have hP : va_P E.1 vwCl (cw_X4 E q0 (q1 0) ++ (cw_X9 E q1 S1 ++ (cw_X8 E q2 S2 ++ (cw_X3 E q3 S3)))) H := by rw [eH]; exact hP
  have hS : va_S A s.heap H [] := by rw [eH]; exact hS
  clear eH
  obtain ⟨locs, el⟩ : ∃ z : List Loc, z = [] := ⟨_, rfl⟩
  rw [← el] at hS ⊢
  clear el
  refine lv_aload_n hx hb dX4_read_0 rfl (lv_at hl 0 rfl) ?_
  refine va_get (D := E.1) (ci := 3) (v := .ref (q1 0)) (C := RX4) (T := TX4) (N := 1) hx hb hg in_X4 hown X.1 hP 0 rfl rfl 0 (by decide) (hg _ wf_X4_12) (fun _ h9 => h9) rfl dX4_read_1 ?_
  refine lv_aload_n hx hb dX4_read_4 rfl (lv_at hl 1 rfl) ?_
  refine lv_iload_n hx hb dX4_read_5 rfl (lv_at hl 2 rfl) ?_
  obtain ⟨u1, hc, h⟩ := bd_el h
  have hC : ([1, 2, 3, 4] : List Nat).map (fun i => (cw_X4 E q0 (q1 0) ++ (cw_X9 E q1 S1 ++ (cw_X8 E q2 S2 ++ (cw_X3 E q3 S3))))[i]?) = (cw_X9 E q1 S1 ++ (cw_X8 E q2 S2)).map some := rfl
  refine ct_v (ws' := cw_X4 E q0 (q1 0) ++ (cw_X9 E q1 u1 ++ (cw_X8 E q2 S2 ++ (cw_X3 E q3 S3)))) X hP hD hS [1, 2, 3, 4] (va_runV (C := RX9) (As := [.ref (q2 0), .int x2]) (rest := []) ⟨hx, hb, hml, hown, hg⟩ (c_X9_take l E q1 q2 H.size S1 S2 x2 u1 hc) (cwV 2 hg (gwV wm_X4_18 wi_X9_take wsl_X9_take wini_X9 wco_X9_take) rfl rfl rfl (by decide +kernel) ⟨Nat.le_of_ble_eq_true rfl, Nat.le_of_ble_eq_true rfl⟩) ⟨ct_blind, ct_rv X.1 hP 1 rfl rfl, ct_pre X hP hD hS [1, 2, 3, 4] (by decide) hC _⟩ rfl rfl hl.1 rfl (lv_room (Nat.le_of_ble_eq_true rfl)) dX4_read_6 ⟨Nat.zero_le _, Nat.zero_le _⟩) hC rfl rfl (fun H locs hP hD hS => ?_)
  clear hC
  refine lv_aload_n hx hb dX4_read_9 rfl (lv_at hl 3 rfl) ?_
  obtain ⟨u2, hc, h⟩ := bd_el h
  have hC : ([5, 6, 7, 8, 9, 10, 11, 12] : List Nat).map (fun i => (cw_X4 E q0 (q1 0) ++ (cw_X9 E q1 u1 ++ (cw_X8 E q2 S2 ++ (cw_X3 E q3 S3))))[i]?) = (cw_X3 E q3 S3).map some := rfl
  refine ct_v (ws' := cw_X4 E q0 (q1 0) ++ (cw_X9 E q1 u1 ++ (cw_X8 E q2 S2 ++ (cw_X3 E q3 u2)))) X hP hD hS [5, 6, 7, 8, 9, 10, 11, 12] (va_runV (C := RX3) (As := []) (rest := []) ⟨hx, hb, hml, hown, hg⟩ (c_X3_clearRules l E q3 H.size S3 u2 hc) (cwV 0 hg (gwV wm_X4_22 wi_X3_clearRules wsl_X3_clearRules wini_X3 wco_X3_clearRules) rfl rfl rfl (by decide +kernel) ⟨Nat.le_of_ble_eq_true rfl, Nat.le_of_ble_eq_true rfl⟩) ⟨ct_blind, ct_rv X.1 hP 5 rfl rfl, ct_pre X hP hD hS [5, 6, 7, 8, 9, 10, 11, 12] (by decide) hC _⟩ rfl rfl hl.1 rfl (lv_room (Nat.le_of_ble_eq_true rfl)) dX4_read_10 ⟨Nat.zero_le _, Nat.zero_le _⟩) hC rfl rfl (fun H locs hP hD hS => ?_)
  clear hC
  refine lv_iconst (v := 0) hx hb dX4_read_13 (by decide) ?_
  refine lv_istore (lv' := [(4, .int 0), (0, .ref (q0 0)), (1, .ref (q2 0)), (2, .int x2), (3, .ref (q3 0))]) hx hb dX4_read_14 hl (by decide) rfl (fun ls hl => ?_)
  exact N16 fu u1 u2 0 _ _ _ h hP hD hS (lv_sub hl [1, 4, 0] rfl)
