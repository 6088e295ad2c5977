theorem dX5_row_0 : decode cX5_row 0 = .ok (.iload_n 1, 1) := by decide +kernel
theorem dX5_row_1 : decode cX5_row 1 = .ok (.ifCond .ne 7, 3) := by decide +kernel
theorem dX5_row_4 : decode cX5_row 4 = .ok (.iconst (-1), 1) := by decide +kernel
theorem dX5_row_5 : decode cX5_row 5 = .ok (.goto 5, 3) := by decide +kernel
theorem dX5_row_8 : decode cX5_row 8 = .ok (.bipush 41, 2) := by decide +kernel
theorem dX5_row_10 : decode cX5_row 10 = .ok (.istore_n 2, 1) := by decide +kernel
theorem dX5_row_11 : decode cX5_row 11 = .ok (.iconst 0, 1) := by decide +kernel
theorem dX5_row_12 : decode cX5_row 12 = .ok (.istore_n 3, 1) := by decide +kernel
theorem dX5_row_13 : decode cX5_row 13 = .ok (.iload_n 3, 1) := by decide +kernel
theorem dX5_row_14 : decode cX5_row 14 = .ok (.bipush 80, 2) := by decide +kernel
theorem dX5_row_16 : decode cX5_row 16 = .ok (.if_icmp .gt 57, 3) := by decide +kernel
theorem dX5_row_19 : decode cX5_row 19 = .ok (.iload_n 3, 1) := by decide +kernel
theorem dX5_row_20 : decode cX5_row 20 = .ok (.ifCond .le 16, 3) := by decide +kernel
theorem dX5_row_23 : decode cX5_row 23 = .ok (.aload_n 0, 1) := by decide +kernel
theorem dX5_row_24 : decode cX5_row 24 = .ok (.getfield 12, 3) := by decide +kernel
theorem dX5_row_27 : decode cX5_row 27 = .ok (.invokevirtual 37, 3) := by decide +kernel
theorem dX5_row_30 : decode cX5_row 30 = .ok (.iload_n 2, 1) := by decide +kernel
theorem dX5_row_31 : decode cX5_row 31 = .ok (.if_icmp .ne 5, 3) := by decide +kernel
theorem dX5_row_34 : decode cX5_row 34 = .ok (.iconst 1, 1) := by decide +kernel
theorem dX5_row_35 : decode cX5_row 35 = .ok (.ireturn, 1) := by decide +kernel
theorem dX5_row_36 : decode cX5_row 36 = .ok (.aload_n 0, 1) := by decide +kernel
theorem dX5_row_37 : decode cX5_row 37 = .ok (.getfield 12, 3) := by decide +kernel
theorem dX5_row_40 : decode cX5_row 40 = .ok (.invokevirtual 37, 3) := by decide +kernel
theorem dX5_row_43 : decode cX5_row 43 = .ok (.bipush 40, 2) := by decide +kernel
theorem dX5_row_45 : decode cX5_row 45 = .ok (.if_icmp .ne 13, 3) := by decide +kernel
theorem dX5_row_48 : decode cX5_row 48 = .ok (.aload_n 0, 1) := by decide +kernel
theorem dX5_row_49 : decode cX5_row 49 = .ok (.iload_n 1, 1) := by decide +kernel
theorem dX5_row_50 : decode cX5_row 50 = .ok (.invokevirtual 41, 3) := by decide +kernel
theorem dX5_row_53 : decode cX5_row 53 = .ok (.ifCond .ne 14, 3) := by decide +kernel
theorem dX5_row_56 : decode cX5_row 56 = .ok (.iconst 0, 1) := by decide +kernel
theorem dX5_row_57 : decode cX5_row 57 = .ok (.ireturn, 1) := by decide +kernel
theorem dX5_row_58 : decode cX5_row 58 = .ok (.aload_n 0, 1) := by decide +kernel
theorem dX5_row_59 : decode cX5_row 59 = .ok (.invokevirtual 44, 3) := by decide +kernel
theorem dX5_row_62 : decode cX5_row 62 = .ok (.ifCond .ne 5, 3) := by decide +kernel
theorem dX5_row_65 : decode cX5_row 65 = .ok (.iconst 0, 1) := by decide +kernel
theorem dX5_row_66 : decode cX5_row 66 = .ok (.ireturn, 1) := by decide +kernel
theorem dX5_row_67 : decode cX5_row 67 = .ok (.iinc 3 1, 3) := by decide +kernel
theorem dX5_row_70 : decode cX5_row 70 = .ok (.goto (-57), 3) := by decide +kernel
theorem dX5_row_73 : decode cX5_row 73 = .ok (.aload_n 0, 1) := by decide +kernel
theorem dX5_row_74 : decode cX5_row 74 = .ok (.getfield 12, 3) := by decide +kernel
theorem dX5_row_77 : decode cX5_row 77 = .ok (.iconst 1, 1) := by decide +kernel
theorem dX5_row_78 : decode cX5_row 78 = .ok (.invokevirtual 48, 3) := by decide +kernel
theorem dX5_row_81 : decode cX5_row 81 = .ok (.ireturn, 1) := by decide +kernel
def f_X5_row_n36 (g_X5_row : Gr → Gr → Int32 → Option (Int32 × Gr × Gr)) (g_X5_innerRow : Gr → Gr → Int32 → Option (Int32 × Gr × Gr)) (x1 : Int32) (k13 : Gr → Gr → Int32 → Int32 → Option (Int32 × Gr × Gr)) (S0 : Gr) (S1 : Gr) (x2 : Int32) (x3 : Int32) : Option (Int32 × Gr × Gr) := (f_X9_peek S1).bind fun u7 => if u7 = 40 then ((g_X5_innerRow S0 S1 x1).bind fun u12 => if u12.1 = 0 then (some (0, u12.2.1, u12.2.2)) else (lt' (x3 + 1) fun v14 => k13 u12.2.1 u12.2.2 x2 v14)) else ((f_X5_spoke S0 S1).bind fun u9 => if u9.1 = 0 then (some (0, u9.2.1, u9.2.2)) else (lt' (x3 + 1) fun v11 => k13 u9.2.1 u9.2.2 x2 v11))
def f_X5_row_n13 (g_X5_row : Gr → Gr → Int32 → Option (Int32 × Gr × Gr)) (g_X5_innerRow : Gr → Gr → Int32 → Option (Int32 × Gr × Gr)) (x1 : Int32) : Nat → Gr → Gr → Int32 → Int32 → Option (Int32 × Gr × Gr)
  | 0, _, _, _, _ => none
  | n + 1, S0, S1, x2, x3 => if 80 < x3 then ((f_X9_fail S1 1).bind fun u3 => zb' u3.1 (some (u3.1, S0, u3.2))) else (if x3 ≤ 0 then (f_X5_row_n36 g_X5_row g_X5_innerRow x1 (f_X5_row_n13 g_X5_row g_X5_innerRow x1 n) S0 S1 x2 x3) else ((f_X9_peek S1).bind fun u5 => if u5 = x2 then (some (1, S0, S1)) else (f_X5_row_n36 g_X5_row g_X5_innerRow x1 (f_X5_row_n13 g_X5_row g_X5_innerRow x1 n) S0 S1 x2 x3)))
def fo_X5_row (g_X5_row : Gr → Gr → Int32 → Option (Int32 × Gr × Gr)) (g_X5_innerRow : Gr → Gr → Int32 → Option (Int32 × Gr × Gr)) (S0 : Gr) (S1 : Gr) (x1 : Int32) : Option (Int32 × Gr × Gr) := if x1 = 0 then (f_X5_row_n13 g_X5_row g_X5_innerRow x1 fu S0 S1 (-1) 0) else (f_X5_row_n13 g_X5_row g_X5_innerRow x1 fu S0 S1 41 0)
set_option maxHeartbeats 4000000 in
set_option maxRecDepth 100000 in
theorem co_X5_row (l : Launch) (E : Ec) (F Lc : Nat) (g_X5_row : Gr → Gr → Int32 → Option (Int32 × Gr × Gr)) (g_X5_innerRow : Gr → Gr → Int32 → Option (Int32 × Gr × Gr)) (hg_X5_row : ∀ (q0 q1 : Nat → Nat) (sz : Nat) (S0 : Gr) (S1 : Gr) (x1 : Int32) (Rv : Int32 × Gr × Gr), g_X5_row S0 S1 x1 = some Rv → Met l yX5_row (wsM (.code yX5_row cX5_row 4 (some .boolean))) ({ frames := F, cells := 0, slots := 0, locals := Lc } : Room) (va_Pc [.ref (q0 0), .int x1] (ctP E (cw_X5 E q0 (q1 0) S0 ++ (cw_X9 E q1 S1)) sz)) (ctI E (cw_X5 E q0 (q1 0) S0 ++ (cw_X9 E q1 S1)) (cw_X5 E q0 (q1 0) Rv.2.1 ++ (cw_X9 E q1 Rv.2.2)) sz Rv.1) 0 0 (va_A (cw_X5 E q0 (q1 0) S0 ++ (cw_X9 E q1 S1)) sz)) (hg_X5_innerRow : ∀ (q0 q1 : Nat → Nat) (sz : Nat) (S0 : Gr) (S1 : Gr) (x1 : Int32) (Rv : Int32 × Gr × Gr), g_X5_innerRow S0 S1 x1 = some Rv → Met l yX5_innerRow (wsM (.code yX5_innerRow cX5_innerRow 6 (some .boolean))) ({ frames := F, cells := 0, slots := 0, locals := Lc } : Room) (va_Pc [.ref (q0 0), .int x1] (ctP E (cw_X5 E q0 (q1 0) S0 ++ (cw_X9 E q1 S1)) sz)) (ctI E (cw_X5 E q0 (q1 0) S0 ++ (cw_X9 E q1 S1)) (cw_X5 E q0 (q1 0) Rv.2.1 ++ (cw_X9 E q1 Rv.2.2)) sz Rv.1) 0 0 (va_A (cw_X5 E q0 (q1 0) S0 ++ (cw_X9 E q1 S1)) sz)) (q0 q1 : Nat → Nat) (sz : Nat) (S0 : Gr) (S1 : Gr) (x1 : Int32) (Rv : Int32 × Gr × Gr) (h : fo_X5_row g_X5_row g_X5_innerRow S0 S1 x1 = some Rv) : Met l yX5_row (wsM (.code yX5_row cX5_row 4 (some .boolean))) ({ frames := F + 10, cells := 0, slots := 0, locals := Lc + 300 } : Room) (va_Pc [.ref (q0 0), .int x1] (ctP E (cw_X5 E q0 (q1 0) S0 ++ (cw_X9 E q1 S1)) sz)) (ctI E (cw_X5 E q0 (q1 0) S0 ++ (cw_X9 E q1 S1)) (cw_X5 E q0 (q1 0) Rv.2.1 ++ (cw_X9 E q1 Rv.2.2)) sz Rv.1) 0 0 (va_A (cw_X5 E q0 (q1 0) S0 ++ (cw_X9 E q1 S1)) sz) := by
  refine ct_metI (by decide) (Nat.le_of_ble_eq_true rfl) ?_
  intro p e s m ar below meth c A QM hx hb hml hown hg X hP hD hS RET ls hl
  have hown : s.vm.findClass RX5 = some m.cls := hown
  have hl : lv_has ls 4 [(0, .ref (q0 0)), (1, .int x1)] := hl
  have RT : ∀ (v : Int32) (S0 : Gr) (S1 : Gr) (H : Heap) (locs : List Loc) (ls : Array Slot) (pc : Nat), some (v, S0, S1) = some Rv → narrow .boolean (.int v) = .int v → va_P E.1 vwCl (cw_X5 E q0 (q1 0) S0 ++ (cw_X9 E q1 S1)) H → va_D A (cw_X5 E q0 (q1 0) S0 ++ (cw_X9 E q1 S1)) → va_S A s.heap H locs → decode cX5_row pc = .ok (.ireturn, 1) → W p l e ({ frames := F + 10, cells := 0, slots := 0, locals := Lc + 300 } : Room) s m ar below meth c H locs 0 0 QM (F0 m pc ls [.int v]) := by
    intro v S0 S1 H locs ls pc e hn hP hD hS d
    obtain rfl := sm_e e
    exact RET H locs pc ls hn hP hD hS d
  clear RET
  have N36 : ∀ (k13 : Gr → Gr → Int32 → Int32 → Option (Int32 × Gr × Gr)) (hk13 : ∀ (S0 : Gr) (S1 : Gr) (x2 : Int32) (x3 : Int32) (H : Heap) (locs : List Loc) (ls : Array Slot), k13 S0 S1 x2 x3 = some Rv → va_P E.1 vwCl (cw_X5 E q0 (q1 0) S0 ++ (cw_X9 E q1 S1)) H → va_D A (cw_X5 E q0 (q1 0) S0 ++ (cw_X9 E q1 S1)) → va_S A s.heap H locs → lv_has ls 4 [(0, .ref (q0 0)), (1, .int x1), (2, .int x2), (3, .int x3)] → W p l e ({ frames := F + 10, cells := 0, slots := 0, locals := Lc + 300 } : Room) s m ar below meth c H locs 0 0 QM (F0 m 13 ls [])) (S0 : Gr) (S1 : Gr) (x2 : Int32) (x3 : Int32) (H : Heap) (locs : List Loc) (ls : Array Slot), f_X5_row_n36 g_X5_row g_X5_innerRow x1 k13 S0 S1 x2 x3 = some Rv → va_P E.1 vwCl (cw_X5 E q0 (q1 0) S0 ++ (cw_X9 E q1 S1)) H → va_D A (cw_X5 E q0 (q1 0) S0 ++ (cw_X9 E q1 S1)) → va_S A s.heap H locs → lv_has ls 4 [(0, .ref (q0 0)), (1, .int x1), (2, .int x2), (3, .int x3)] → W p l e ({ frames := F + 10, cells := 0, slots := 0, locals := Lc + 300 } : Room) s m ar below meth c H locs 0 0 QM (F0 m 36 ls []) := by
    intro k13 hk13 S0 S1 x2 x3 H locs ls h hP hD hS hl
    refine lv_aload_n hx hb dX5_row_36 rfl (lv_at hl 0 rfl) ?_
    refine va_get (D := E.1) (ci := 4) (v := .ref (q1 0)) (C := RX5) (T := TX5) (N := 3) hx hb hg in_X5 hown X.1 hP 0 rfl rfl 0 (by decide) (hg _ wf_X5_12) (fun _ h9 => h9) rfl dX5_row_37 ?_
    obtain ⟨u7, hc, h⟩ := bd_el h
    have hC : ([2, 3] : List Nat).map (fun i => (cw_X5 E q0 (q1 0) S0 ++ (cw_X9 E q1 S1))[i]?) = (cw_X9 E q1 S1).map some := rfl
    refine ct_iR X hP hD hS [2, 3] hC (va_runV (C := RX9) (As := []) (rest := []) ⟨hx, hb, hml, hown, hg⟩ (c_X9_peek l E q1 H.size S1 u7 hc) (cwV 0 hg (gwV wm_X5_37 wi_X9_peek wsl_X9_peek wini_X9 wco_X9_peek) rfl rfl rfl (by decide +kernel) ⟨by dsimp only; omega, by dsimp only; omega⟩) ⟨ct_blind, ct_rv X.1 hP 2 rfl rfl, ct_pre X hP hD hS [2, 3] (by decide) hC _⟩ rfl rfl hl.1 rfl (lv_room (Nat.le_of_ble_eq_true rfl)) dX5_row_40 ⟨Nat.zero_le _, Nat.zero_le _⟩) (fun H locs hP hD hS => ?_)
    clear hC
    refine lv_bipush (v := 40) hx hb dX5_row_43 (by decide) ?_
    refine lv_icmp_ne (tgt := 58) hx hb dX5_row_45 (by decide) (fun c8 => ?_) (fun c8 => ?_)
    · have h := it_f h c8
      refine lv_aload_n hx hb dX5_row_58 rfl (lv_at hl 0 rfl) ?_
      obtain ⟨u9, hc, h⟩ := bd_el h
      refine ct_iA (w1 := cw_X5 E q0 (q1 0) u9.2.1 ++ (cw_X9 E q1 u9.2.2)) X hP hD hS (va_runV (C := RX5) (As := []) (rest := []) ⟨hx, hb, hml, hown, hg⟩ (c_X5_spoke l E q0 q1 H.size S0 S1 u9 hc) (cwV 0 hg (gwV wm_X5_44 wi_X5_spoke wsl_X5_spoke wini_X5 wco_X5_spoke) rfl rfl rfl (by decide +kernel) ⟨by dsimp only; omega, by dsimp only; omega⟩) ⟨ct_blind, ct_rv X.1 hP 0 rfl rfl, ct_preA X hP hD hS _⟩ rfl rfl hl.1 rfl (lv_room (Nat.le_of_ble_eq_true rfl)) dX5_row_59 ⟨Nat.zero_le _, Nat.zero_le _⟩) (fun H locs hP hD hS => ?_)
      refine lv_if_ne (tgt := 67) hx hb dX5_row_62 (by decide) (fun c10 => ?_) (fun c10 => ?_)
      · have h := it_f h c10
        obtain ⟨v11, ev11, h⟩ := lt_el h
        refine lv_iinc (v := v11) (lv' := [(3, .int v11), (0, .ref (q0 0)), (1, .int x1), (2, .int x2)]) hx hb dX5_row_67 hl (k := 3) rfl (by rw [ev11]; rfl) (by decide) rfl (fun ls hl => ?_)
        refine lv_goto (tgt := 13) hx hb dX5_row_70 (by decide) ?_
        exact hk13 u9.2.1 u9.2.2 x2 v11 _ _ _ h hP hD hS (lv_sub hl [1, 2, 3, 0] rfl)
      · have h := it_t h c10
        refine lv_iconst (v := 0) hx hb dX5_row_65 (by decide) ?_
        exact RT 0 u9.2.1 u9.2.2 _ _ _ _ h (by decide +kernel) hP hD hS dX5_row_66
    · have h := it_t h c8
      refine lv_aload_n hx hb dX5_row_48 rfl (lv_at hl 0 rfl) ?_
      refine lv_iload_n hx hb dX5_row_49 rfl (lv_at hl 1 rfl) ?_
      obtain ⟨u12, hc, h⟩ := bd_el h
      refine ct_iA (w1 := cw_X5 E q0 (q1 0) u12.2.1 ++ (cw_X9 E q1 u12.2.2)) X hP hD hS (va_runV (C := RX5) (As := [.int x1]) (rest := []) ⟨hx, hb, hml, hown, hg⟩ (hg_X5_innerRow q0 q1 H.size S0 S1 x1 u12 hc) (cwV 1 hg (gwV wm_X5_41 wi_X5_innerRow wsl_X5_innerRow wini_X5 wco_X5_innerRow) rfl rfl rfl (by decide +kernel) ⟨by dsimp only; omega, by dsimp only; omega⟩) ⟨ct_blind, ct_rv X.1 hP 0 rfl rfl, ct_preA X hP hD hS _⟩ rfl rfl hl.1 rfl (lv_room (Nat.le_of_ble_eq_true rfl)) dX5_row_50 ⟨Nat.zero_le _, Nat.zero_le _⟩) (fun H locs hP hD hS => ?_)
      refine lv_if_ne (tgt := 67) hx hb dX5_row_53 (by decide) (fun c13 => ?_) (fun c13 => ?_)
      · have h := it_f h c13
        obtain ⟨v14, ev14, h⟩ := lt_el h
        refine lv_iinc (v := v14) (lv' := [(3, .int v14), (0, .ref (q0 0)), (1, .int x1), (2, .int x2)]) hx hb dX5_row_67 hl (k := 3) rfl (by rw [ev14]; rfl) (by decide) rfl (fun ls hl => ?_)
        refine lv_goto (tgt := 13) hx hb dX5_row_70 (by decide) ?_
        exact hk13 u12.2.1 u12.2.2 x2 v14 _ _ _ h hP hD hS (lv_sub hl [1, 2, 3, 0] rfl)
      · have h := it_t h c13
        refine lv_iconst (v := 0) hx hb dX5_row_56 (by decide) ?_
        exact RT 0 u12.2.1 u12.2.2 _ _ _ _ h (by decide +kernel) hP hD hS dX5_row_57
  have N13 : ∀ (n : Nat) (S0 : Gr) (S1 : Gr) (x2 : Int32) (x3 : Int32) (H : Heap) (locs : List Loc) (ls : Array Slot), f_X5_row_n13 g_X5_row g_X5_innerRow x1 n S0 S1 x2 x3 = some Rv → va_P E.1 vwCl (cw_X5 E q0 (q1 0) S0 ++ (cw_X9 E q1 S1)) H → va_D A (cw_X5 E q0 (q1 0) S0 ++ (cw_X9 E q1 S1)) → va_S A s.heap H locs → lv_has ls 4 [(0, .ref (q0 0)), (1, .int x1), (2, .int x2), (3, .int x3)] → W p l e ({ frames := F + 10, cells := 0, slots := 0, locals := Lc + 300 } : Room) s m ar below meth c H locs 0 0 QM (F0 m 13 ls []) := by
    intro n
    induction n with
    | zero => intro S0 S1 x2 x3 H locs ls h; exact nn_el h
    | succ n ih =>
      intro S0 S1 x2 x3 H locs ls h hP hD hS hl
      refine lv_iload_n hx hb dX5_row_13 rfl (lv_at hl 3 rfl) ?_
      refine lv_bipush (v := 80) hx hb dX5_row_14 (by decide) ?_
      refine lv_icmp_gt (tgt := 73) hx hb dX5_row_16 (by decide) (fun c2 => ?_) (fun c2 => ?_)
      · have h := it_t h c2
        refine lv_aload_n hx hb dX5_row_73 rfl (lv_at hl 0 rfl) ?_
        refine va_get (D := E.1) (ci := 4) (v := .ref (q1 0)) (C := RX5) (T := TX5) (N := 3) hx hb hg in_X5 hown X.1 hP 0 rfl rfl 0 (by decide) (hg _ wf_X5_12) (fun _ h9 => h9) rfl dX5_row_74 ?_
        refine lv_iconst (v := 1) hx hb dX5_row_77 (by decide) ?_
        obtain ⟨u3, hc, h⟩ := bd_el h
        have hC : ([2, 3] : List Nat).map (fun i => (cw_X5 E q0 (q1 0) S0 ++ (cw_X9 E q1 S1))[i]?) = (cw_X9 E q1 S1).map some := rfl
        refine ct_i (ws' := cw_X5 E q0 (q1 0) S0 ++ (cw_X9 E q1 u3.2)) X hP hD hS [2, 3] (va_runV (C := RX9) (As := [.int 1]) (rest := []) ⟨hx, hb, hml, hown, hg⟩ (c_X9_fail l E q1 H.size S1 1 u3 hc) (cwV 1 hg (gwV wm_X5_48 wi_X9_fail wsl_X9_fail wini_X9 wco_X9_fail) rfl rfl rfl (by decide +kernel) ⟨by dsimp only; omega, by dsimp only; omega⟩) ⟨ct_blind, ct_rv X.1 hP 2 rfl rfl, ct_pre X hP hD hS [2, 3] (by decide) hC _⟩ rfl rfl hl.1 rfl (lv_room (Nat.le_of_ble_eq_true rfl)) dX5_row_78 ⟨Nat.zero_le _, Nat.zero_le _⟩) hC rfl rfl (fun H locs hP hD hS => ?_)
        clear hC
        obtain ⟨hn1, -, h⟩ := zb_el h
        exact RT u3.1 S0 u3.2 _ _ _ _ h hn1 hP hD hS dX5_row_81
      · have h := it_f h c2
        refine lv_iload_n hx hb dX5_row_19 rfl (lv_at hl 3 rfl) ?_
        refine lv_if_le (tgt := 36) hx hb dX5_row_20 (by decide) (fun c4 => ?_) (fun c4 => ?_)
        · have h := it_t h c4
          exact N36 (f_X5_row_n13 g_X5_row g_X5_innerRow x1 n) ih S0 S1 x2 x3 _ _ _ h hP hD hS (lv_sub hl [0, 1, 2, 3] rfl)
        · have h := it_f h c4
          refine lv_aload_n hx hb dX5_row_23 rfl (lv_at hl 0 rfl) ?_
          refine va_get (D := E.1) (ci := 4) (v := .ref (q1 0)) (C := RX5) (T := TX5) (N := 3) hx hb hg in_X5 hown X.1 hP 0 rfl rfl 0 (by decide) (hg _ wf_X5_12) (fun _ h9 => h9) rfl dX5_row_24 ?_
          obtain ⟨u5, hc, h⟩ := bd_el h
          have hC : ([2, 3] : List Nat).map (fun i => (cw_X5 E q0 (q1 0) S0 ++ (cw_X9 E q1 S1))[i]?) = (cw_X9 E q1 S1).map some := rfl
          refine ct_iR X hP hD hS [2, 3] hC (va_runV (C := RX9) (As := []) (rest := []) ⟨hx, hb, hml, hown, hg⟩ (c_X9_peek l E q1 H.size S1 u5 hc) (cwV 0 hg (gwV wm_X5_37 wi_X9_peek wsl_X9_peek wini_X9 wco_X9_peek) rfl rfl rfl (by decide +kernel) ⟨by dsimp only; omega, by dsimp only; omega⟩) ⟨ct_blind, ct_rv X.1 hP 2 rfl rfl, ct_pre X hP hD hS [2, 3] (by decide) hC _⟩ rfl rfl hl.1 rfl (lv_room (Nat.le_of_ble_eq_true rfl)) dX5_row_27 ⟨Nat.zero_le _, Nat.zero_le _⟩) (fun H locs hP hD hS => ?_)
          clear hC
          refine lv_iload_n hx hb dX5_row_30 rfl (lv_at hl 2 rfl) ?_
          refine lv_icmp_ne (tgt := 36) hx hb dX5_row_31 (by decide) (fun c6 => ?_) (fun c6 => ?_)
          · have h := it_f h c6
            exact N36 (f_X5_row_n13 g_X5_row g_X5_innerRow x1 n) ih S0 S1 x2 x3 _ _ _ h hP hD hS (lv_sub hl [0, 1, 2, 3] rfl)
          · have h := it_t h c6
            refine lv_iconst (v := 1) hx hb dX5_row_34 (by decide) ?_
            exact RT 1 S0 S1 _ _ _ _ h (by decide +kernel) hP hD hS dX5_row_35
  obtain ⟨H, eH⟩ : ∃ z, z = s.heap := ⟨_, rfl⟩
  rw [← eH]
  have hP : va_P E.1 vwCl (cw_X5 E q0 (q1 0) S0 ++ (cw_X9 E q1 S1)) H := by rw [eH]; exact hP
  have hS : va_S A s.heap H [] := by rw [eH]; exact hS
  clear eH
  obtain ⟨locs, el⟩ : ∃ z : List Loc, z = [] := ⟨_, rfl⟩
  rw [← el] at hS ⊢
  clear el
  refine lv_iload_n hx hb dX5_row_0 rfl (lv_at hl 1 rfl) ?_
  refine lv_if_ne (tgt := 8) hx hb dX5_row_1 (by decide) (fun c1 => ?_) (fun c1 => ?_)
  · have h := it_f h c1
    refine lv_bipush (v := 41) hx hb dX5_row_8 (by decide) ?_
    refine lv_istore_n (lv' := [(2, .int 41), (0, .ref (q0 0)), (1, .int x1)]) hx hb dX5_row_10 rfl hl (by decide) rfl (fun ls hl => ?_)
    refine lv_iconst (v := 0) hx hb dX5_row_11 (by decide) ?_
    refine lv_istore_n (lv' := [(3, .int 0), (2, .int 41), (0, .ref (q0 0)), (1, .int x1)]) hx hb dX5_row_12 rfl hl (by decide) rfl (fun ls hl => ?_)
    exact N13 fu S0 S1 41 0 _ _ _ h hP hD hS (lv_sub hl [2, 3, 1, 0] rfl)
  · have h := it_t h c1
    refine lv_iconst (v := (-1)) hx hb dX5_row_4 (by decide) ?_
    refine lv_goto (tgt := 10) hx hb dX5_row_5 (by decide) ?_
    refine lv_istore_n (lv' := [(2, .int (-1)), (0, .ref (q0 0)), (1, .int x1)]) hx hb dX5_row_10 rfl hl (by decide) rfl (fun ls hl => ?_)
    refine lv_iconst (v := 0) hx hb dX5_row_11 (by decide) ?_
    refine lv_istore_n (lv' := [(3, .int 0), (2, .int (-1)), (0, .ref (q0 0)), (1, .int x1)]) hx hb dX5_row_12 rfl hl (by decide) rfl (fun ls hl => ?_)
    exact N13 fu S0 S1 (-1) 0 _ _ _ h hP hD hS (lv_sub hl [2, 3, 1, 0] rfl)
theorem dX5_innerRow_0 : decode cX5_innerRow 0 = .ok (.iload_n 1, 1) := by decide +kernel
theorem dX5_innerRow_1 : decode cX5_innerRow 1 = .ok (.iconst 2, 1) := by decide +kernel
theorem dX5_innerRow_2 : decode cX5_innerRow 2 = .ok (.if_icmp .lt 12, 3) := by decide +kernel
theorem dX5_innerRow_5 : decode cX5_innerRow 5 = .ok (.aload_n 0, 1) := by decide +kernel
theorem dX5_innerRow_6 : decode cX5_innerRow 6 = .ok (.getfield 12, 3) := by decide +kernel
theorem dX5_innerRow_9 : decode cX5_innerRow 9 = .ok (.iconst 5, 1) := by decide +kernel
theorem dX5_innerRow_10 : decode cX5_innerRow 10 = .ok (.invokevirtual 48, 3) := by decide +kernel
theorem dX5_innerRow_13 : decode cX5_innerRow 13 = .ok (.ireturn, 1) := by decide +kernel
theorem dX5_innerRow_14 : decode cX5_innerRow 14 = .ok (.aload_n 0, 1) := by decide +kernel
theorem dX5_innerRow_15 : decode cX5_innerRow 15 = .ok (.getfield 12, 3) := by decide +kernel
theorem dX5_innerRow_18 : decode cX5_innerRow 18 = .ok (.getfield 58, 3) := by decide +kernel
theorem dX5_innerRow_21 : decode cX5_innerRow 21 = .ok (.istore_n 2, 1) := by decide +kernel
theorem dX5_innerRow_22 : decode cX5_innerRow 22 = .ok (.aload_n 0, 1) := by decide +kernel
theorem dX5_innerRow_23 : decode cX5_innerRow 23 = .ok (.getfield 22, 3) := by decide +kernel
theorem dX5_innerRow_26 : decode cX5_innerRow 26 = .ok (.istore_n 3, 1) := by decide +kernel
theorem dX5_innerRow_27 : decode cX5_innerRow 27 = .ok (.aload_n 0, 1) := by decide +kernel
theorem dX5_innerRow_28 : decode cX5_innerRow 28 = .ok (.getfield 12, 3) := by decide +kernel
theorem dX5_innerRow_31 : decode cX5_innerRow 31 = .ok (.invokevirtual 55, 3) := by decide +kernel
theorem dX5_innerRow_34 : decode cX5_innerRow 34 = .ok (.aload_n 0, 1) := by decide +kernel
theorem dX5_innerRow_35 : decode cX5_innerRow 35 = .ok (.iload_n 1, 1) := by decide +kernel
theorem dX5_innerRow_36 : decode cX5_innerRow 36 = .ok (.iconst 1, 1) := by decide +kernel
theorem dX5_innerRow_37 : decode cX5_innerRow 37 = .ok (.iadd, 1) := by decide +kernel
theorem dX5_innerRow_38 : decode cX5_innerRow 38 = .ok (.invokevirtual 30, 3) := by decide +kernel
theorem dX5_innerRow_41 : decode cX5_innerRow 41 = .ok (.ifCond .eq 15, 3) := by decide +kernel
theorem dX5_innerRow_44 : decode cX5_innerRow 44 = .ok (.aload_n 0, 1) := by decide +kernel
theorem dX5_innerRow_45 : decode cX5_innerRow 45 = .ok (.getfield 12, 3) := by decide +kernel
theorem dX5_innerRow_48 : decode cX5_innerRow 48 = .ok (.bipush 41, 2) := by decide +kernel
theorem dX5_innerRow_50 : decode cX5_innerRow 50 = .ok (.invokevirtual 61, 3) := by decide +kernel
theorem dX5_innerRow_53 : decode cX5_innerRow 53 = .ok (.ifCond .ne 5, 3) := by decide +kernel
theorem dX5_innerRow_56 : decode cX5_innerRow 56 = .ok (.iconst 0, 1) := by decide +kernel
theorem dX5_innerRow_57 : decode cX5_innerRow 57 = .ok (.ireturn, 1) := by decide +kernel
theorem dX5_innerRow_58 : decode cX5_innerRow 58 = .ok (.aload_n 0, 1) := by decide +kernel
theorem dX5_innerRow_59 : decode cX5_innerRow 59 = .ok (.getfield 12, 3) := by decide +kernel
theorem dX5_innerRow_62 : decode cX5_innerRow 62 = .ok (.invokevirtual 37, 3) := by decide +kernel
theorem dX5_innerRow_65 : decode cX5_innerRow 65 = .ok (.bipush 42, 2) := by decide +kernel
theorem dX5_innerRow_67 : decode cX5_innerRow 67 = .ok (.if_icmp .eq 5, 3) := by decide +kernel
theorem dX5_innerRow_70 : decode cX5_innerRow 70 = .ok (.iconst 1, 1) := by decide +kernel
theorem dX5_innerRow_71 : decode cX5_innerRow 71 = .ok (.ireturn, 1) := by decide +kernel
theorem dX5_innerRow_72 : decode cX5_innerRow 72 = .ok (.aload_n 0, 1) := by decide +kernel
theorem dX5_innerRow_73 : decode cX5_innerRow 73 = .ok (.getfield 12, 3) := by decide +kernel
theorem dX5_innerRow_76 : decode cX5_innerRow 76 = .ok (.invokevirtual 55, 3) := by decide +kernel
theorem dX5_innerRow_79 : decode cX5_innerRow 79 = .ok (.aload_n 0, 1) := by decide +kernel
theorem dX5_innerRow_80 : decode cX5_innerRow 80 = .ok (.getfield 12, 3) := by decide +kernel
theorem dX5_innerRow_83 : decode cX5_innerRow 83 = .ok (.bipush 50, 2) := by decide +kernel
theorem dX5_innerRow_85 : decode cX5_innerRow 85 = .ok (.bipush 57, 2) := by decide +kernel
theorem dX5_innerRow_87 : decode cX5_innerRow 87 = .ok (.invokevirtual 51, 3) := by decide +kernel
theorem dX5_innerRow_90 : decode cX5_innerRow 90 = .ok (.ifCond .ne 12, 3) := by decide +kernel
theorem dX5_innerRow_93 : decode cX5_innerRow 93 = .ok (.aload_n 0, 1) := by decide +kernel
theorem dX5_innerRow_94 : decode cX5_innerRow 94 = .ok (.getfield 12, 3) := by decide +kernel
theorem dX5_innerRow_97 : decode cX5_innerRow 97 = .ok (.iconst 1, 1) := by decide +kernel
theorem dX5_innerRow_98 : decode cX5_innerRow 98 = .ok (.invokevirtual 48, 3) := by decide +kernel
theorem dX5_innerRow_101 : decode cX5_innerRow 101 = .ok (.ireturn, 1) := by decide +kernel
theorem dX5_innerRow_102 : decode cX5_innerRow 102 = .ok (.aload_n 0, 1) := by decide +kernel
theorem dX5_innerRow_103 : decode cX5_innerRow 103 = .ok (.getfield 12, 3) := by decide +kernel
theorem dX5_innerRow_106 : decode cX5_innerRow 106 = .ok (.invokevirtual 37, 3) := by decide +kernel
theorem dX5_innerRow_109 : decode cX5_innerRow 109 = .ok (.bipush 48, 2) := by decide +kernel
theorem dX5_innerRow_111 : decode cX5_innerRow 111 = .ok (.isub, 1) := by decide +kernel
theorem dX5_innerRow_112 : decode cX5_innerRow 112 = .ok (.istore 4, 2) := by decide +kernel
theorem dX5_innerRow_114 : decode cX5_innerRow 114 = .ok (.aload_n 0, 1) := by decide +kernel
theorem dX5_innerRow_115 : decode cX5_innerRow 115 = .ok (.getfield 12, 3) := by decide +kernel
theorem dX5_innerRow_118 : decode cX5_innerRow 118 = .ok (.invokevirtual 55, 3) := by decide +kernel
theorem dX5_innerRow_121 : decode cX5_innerRow 121 = .ok (.aload_n 0, 1) := by decide +kernel
theorem dX5_innerRow_122 : decode cX5_innerRow 122 = .ok (.getfield 22, 3) := by decide +kernel
theorem dX5_innerRow_125 : decode cX5_innerRow 125 = .ok (.iload_n 3, 1) := by decide +kernel
theorem dX5_innerRow_126 : decode cX5_innerRow 126 = .ok (.isub, 1) := by decide +kernel
theorem dX5_innerRow_127 : decode cX5_innerRow 127 = .ok (.istore 5, 2) := by decide +kernel
theorem dX5_innerRow_129 : decode cX5_innerRow 129 = .ok (.iload_n 3, 1) := by decide +kernel
theorem dX5_innerRow_130 : decode cX5_innerRow 130 = .ok (.iload 5, 2) := by decide +kernel
theorem dX5_innerRow_132 : decode cX5_innerRow 132 = .ok (.iload 4, 2) := by decide +kernel
theorem dX5_innerRow_134 : decode cX5_innerRow 134 = .ok (.imul, 1) := by decide +kernel
theorem dX5_innerRow_135 : decode cX5_innerRow 135 = .ok (.iadd, 1) := by decide +kernel
theorem dX5_innerRow_136 : decode cX5_innerRow 136 = .ok (.bipush 64, 2) := by decide +kernel
theorem dX5_innerRow_138 : decode cX5_innerRow 138 = .ok (.if_icmp .le 14, 3) := by decide +kernel
theorem dX5_innerRow_141 : decode cX5_innerRow 141 = .ok (.aload_n 0, 1) := by decide +kernel
theorem dX5_innerRow_142 : decode cX5_innerRow 142 = .ok (.getfield 12, 3) := by decide +kernel
theorem dX5_innerRow_145 : decode cX5_innerRow 145 = .ok (.bipush 6, 2) := by decide +kernel
theorem dX5_innerRow_147 : decode cX5_innerRow 147 = .ok (.iload_n 2, 1) := by decide +kernel
theorem dX5_innerRow_148 : decode cX5_innerRow 148 = .ok (.invokevirtual 64, 3) := by decide +kernel
theorem dX5_innerRow_151 : decode cX5_innerRow 151 = .ok (.ireturn, 1) := by decide +kernel
theorem dX5_innerRow_152 : decode cX5_innerRow 152 = .ok (.aload_n 0, 1) := by decide +kernel
theorem dX5_innerRow_153 : decode cX5_innerRow 153 = .ok (.iload 5, 2) := by decide +kernel
theorem dX5_innerRow_155 : decode cX5_innerRow 155 = .ok (.iload 5, 2) := by decide +kernel
theorem dX5_innerRow_157 : decode cX5_innerRow 157 = .ok (.iload 4, 2) := by decide +kernel
theorem dX5_innerRow_159 : decode cX5_innerRow 159 = .ok (.iconst 1, 1) := by decide +kernel
theorem dX5_innerRow_160 : decode cX5_innerRow 160 = .ok (.isub, 1) := by decide +kernel
theorem dX5_innerRow_161 : decode cX5_innerRow 161 = .ok (.imul, 1) := by decide +kernel
theorem dX5_innerRow_162 : decode cX5_innerRow 162 = .ok (.invokevirtual 67, 3) := by decide +kernel
theorem dX5_innerRow_165 : decode cX5_innerRow 165 = .ok (.iconst 1, 1) := by decide +kernel
theorem dX5_innerRow_166 : decode cX5_innerRow 166 = .ok (.ireturn, 1) := by decide +kernel
def fo_X5_innerRow (g_X5_row : Gr → Gr → Int32 → Option (Int32 × Gr × Gr)) (g_X5_innerRow : Gr → Gr → Int32 → Option (Int32 × Gr × Gr)) (S0 : Gr) (S1 : Gr) (x1 : Int32) : Option (Int32 × Gr × Gr) := if x1 < 2 then (lt' ((S1.1 2)) fun v2 => lt' ((S0.1 2)) fun v3 => (f_X9_step S1).bind fun u4 => (g_X5_row S0 u4 (x1 + 1)).bind fun u5 => if u5.1 = 0 then (some (0, u5.2.1, u5.2.2)) else ((f_X9_stepOver u5.2.2 41).bind fun u7 => if u7.1 = 0 then (some (0, u5.2.1, u7.2)) else ((f_X9_peek u7.2).bind fun u9 => if u9 = 42 then ((f_X9_step u7.2).bind fun u11 => (f_X9_isAt u11 50 57).bind fun u12 => if u12 = 0 then ((f_X9_fail u11 1).bind fun u21 => zb' u21.1 (some (u21.1, u5.2.1, u21.2))) else ((f_X9_peek u11).bind fun u14 => lt' ((u14 - 48)) fun v15 => (f_X9_step u11).bind fun u16 => lt' (((u5.2.1.1 2) - v3)) fun v17 => if (v3 + (v17 * v15)) ≤ 64 then ((f_X5_repeat u5.2.1 u16 v17 (v17 * (v15 - 1))).bind fun u19 => some (1, u19, u16)) else ((f_X9_failAt u16 6 v2).bind fun u20 => zb' u20.1 (some (u20.1, u5.2.1, u20.2))))) else (some (1, u5.2.1, u7.2))))) else ((f_X9_fail S1 5).bind fun u22 => zb' u22.1 (some (u22.1, S0, u22.2)))
set_option maxHeartbeats 4000000 in
set_option maxRecDepth 100000 in
theorem co_X5_innerRow (l : Launch) (E : Ec) (F Lc : Nat) (g_X5_row : Gr → Gr → Int32 → Option (Int32 × Gr × Gr)) (g_X5_innerRow : Gr → Gr → Int32 → Option (Int32 × Gr × Gr)) (hg_X5_row : ∀ (q0 q1 : Nat → Nat) (sz : Nat) (S0 : Gr) (S1 : Gr) (x1 : Int32) (Rv : Int32 × Gr × Gr), g_X5_row S0 S1 x1 = some Rv → Met l yX5_row (wsM (.code yX5_row cX5_row 4 (some .boolean))) ({ frames := F, cells := 0, slots := 0, locals := Lc } : Room) (va_Pc [.ref (q0 0), .int x1] (ctP E (cw_X5 E q0 (q1 0) S0 ++ (cw_X9 E q1 S1)) sz)) (ctI E (cw_X5 E q0 (q1 0) S0 ++ (cw_X9 E q1 S1)) (cw_X5 E q0 (q1 0) Rv.2.1 ++ (cw_X9 E q1 Rv.2.2)) sz Rv.1) 0 0 (va_A (cw_X5 E q0 (q1 0) S0 ++ (cw_X9 E q1 S1)) sz)) (hg_X5_innerRow : ∀ (q0 q1 : Nat → Nat) (sz : Nat) (S0 : Gr) (S1 : Gr) (x1 : Int32) (Rv : Int32 × Gr × Gr), g_X5_innerRow S0 S1 x1 = some Rv → Met l yX5_innerRow (wsM (.code yX5_innerRow cX5_innerRow 6 (some .boolean))) ({ frames := F, cells := 0, slots := 0, locals := Lc } : Room) (va_Pc [.ref (q0 0), .int x1] (ctP E (cw_X5 E q0 (q1 0) S0 ++ (cw_X9 E q1 S1)) sz)) (ctI E (cw_X5 E q0 (q1 0) S0 ++ (cw_X9 E q1 S1)) (cw_X5 E q0 (q1 0) Rv.2.1 ++ (cw_X9 E q1 Rv.2.2)) sz Rv.1) 0 0 (va_A (cw_X5 E q0 (q1 0) S0 ++ (cw_X9 E q1 S1)) sz)) (q0 q1 : Nat → Nat) (sz : Nat) (S0 : Gr) (S1 : Gr) (x1 : Int32) (Rv : Int32 × Gr × Gr) (h : fo_X5_innerRow g_X5_row g_X5_innerRow S0 S1 x1 = some Rv) : Met l yX5_innerRow (wsM (.code yX5_innerRow cX5_innerRow 6 (some .boolean))) ({ frames := F + 10, cells := 0, slots := 0, locals := Lc + 300 } : Room) (va_Pc [.ref (q0 0), .int x1] (ctP E (cw_X5 E q0 (q1 0) S0 ++ (cw_X9 E q1 S1)) sz)) (ctI E (cw_X5 E q0 (q1 0) S0 ++ (cw_X9 E q1 S1)) (cw_X5 E q0 (q1 0) Rv.2.1 ++ (cw_X9 E q1 Rv.2.2)) sz Rv.1) 0 0 (va_A (cw_X5 E q0 (q1 0) S0 ++ (cw_X9 E q1 S1)) sz) := by
  refine ct_metI (by decide) (Nat.le_of_ble_eq_true rfl) ?_
  intro p e s m ar below meth c A QM hx hb hml hown hg X hP hD hS RET ls hl
  have hown : s.vm.findClass RX5 = some m.cls := hown
  have hl : lv_has ls 6 [(0, .ref (q0 0)), (1, .int x1)] := hl
  have RT : ∀ (v : Int32) (S0 : Gr) (S1 : Gr) (H : Heap) (locs : List Loc) (ls : Array Slot) (pc : Nat), some (v, S0, S1) = some Rv → narrow .boolean (.int v) = .int v → va_P E.1 vwCl (cw_X5 E q0 (q1 0) S0 ++ (cw_X9 E q1 S1)) H → va_D A (cw_X5 E q0 (q1 0) S0 ++ (cw_X9 E q1 S1)) → va_S A s.heap H locs → decode cX5_innerRow pc = .ok (.ireturn, 1) → W p l e ({ frames := F + 10, cells := 0, slots := 0, locals := Lc + 300 } : Room) s m ar below meth c H locs 0 0 QM (F0 m pc ls [.int v]) := by
    intro v S0 S1 H locs ls pc e hn hP hD hS d
    obtain rfl := sm_e e
    exact RET H locs pc ls hn hP hD hS d
  clear RET
  obtain ⟨H, eH⟩ : ∃ z, z = s.heap := ⟨_, rfl⟩
  rw [← eH]
  have hP : va_P E.1 vwCl (cw_X5 E q0 (q1 0) S0 ++ (cw_X9 E q1 S1)) H := by rw [eH]; exact hP
  have hS : va_S A s.heap H [] := by rw [eH]; exact hS
  clear eH
  obtain ⟨locs, el⟩ : ∃ z : List Loc, z = [] := ⟨_, rfl⟩
  rw [← el] at hS ⊢
  clear el
  refine lv_iload_n hx hb dX5_innerRow_0 rfl (lv_at hl 1 rfl) ?_
  refine lv_iconst (v := 2) hx hb dX5_innerRow_1 (by decide) ?_
  refine lv_icmp_lt (tgt := 14) hx hb dX5_innerRow_2 (by decide) (fun c1 => ?_) (fun c1 => ?_)
  · have h := it_t h c1
    refine lv_aload_n hx hb dX5_innerRow_14 rfl (lv_at hl 0 rfl) ?_
    refine va_get (D := E.1) (ci := 4) (v := .ref (q1 0)) (C := RX5) (T := TX5) (N := 3) hx hb hg in_X5 hown X.1 hP 0 rfl rfl 0 (by decide) (hg _ wf_X5_12) (fun _ h9 => h9) rfl dX5_innerRow_15 ?_
    refine va_getN (D := E.1) (ci := 8) (v := .int (S1.1 2)) (C := RX9) (T := TX9) (N := 4) hx hb hg in_X9 hown X.1 hP 2 rfl rfl 2 (by decide) (va_Nw.use rfl (nf_X5_58 X.2.1)) (fun _ h9 => h9) rfl dX5_innerRow_18 ?_
    obtain ⟨v2, ev2, h⟩ := lt_el h
    refine lv_top' ev2 ?_
    refine lv_istore_n (lv' := [(2, .int v2), (0, .ref (q0 0)), (1, .int x1)]) hx hb dX5_innerRow_21 rfl hl (by decide) rfl (fun ls hl => ?_)
    refine lv_aload_n hx hb dX5_innerRow_22 rfl (lv_at hl 1 rfl) ?_
    refine va_get (D := E.1) (ci := 4) (v := .int (S0.1 2)) (C := RX5) (T := TX5) (N := 3) hx hb hg in_X5 hown X.1 hP 0 rfl rfl 2 (by decide) (hg _ wf_X5_22) (fun _ h9 => h9) rfl dX5_innerRow_23 ?_
    obtain ⟨v3, ev3, h⟩ := lt_el h
    refine lv_top' ev3 ?_
    refine lv_istore_n (lv' := [(3, .int v3), (2, .int v2), (0, .ref (q0 0)), (1, .int x1)]) hx hb dX5_innerRow_26 rfl hl (by decide) rfl (fun ls hl => ?_)
    refine lv_aload_n hx hb dX5_innerRow_27 rfl (lv_at hl 2 rfl) ?_
    refine va_get (D := E.1) (ci := 4) (v := .ref (q1 0)) (C := RX5) (T := TX5) (N := 3) hx hb hg in_X5 hown X.1 hP 0 rfl rfl 0 (by decide) (hg _ wf_X5_12) (fun _ h9 => h9) rfl dX5_innerRow_28 ?_
    obtain ⟨u4, hc, h⟩ := bd_el h
    have hC : ([2, 3] : List Nat).map (fun i => (cw_X5 E q0 (q1 0) S0 ++ (cw_X9 E q1 S1))[i]?) = (cw_X9 E q1 S1).map some := rfl
    refine ct_v (ws' := cw_X5 E q0 (q1 0) S0 ++ (cw_X9 E q1 u4)) X hP hD hS [2, 3] (va_runV (C := RX9) (As := []) (rest := []) ⟨hx, hb, hml, hown, hg⟩ (c_X9_step l E q1 H.size S1 u4 hc) (cwV 0 hg (gwV wm_X5_55 wi_X9_step wsl_X9_step wini_X9 wco_X9_step) rfl rfl rfl (by decide +kernel) ⟨by dsimp only; omega, by dsimp only; omega⟩) ⟨ct_blind, ct_rv X.1 hP 2 rfl rfl, ct_pre X hP hD hS [2, 3] (by decide) hC _⟩ rfl rfl hl.1 rfl (lv_room (Nat.le_of_ble_eq_true rfl)) dX5_innerRow_31 ⟨Nat.zero_le _, Nat.zero_le _⟩) hC rfl rfl (fun H locs hP hD hS => ?_)
    clear hC
    refine lv_aload_n hx hb dX5_innerRow_34 rfl (lv_at hl 2 rfl) ?_
    refine lv_iload_n hx hb dX5_innerRow_35 rfl (lv_at hl 3 rfl) ?_
    refine lv_iconst (v := 1) hx hb dX5_innerRow_36 (by decide) ?_
    refine lv_iadd hx hb dX5_innerRow_37 ?_
    obtain ⟨u5, hc, h⟩ := bd_el h
    refine ct_iA (w1 := cw_X5 E q0 (q1 0) u5.2.1 ++ (cw_X9 E q1 u5.2.2)) X hP hD hS (va_runV (C := RX5) (As := [.int (x1 + 1)]) (rest := []) ⟨hx, hb, hml, hown, hg⟩ (hg_X5_row q0 q1 H.size S0 u4 (x1 + 1) u5 hc) (cwV 1 hg (gwV wm_X5_30 wi_X5_row wsl_X5_row wini_X5 wco_X5_row) rfl rfl rfl (by decide +kernel) ⟨by dsimp only; omega, by dsimp only; omega⟩) ⟨ct_blind, ct_rv X.1 hP 0 rfl rfl, ct_preA X hP hD hS _⟩ rfl rfl hl.1 rfl (lv_room (Nat.le_of_ble_eq_true rfl)) dX5_innerRow_38 ⟨Nat.zero_le _, Nat.zero_le _⟩) (fun H locs hP hD hS => ?_)
    refine lv_if_eq (tgt := 56) hx hb dX5_innerRow_41 (by decide) (fun c6 => ?_) (fun c6 => ?_)
    · have h := it_t h c6
      refine lv_iconst (v := 0) hx hb dX5_innerRow_56 (by decide) ?_
      exact RT 0 u5.2.1 u5.2.2 _ _ _ _ h (by decide +kernel) hP hD hS dX5_innerRow_57
    · have h := it_f h c6
      refine lv_aload_n hx hb dX5_innerRow_44 rfl (lv_at hl 2 rfl) ?_
      refine va_get (D := E.1) (ci := 4) (v := .ref (q1 0)) (C := RX5) (T := TX5) (N := 3) hx hb hg in_X5 hown X.1 hP 0 rfl rfl 0 (by decide) (hg _ wf_X5_12) (fun _ h9 => h9) rfl dX5_innerRow_45 ?_
      refine lv_bipush (v := 41) hx hb dX5_innerRow_48 (by decide) ?_
      obtain ⟨u7, hc, h⟩ := bd_el h
      have hC : ([2, 3] : List Nat).map (fun i => (cw_X5 E q0 (q1 0) u5.2.1 ++ (cw_X9 E q1 u5.2.2))[i]?) = (cw_X9 E q1 u5.2.2).map some := rfl
      refine ct_i (ws' := cw_X5 E q0 (q1 0) u5.2.1 ++ (cw_X9 E q1 u7.2)) X hP hD hS [2, 3] (va_runV (C := RX9) (As := [.int 41]) (rest := []) ⟨hx, hb, hml, hown, hg⟩ (c_X9_stepOver l E q1 H.size u5.2.2 41 u7 hc) (cwV 1 hg (gwV wm_X5_61 wi_X9_stepOver wsl_X9_stepOver wini_X9 wco_X9_stepOver) rfl rfl rfl (by decide +kernel) ⟨by dsimp only; omega, by dsimp only; omega⟩) ⟨ct_blind, ct_rv X.1 hP 2 rfl rfl, ct_pre X hP hD hS [2, 3] (by decide) hC _⟩ rfl rfl hl.1 rfl (lv_room (Nat.le_of_ble_eq_true rfl)) dX5_innerRow_50 ⟨Nat.zero_le _, Nat.zero_le _⟩) hC rfl rfl (fun H locs hP hD hS => ?_)
      clear hC
      refine lv_if_ne (tgt := 58) hx hb dX5_innerRow_53 (by decide) (fun c8 => ?_) (fun c8 => ?_)
      · have h := it_f h c8
        refine lv_aload_n hx hb dX5_innerRow_58 rfl (lv_at hl 2 rfl) ?_
        refine va_get (D := E.1) (ci := 4) (v := .ref (q1 0)) (C := RX5) (T := TX5) (N := 3) hx hb hg in_X5 hown X.1 hP 0 rfl rfl 0 (by decide) (hg _ wf_X5_12) (fun _ h9 => h9) rfl dX5_innerRow_59 ?_
        obtain ⟨u9, hc, h⟩ := bd_el h
        have hC : ([2, 3] : List Nat).map (fun i => (cw_X5 E q0 (q1 0) u5.2.1 ++ (cw_X9 E q1 u7.2))[i]?) = (cw_X9 E q1 u7.2).map some := rfl
        refine ct_iR X hP hD hS [2, 3] hC (va_runV (C := RX9) (As := []) (rest := []) ⟨hx, hb, hml, hown, hg⟩ (c_X9_peek l E q1 H.size u7.2 u9 hc) (cwV 0 hg (gwV wm_X5_37 wi_X9_peek wsl_X9_peek wini_X9 wco_X9_peek) rfl rfl rfl (by decide +kernel) ⟨by dsimp only; omega, by dsimp only; omega⟩) ⟨ct_blind, ct_rv X.1 hP 2 rfl rfl, ct_pre X hP hD hS [2, 3] (by decide) hC _⟩ rfl rfl hl.1 rfl (lv_room (Nat.le_of_ble_eq_true rfl)) dX5_innerRow_62 ⟨Nat.zero_le _, Nat.zero_le _⟩) (fun H locs hP hD hS => ?_)
        clear hC
        refine lv_bipush (v := 42) hx hb dX5_innerRow_65 (by decide) ?_
        refine lv_icmp_eq (tgt := 72) hx hb dX5_innerRow_67 (by decide) (fun c10 => ?_) (fun c10 => ?_)
        · have h := it_t h c10
          refine lv_aload_n hx hb dX5_innerRow_72 rfl (lv_at hl 2 rfl) ?_
          refine va_get (D := E.1) (ci := 4) (v := .ref (q1 0)) (C := RX5) (T := TX5) (N := 3) hx hb hg in_X5 hown X.1 hP 0 rfl rfl 0 (by decide) (hg _ wf_X5_12) (fun _ h9 => h9) rfl dX5_innerRow_73 ?_
          obtain ⟨u11, hc, h⟩ := bd_el h
          have hC : ([2, 3] : List Nat).map (fun i => (cw_X5 E q0 (q1 0) u5.2.1 ++ (cw_X9 E q1 u7.2))[i]?) = (cw_X9 E q1 u7.2).map some := rfl
          refine ct_v (ws' := cw_X5 E q0 (q1 0) u5.2.1 ++ (cw_X9 E q1 u11)) X hP hD hS [2, 3] (va_runV (C := RX9) (As := []) (rest := []) ⟨hx, hb, hml, hown, hg⟩ (c_X9_step l E q1 H.size u7.2 u11 hc) (cwV 0 hg (gwV wm_X5_55 wi_X9_step wsl_X9_step wini_X9 wco_X9_step) rfl rfl rfl (by decide +kernel) ⟨by dsimp only; omega, by dsimp only; omega⟩) ⟨ct_blind, ct_rv X.1 hP 2 rfl rfl, ct_pre X hP hD hS [2, 3] (by decide) hC _⟩ rfl rfl hl.1 rfl (lv_room (Nat.le_of_ble_eq_true rfl)) dX5_innerRow_76 ⟨Nat.zero_le _, Nat.zero_le _⟩) hC rfl rfl (fun H locs hP hD hS => ?_)
          clear hC
          refine lv_aload_n hx hb dX5_innerRow_79 rfl (lv_at hl 2 rfl) ?_
          refine va_get (D := E.1) (ci := 4) (v := .ref (q1 0)) (C := RX5) (T := TX5) (N := 3) hx hb hg in_X5 hown X.1 hP 0 rfl rfl 0 (by decide) (hg _ wf_X5_12) (fun _ h9 => h9) rfl dX5_innerRow_80 ?_
          refine lv_bipush (v := 50) hx hb dX5_innerRow_83 (by decide) ?_
          refine lv_bipush (v := 57) hx hb dX5_innerRow_85 (by decide) ?_
          obtain ⟨u12, hc, h⟩ := bd_el h
          have hC : ([2, 3] : List Nat).map (fun i => (cw_X5 E q0 (q1 0) u5.2.1 ++ (cw_X9 E q1 u11))[i]?) = (cw_X9 E q1 u11).map some := rfl
          refine ct_iR X hP hD hS [2, 3] hC (va_runV (C := RX9) (As := [.int 50, .int 57]) (rest := []) ⟨hx, hb, hml, hown, hg⟩ (c_X9_isAt l E q1 H.size u11 50 57 u12 hc) (cwV 2 hg (gwV wm_X5_51 wi_X9_isAt wsl_X9_isAt wini_X9 wco_X9_isAt) rfl rfl rfl (by decide +kernel) ⟨by dsimp only; omega, by dsimp only; omega⟩) ⟨ct_blind, ct_rv X.1 hP 2 rfl rfl, ct_pre X hP hD hS [2, 3] (by decide) hC _⟩ rfl rfl hl.1 rfl (lv_room (Nat.le_of_ble_eq_true rfl)) dX5_innerRow_87 ⟨Nat.zero_le _, Nat.zero_le _⟩) (fun H locs hP hD hS => ?_)
          clear hC
          refine lv_if_ne (tgt := 102) hx hb dX5_innerRow_90 (by decide) (fun c13 => ?_) (fun c13 => ?_)
          · have h := it_f h c13
            refine lv_aload_n hx hb dX5_innerRow_102 rfl (lv_at hl 2 rfl) ?_
            refine va_get (D := E.1) (ci := 4) (v := .ref (q1 0)) (C := RX5) (T := TX5) (N := 3) hx hb hg in_X5 hown X.1 hP 0 rfl rfl 0 (by decide) (hg _ wf_X5_12) (fun _ h9 => h9) rfl dX5_innerRow_103 ?_
            obtain ⟨u14, hc, h⟩ := bd_el h
            have hC : ([2, 3] : List Nat).map (fun i => (cw_X5 E q0 (q1 0) u5.2.1 ++ (cw_X9 E q1 u11))[i]?) = (cw_X9 E q1 u11).map some := rfl
            refine ct_iR X hP hD hS [2, 3] hC (va_runV (C := RX9) (As := []) (rest := []) ⟨hx, hb, hml, hown, hg⟩ (c_X9_peek l E q1 H.size u11 u14 hc) (cwV 0 hg (gwV wm_X5_37 wi_X9_peek wsl_X9_peek wini_X9 wco_X9_peek) rfl rfl rfl (by decide +kernel) ⟨by dsimp only; omega, by dsimp only; omega⟩) ⟨ct_blind, ct_rv X.1 hP 2 rfl rfl, ct_pre X hP hD hS [2, 3] (by decide) hC _⟩ rfl rfl hl.1 rfl (lv_room (Nat.le_of_ble_eq_true rfl)) dX5_innerRow_106 ⟨Nat.zero_le _, Nat.zero_le _⟩) (fun H locs hP hD hS => ?_)
            clear hC
            refine lv_bipush (v := 48) hx hb dX5_innerRow_109 (by decide) ?_
            refine lv_isub hx hb dX5_innerRow_111 ?_
            obtain ⟨v15, ev15, h⟩ := lt_el h
            refine lv_top' ev15 ?_
            refine lv_istore (lv' := [(4, .int v15), (3, .int v3), (2, .int v2), (0, .ref (q0 0)), (1, .int x1)]) hx hb dX5_innerRow_112 hl (by decide) rfl (fun ls hl => ?_)
            refine lv_aload_n hx hb dX5_innerRow_114 rfl (lv_at hl 3 rfl) ?_
            refine va_get (D := E.1) (ci := 4) (v := .ref (q1 0)) (C := RX5) (T := TX5) (N := 3) hx hb hg in_X5 hown X.1 hP 0 rfl rfl 0 (by decide) (hg _ wf_X5_12) (fun _ h9 => h9) rfl dX5_innerRow_115 ?_
            obtain ⟨u16, hc, h⟩ := bd_el h
            have hC : ([2, 3] : List Nat).map (fun i => (cw_X5 E q0 (q1 0) u5.2.1 ++ (cw_X9 E q1 u11))[i]?) = (cw_X9 E q1 u11).map some := rfl
            refine ct_v (ws' := cw_X5 E q0 (q1 0) u5.2.1 ++ (cw_X9 E q1 u16)) X hP hD hS [2, 3] (va_runV (C := RX9) (As := []) (rest := []) ⟨hx, hb, hml, hown, hg⟩ (c_X9_step l E q1 H.size u11 u16 hc) (cwV 0 hg (gwV wm_X5_55 wi_X9_step wsl_X9_step wini_X9 wco_X9_step) rfl rfl rfl (by decide +kernel) ⟨by dsimp only; omega, by dsimp only; omega⟩) ⟨ct_blind, ct_rv X.1 hP 2 rfl rfl, ct_pre X hP hD hS [2, 3] (by decide) hC _⟩ rfl rfl hl.1 rfl (lv_room (Nat.le_of_ble_eq_true rfl)) dX5_innerRow_118 ⟨Nat.zero_le _, Nat.zero_le _⟩) hC rfl rfl (fun H locs hP hD hS => ?_)
            clear hC
            refine lv_aload_n hx hb dX5_innerRow_121 rfl (lv_at hl 3 rfl) ?_
            refine va_get (D := E.1) (ci := 4) (v := .int (u5.2.1.1 2)) (C := RX5) (T := TX5) (N := 3) hx hb hg in_X5 hown X.1 hP 0 rfl rfl 2 (by decide) (hg _ wf_X5_22) (fun _ h9 => h9) rfl dX5_innerRow_122 ?_
            refine lv_iload_n hx hb dX5_innerRow_125 rfl (lv_at hl 1 rfl) ?_
            refine lv_isub hx hb dX5_innerRow_126 ?_
            obtain ⟨v17, ev17, h⟩ := lt_el h
            refine lv_top' ev17 ?_
            refine lv_istore (lv' := [(5, .int v17), (4, .int v15), (3, .int v3), (2, .int v2), (0, .ref (q0 0)), (1, .int x1)]) hx hb dX5_innerRow_127 hl (by decide) rfl (fun ls hl => ?_)
            refine lv_iload_n hx hb dX5_innerRow_129 rfl (lv_at hl 2 rfl) ?_
            refine lv_iload hx hb dX5_innerRow_130 (lv_at hl 0 rfl) ?_
            refine lv_iload hx hb dX5_innerRow_132 (lv_at hl 1 rfl) ?_
            refine lv_imul hx hb dX5_innerRow_134 ?_
            refine lv_iadd hx hb dX5_innerRow_135 ?_
            refine lv_bipush (v := 64) hx hb dX5_innerRow_136 (by decide) ?_
            refine lv_icmp_le (tgt := 152) hx hb dX5_innerRow_138 (by decide) (fun c18 => ?_) (fun c18 => ?_)
            · have h := it_t h c18
              refine lv_aload_n hx hb dX5_innerRow_152 rfl (lv_at hl 4 rfl) ?_
              refine lv_iload hx hb dX5_innerRow_153 (lv_at hl 0 rfl) ?_
              refine lv_iload hx hb dX5_innerRow_155 (lv_at hl 0 rfl) ?_
              refine lv_iload hx hb dX5_innerRow_157 (lv_at hl 1 rfl) ?_
              refine lv_iconst (v := 1) hx hb dX5_innerRow_159 (by decide) ?_
              refine lv_isub hx hb dX5_innerRow_160 ?_
              refine lv_imul hx hb dX5_innerRow_161 ?_
              obtain ⟨u19, hc, h⟩ := bd_el h
              refine ct_vA (w1 := cw_X5 E q0 (q1 0) u19 ++ (cw_X9 E q1 u16)) X hP hD hS (va_runV (C := RX5) (As := [.int v17, .int (v17 * (v15 - 1))]) (rest := []) ⟨hx, hb, hml, hown, hg⟩ (c_X5_repeat l E q0 q1 H.size u5.2.1 u16 v17 (v17 * (v15 - 1)) u19 hc) (cwV 2 hg (gwV wm_X5_67 wi_X5_repeat wsl_X5_repeat wini_X5 wco_X5_repeat) rfl rfl rfl (by decide +kernel) ⟨by dsimp only; omega, by dsimp only; omega⟩) ⟨ct_blind, ct_rv X.1 hP 0 rfl rfl, ct_preA X hP hD hS _⟩ rfl rfl hl.1 rfl (lv_room (Nat.le_of_ble_eq_true rfl)) dX5_innerRow_162 ⟨Nat.zero_le _, Nat.zero_le _⟩) (fun H locs hP hD hS => ?_)
              refine lv_iconst (v := 1) hx hb dX5_innerRow_165 (by decide) ?_
              exact RT 1 u19 u16 _ _ _ _ h (by decide +kernel) hP hD hS dX5_innerRow_166
            · have h := it_f h c18
              refine lv_aload_n hx hb dX5_innerRow_141 rfl (lv_at hl 4 rfl) ?_
              refine va_get (D := E.1) (ci := 4) (v := .ref (q1 0)) (C := RX5) (T := TX5) (N := 3) hx hb hg in_X5 hown X.1 hP 0 rfl rfl 0 (by decide) (hg _ wf_X5_12) (fun _ h9 => h9) rfl dX5_innerRow_142 ?_
              refine lv_bipush (v := 6) hx hb dX5_innerRow_145 (by decide) ?_
              refine lv_iload_n hx hb dX5_innerRow_147 rfl (lv_at hl 3 rfl) ?_
              obtain ⟨u20, hc, h⟩ := bd_el h
              have hC : ([2, 3] : List Nat).map (fun i => (cw_X5 E q0 (q1 0) u5.2.1 ++ (cw_X9 E q1 u16))[i]?) = (cw_X9 E q1 u16).map some := rfl
              refine ct_i (ws' := cw_X5 E q0 (q1 0) u5.2.1 ++ (cw_X9 E q1 u20.2)) X hP hD hS [2, 3] (va_runV (C := RX9) (As := [.int 6, .int v2]) (rest := []) ⟨hx, hb, hml, hown, hg⟩ (c_X9_failAt l E q1 H.size u16 6 v2 u20 hc) (cwV 2 hg (gwV wm_X5_64 wi_X9_failAt wsl_X9_failAt wini_X9 wco_X9_failAt) rfl rfl rfl (by decide +kernel) ⟨by dsimp only; omega, by dsimp only; omega⟩) ⟨ct_blind, ct_rv X.1 hP 2 rfl rfl, ct_pre X hP hD hS [2, 3] (by decide) hC _⟩ rfl rfl hl.1 rfl (lv_room (Nat.le_of_ble_eq_true rfl)) dX5_innerRow_148 ⟨Nat.zero_le _, Nat.zero_le _⟩) hC rfl rfl (fun H locs hP hD hS => ?_)
              clear hC
              obtain ⟨hn1, -, h⟩ := zb_el h
              exact RT u20.1 u5.2.1 u20.2 _ _ _ _ h hn1 hP hD hS dX5_innerRow_151
          · have h := it_t h c13
            refine lv_aload_n hx hb dX5_innerRow_93 rfl (lv_at hl 2 rfl) ?_
            refine va_get (D := E.1) (ci := 4) (v := .ref (q1 0)) (C := RX5) (T := TX5) (N := 3) hx hb hg in_X5 hown X.1 hP 0 rfl rfl 0 (by decide) (hg _ wf_X5_12) (fun _ h9 => h9) rfl dX5_innerRow_94 ?_
            refine lv_iconst (v := 1) hx hb dX5_innerRow_97 (by decide) ?_
            obtain ⟨u21, hc, h⟩ := bd_el h
            have hC : ([2, 3] : List Nat).map (fun i => (cw_X5 E q0 (q1 0) u5.2.1 ++ (cw_X9 E q1 u11))[i]?) = (cw_X9 E q1 u11).map some := rfl
            refine ct_i (ws' := cw_X5 E q0 (q1 0) u5.2.1 ++ (cw_X9 E q1 u21.2)) X hP hD hS [2, 3] (va_runV (C := RX9) (As := [.int 1]) (rest := []) ⟨hx, hb, hml, hown, hg⟩ (c_X9_fail l E q1 H.size u11 1 u21 hc) (cwV 1 hg (gwV wm_X5_48 wi_X9_fail wsl_X9_fail wini_X9 wco_X9_fail) rfl rfl rfl (by decide +kernel) ⟨by dsimp only; omega, by dsimp only; omega⟩) ⟨ct_blind, ct_rv X.1 hP 2 rfl rfl, ct_pre X hP hD hS [2, 3] (by decide) hC _⟩ rfl rfl hl.1 rfl (lv_room (Nat.le_of_ble_eq_true rfl)) dX5_innerRow_98 ⟨Nat.zero_le _, Nat.zero_le _⟩) hC rfl rfl (fun H locs hP hD hS => ?_)
            clear hC
            obtain ⟨hn1, -, h⟩ := zb_el h
            exact RT u21.1 u5.2.1 u21.2 _ _ _ _ h hn1 hP hD hS dX5_innerRow_101
        · have h := it_f h c10
          refine lv_iconst (v := 1) hx hb dX5_innerRow_70 (by decide) ?_
          exact RT 1 u5.2.1 u7.2 _ _ _ _ h (by decide +kernel) hP hD hS dX5_innerRow_71
      · have h := it_t h c8
        refine lv_iconst (v := 0) hx hb dX5_innerRow_56 (by decide) ?_
        exact RT 0 u5.2.1 u7.2 _ _ _ _ h (by decide +kernel) hP hD hS dX5_innerRow_57
  · have h := it_f h c1
    refine lv_aload_n hx hb dX5_innerRow_5 rfl (lv_at hl 0 rfl) ?_
    refine va_get (D := E.1) (ci := 4) (v := .ref (q1 0)) (C := RX5) (T := TX5) (N := 3) hx hb hg in_X5 hown X.1 hP 0 rfl rfl 0 (by decide) (hg _ wf_X5_12) (fun _ h9 => h9) rfl dX5_innerRow_6 ?_
    refine lv_iconst (v := 5) hx hb dX5_innerRow_9 (by decide) ?_
    obtain ⟨u22, hc, h⟩ := bd_el h
    have hC : ([2, 3] : List Nat).map (fun i => (cw_X5 E q0 (q1 0) S0 ++ (cw_X9 E q1 S1))[i]?) = (cw_X9 E q1 S1).map some := rfl
    refine ct_i (ws' := cw_X5 E q0 (q1 0) S0 ++ (cw_X9 E q1 u22.2)) X hP hD hS [2, 3] (va_runV (C := RX9) (As := [.int 5]) (rest := []) ⟨hx, hb, hml, hown, hg⟩ (c_X9_fail l E q1 H.size S1 5 u22 hc) (cwV 1 hg (gwV wm_X5_48 wi_X9_fail wsl_X9_fail wini_X9 wco_X9_fail) rfl rfl rfl (by decide +kernel) ⟨by dsimp only; omega, by dsimp only; omega⟩) ⟨ct_blind, ct_rv X.1 hP 2 rfl rfl, ct_pre X hP hD hS [2, 3] (by decide) hC _⟩ rfl rfl hl.1 rfl (lv_room (Nat.le_of_ble_eq_true rfl)) dX5_innerRow_10 ⟨Nat.zero_le _, Nat.zero_le _⟩) hC rfl rfl (fun H locs hP hD hS => ?_)
    clear hC
    obtain ⟨hn1, -, h⟩ := zb_el h
    exact RT u22.1 S0 u22.2 _ _ _ _ h hn1 hP hD hS dX5_innerRow_13
def kX5 : Nat → ((Gr → Gr → Int32 → Option (Int32 × Gr × Gr)) × (Gr → Gr → Int32 → Option (Int32 × Gr × Gr)))
  | 0 => (fun _ _ _ => none, fun _ _ _ => none)
  | d + 1 => (fo_X5_row (kX5 d).1 (kX5 d).2, fo_X5_innerRow (kX5 d).1 (kX5 d).2)
theorem kX5_met (l : Launch) (E : Ec) : ∀ d : Nat, (∀ (q0 q1 : Nat → Nat) (sz : Nat) (S0 : Gr) (S1 : Gr) (x1 : Int32) (Rv : Int32 × Gr × Gr), (kX5 d).1 S0 S1 x1 = some Rv → Met l yX5_row (wsM (.code yX5_row cX5_row 4 (some .boolean))) ({ frames := 10 * d + 10, cells := 0, slots := 0, locals := 300 * d + 300 } : Room) (va_Pc [.ref (q0 0), .int x1] (ctP E (cw_X5 E q0 (q1 0) S0 ++ (cw_X9 E q1 S1)) sz)) (ctI E (cw_X5 E q0 (q1 0) S0 ++ (cw_X9 E q1 S1)) (cw_X5 E q0 (q1 0) Rv.2.1 ++ (cw_X9 E q1 Rv.2.2)) sz Rv.1) 0 0 (va_A (cw_X5 E q0 (q1 0) S0 ++ (cw_X9 E q1 S1)) sz)) ∧ (∀ (q0 q1 : Nat → Nat) (sz : Nat) (S0 : Gr) (S1 : Gr) (x1 : Int32) (Rv : Int32 × Gr × Gr), (kX5 d).2 S0 S1 x1 = some Rv → Met l yX5_innerRow (wsM (.code yX5_innerRow cX5_innerRow 6 (some .boolean))) ({ frames := 10 * d + 10, cells := 0, slots := 0, locals := 300 * d + 300 } : Room) (va_Pc [.ref (q0 0), .int x1] (ctP E (cw_X5 E q0 (q1 0) S0 ++ (cw_X9 E q1 S1)) sz)) (ctI E (cw_X5 E q0 (q1 0) S0 ++ (cw_X9 E q1 S1)) (cw_X5 E q0 (q1 0) Rv.2.1 ++ (cw_X9 E q1 Rv.2.2)) sz Rv.1) 0 0 (va_A (cw_X5 E q0 (q1 0) S0 ++ (cw_X9 E q1 S1)) sz)) := by
  intro d
  induction d with
  | zero => exact ⟨fun _ _ _ _ _ _ _ h => nn_el h, fun _ _ _ _ _ _ _ h => nn_el h⟩
  | succ d ih =>
    obtain ⟨i0, i1⟩ := ih
    refine ⟨?_, ?_⟩
    · intro a0 a1 a2 a3 a4 a5 a6 h
      exact co_X5_row l E (10 * d + 10) (300 * d + 300) _ _ i0 i1 a0 a1 a2 a3 a4 a5 a6 h
    · intro a0 a1 a2 a3 a4 a5 a6 h
      exact co_X5_innerRow l E (10 * d + 10) (300 * d + 300) _ _ i0 i1 a0 a1 a2 a3 a4 a5 a6 h
def f_X5_row : Gr → Gr → Int32 → Option (Int32 × Gr × Gr) := (kX5 10).1
theorem c_X5_row (l : Launch) (E : Ec) : ∀ (q0 q1 : Nat → Nat) (sz : Nat) (S0 : Gr) (S1 : Gr) (x1 : Int32) (Rv : Int32 × Gr × Gr), f_X5_row S0 S1 x1 = some Rv → Met l yX5_row (wsM (.code yX5_row cX5_row 4 (some .boolean))) ({ frames := 110, cells := 0, slots := 0, locals := 3300 } : Room) (va_Pc [.ref (q0 0), .int x1] (ctP E (cw_X5 E q0 (q1 0) S0 ++ (cw_X9 E q1 S1)) sz)) (ctI E (cw_X5 E q0 (q1 0) S0 ++ (cw_X9 E q1 S1)) (cw_X5 E q0 (q1 0) Rv.2.1 ++ (cw_X9 E q1 Rv.2.2)) sz Rv.1) 0 0 (va_A (cw_X5 E q0 (q1 0) S0 ++ (cw_X9 E q1 S1)) sz) := (kX5_met l E 10).1
def f_X5_innerRow : Gr → Gr → Int32 → Option (Int32 × Gr × Gr) := (kX5 10).2
theorem c_X5_innerRow (l : Launch) (E : Ec) : ∀ (q0 q1 : Nat → Nat) (sz : Nat) (S0 : Gr) (S1 : Gr) (x1 : Int32) (Rv : Int32 × Gr × Gr), f_X5_innerRow S0 S1 x1 = some Rv → Met l yX5_innerRow (wsM (.code yX5_innerRow cX5_innerRow 6 (some .boolean))) ({ frames := 110, cells := 0, slots := 0, locals := 3300 } : Room) (va_Pc [.ref (q0 0), .int x1] (ctP E (cw_X5 E q0 (q1 0) S0 ++ (cw_X9 E q1 S1)) sz)) (ctI E (cw_X5 E q0 (q1 0) S0 ++ (cw_X9 E q1 S1)) (cw_X5 E q0 (q1 0) Rv.2.1 ++ (cw_X9 E q1 Rv.2.2)) sz Rv.1) 0 0 (va_A (cw_X5 E q0 (q1 0) S0 ++ (cw_X9 E q1 S1)) sz) := (kX5_met l E 10).2
theorem dX5_read_0 : decode cX5_read 0 = .ok (.aload_n 0, 1) := by decide +kernel
theorem dX5_read_1 : decode cX5_read 1 = .ok (.getfield 12, 3) := by decide +kernel
theorem dX5_read_4 : decode cX5_read 4 = .ok (.aload_n 1, 1) := by decide +kernel
theorem dX5_read_5 : decode cX5_read 5 = .ok (.iload_n 2, 1) := by decide +kernel
theorem dX5_read_6 : decode cX5_read 6 = .ok (.invokevirtual 26, 3) := by decide +kernel
theorem dX5_read_9 : decode cX5_read 9 = .ok (.aload_n 0, 1) := by decide +kernel
theorem dX5_read_10 : decode cX5_read 10 = .ok (.iconst 0, 1) := by decide +kernel
theorem dX5_read_11 : decode cX5_read 11 = .ok (.putfield 22, 3) := by decide +kernel
theorem dX5_read_14 : decode cX5_read 14 = .ok (.aload_n 0, 1) := by decide +kernel
theorem dX5_read_15 : decode cX5_read 15 = .ok (.iconst 0, 1) := by decide +kernel
theorem dX5_read_16 : decode cX5_read 16 = .ok (.invokevirtual 30, 3) := by decide +kernel
theorem dX5_read_19 : decode cX5_read 19 = .ok (.pop, 1) := by decide +kernel
theorem dX5_read_20 : decode cX5_read 20 = .ok (.aload_n 0, 1) := by decide +kernel
theorem dX5_read_21 : decode cX5_read 21 = .ok (.getfield 12, 3) := by decide +kernel
theorem dX5_read_24 : decode cX5_read 24 = .ok (.getfield 34, 3) := by decide +kernel
theorem dX5_read_27 : decode cX5_read 27 = .ok (.ireturn, 1) := by decide +kernel
def f_X5_read (S0 : Gr) (S1 : Gr) (S2 : Gr) (x2 : Int32) : Option (Int32 × Gr × Gr) := (f_X9_take S1 S2 x2).bind fun u1 => lt' (sI S0 2 0) fun S0_2 => (f_X5_row S0_2 u1 0).bind fun u3 => some ((u3.2.2.1 3), u3.2.1, u3.2.2)
set_option maxHeartbeats 4000000 in
set_option maxRecDepth 100000 in
theorem c_X5_read (l : Launch) (E : Ec) (q0 q1 q2 : Nat → Nat) (sz : Nat) (S0 : Gr) (S1 : Gr) (S2 : Gr) (x2 : Int32) (Rv : Int32 × Gr × Gr) (h : f_X5_read S0 S1 S2 x2 = some Rv) : Met l yX5_read (wsM (.code yX5_read cX5_read 3 (some .int))) ({ frames := 111, cells := 0, slots := 0, locals := 3323 } : Room) (va_Pc [.ref (q0 0), .ref (q2 0), .int x2] (ctP E (cw_X5 E q0 (q1 0) S0 ++ (cw_X9 E q1 S1 ++ (cw_X8 E q2 S2))) sz)) (ctI E (cw_X5 E q0 (q1 0) S0 ++ (cw_X9 E q1 S1 ++ (cw_X8 E q2 S2))) (cw_X5 E q0 (q1 0) Rv.2.1 ++ (cw_X9 E q1 Rv.2.2 ++ (cw_X8 E q2 S2))) sz Rv.1) 0 0 (va_A (cw_X5 E q0 (q1 0) S0 ++ (cw_X9 E q1 S1 ++ (cw_X8 E q2 S2))) sz) := by
  refine ct_metI (by decide) (Nat.le_of_ble_eq_true rfl) ?_
  intro p e s m ar below meth c A QM hx hb hml hown hg X hP hD hS RET ls hl
  have hown : s.vm.findClass RX5 = some m.cls := hown
  have hl : lv_has ls 3 [(0, .ref (q0 0)), (1, .ref (q2 0)), (2, .int x2)] := hl
  have RT : ∀ (v : Int32) (S0 : Gr) (S1 : Gr) (H : Heap) (locs : List Loc) (ls : Array Slot) (pc : Nat), some (v, S0, S1) = some Rv → narrow .int (.int v) = .int v → va_P E.1 vwCl (cw_X5 E q0 (q1 0) S0 ++ (cw_X9 E q1 S1 ++ (cw_X8 E q2 S2))) H → va_D A (cw_X5 E q0 (q1 0) S0 ++ (cw_X9 E q1 S1 ++ (cw_X8 E q2 S2))) → va_S A s.heap H locs → decode cX5_read pc = .ok (.ireturn, 1) → W p l e ({ frames := 111, cells := 0, slots := 0, locals := 3323 } : Room) s m ar below meth c H locs 0 0 QM (F0 m pc ls [.int v]) := by
    intro v S0 S1 H locs ls pc e hn hP hD hS d
    obtain rfl := sm_e e
    exact RET H locs pc ls hn hP hD hS d
  clear RET
  obtain ⟨H, eH⟩ : ∃ z, z = s.heap := ⟨_, rfl⟩
  rw [← eH]
  have hP : va_P E.1 vwCl (cw_X5 E q0 (q1 0) S0 ++ (cw_X9 E q1 S1 ++ (cw_X8 E q2 S2))) H := by rw [eH]; exact hP
  have hS : va_S A s.heap H [] := by rw [eH]; exact hS
  clear eH
  obtain ⟨locs, el⟩ : ∃ z : List Loc, z = [] := ⟨_, rfl⟩
  rw [← el] at hS ⊢
  clear el
  refine lv_aload_n hx hb dX5_read_0 rfl (lv_at hl 0 rfl) ?_
  refine va_get (D := E.1) (ci := 4) (v := .ref (q1 0)) (C := RX5) (T := TX5) (N := 3) hx hb hg in_X5 hown X.1 hP 0 rfl rfl 0 (by decide) (hg _ wf_X5_12) (fun _ h9 => h9) rfl dX5_read_1 ?_
  refine lv_aload_n hx hb dX5_read_4 rfl (lv_at hl 1 rfl) ?_
  refine lv_iload_n hx hb dX5_read_5 rfl (lv_at hl 2 rfl) ?_
  obtain ⟨u1, hc, h⟩ := bd_el h
  have hC : ([2, 3, 4, 5] : List Nat).map (fun i => (cw_X5 E q0 (q1 0) S0 ++ (cw_X9 E q1 S1 ++ (cw_X8 E q2 S2)))[i]?) = (cw_X9 E q1 S1 ++ (cw_X8 E q2 S2)).map some := rfl
  refine ct_v (ws' := cw_X5 E q0 (q1 0) S0 ++ (cw_X9 E q1 u1 ++ (cw_X8 E q2 S2))) X hP hD hS [2, 3, 4, 5] (va_runV (C := RX9) (As := [.ref (q2 0), .int x2]) (rest := []) ⟨hx, hb, hml, hown, hg⟩ (c_X9_take l E q1 q2 H.size S1 S2 x2 u1 hc) (cwV 2 hg (gwV wm_X5_26 wi_X9_take wsl_X9_take wini_X9 wco_X9_take) rfl rfl rfl (by decide +kernel) ⟨Nat.le_of_ble_eq_true rfl, Nat.le_of_ble_eq_true rfl⟩) ⟨ct_blind, ct_rv X.1 hP 2 rfl rfl, ct_pre X hP hD hS [2, 3, 4, 5] (by decide) hC _⟩ rfl rfl hl.1 rfl (lv_room (Nat.le_of_ble_eq_true rfl)) dX5_read_6 ⟨Nat.zero_le _, Nat.zero_le _⟩) hC rfl rfl (fun H locs hP hD hS => ?_)
  clear hC
  refine lv_aload_n hx hb dX5_read_9 rfl (lv_at hl 0 rfl) ?_
  refine lv_iconst (v := 0) hx hb dX5_read_10 (by decide) ?_
  obtain ⟨S0_2, eS, h⟩ := lt_el h
  refine va_put (D := E.1) (ci := 4) (v := .int 0) (ty := .int) (C := RX5) (T := TX5) (N := 3) hx hb hg in_X5 tyX5 tyX5_ok nmX5 hown X.1 hP hD hS 0 rfl rfl 2 (by decide) (hg _ wf_X5_22) (fun _ h9 => h9) rfl (by decide +kernel) rfl rfl (Nat.le_of_ble_eq_true rfl) dX5_read_11 (fun H locs hP hD hS => ?_)
  have hP : va_P E.1 vwCl (cw_X5 E q0 (q1 0) S0_2 ++ (cw_X9 E q1 u1 ++ (cw_X8 E q2 S2))) H := by rw [eS]; exact hP
  have hD : va_D A (cw_X5 E q0 (q1 0) S0_2 ++ (cw_X9 E q1 u1 ++ (cw_X8 E q2 S2))) := by rw [eS]; exact hD
  clear eS
  refine lv_aload_n hx hb dX5_read_14 rfl (lv_at hl 0 rfl) ?_
  refine lv_iconst (v := 0) hx hb dX5_read_15 (by decide) ?_
  obtain ⟨u3, hc, h⟩ := bd_el h
  have hC : ([0, 1, 2, 3] : List Nat).map (fun i => (cw_X5 E q0 (q1 0) S0_2 ++ (cw_X9 E q1 u1 ++ (cw_X8 E q2 S2)))[i]?) = (cw_X5 E q0 (q1 0) S0_2 ++ (cw_X9 E q1 u1)).map some := rfl
  refine ct_i (ws' := cw_X5 E q0 (q1 0) u3.2.1 ++ (cw_X9 E q1 u3.2.2 ++ (cw_X8 E q2 S2))) X hP hD hS [0, 1, 2, 3] (va_runV (C := RX5) (As := [.int 0]) (rest := []) ⟨hx, hb, hml, hown, hg⟩ (c_X5_row l E q0 q1 H.size S0_2 u1 0 u3 hc) (cwV 1 hg (gwV wm_X5_30 wi_X5_row wsl_X5_row wini_X5 wco_X5_row) rfl rfl rfl (by decide +kernel) ⟨Nat.le_of_ble_eq_true rfl, Nat.le_of_ble_eq_true rfl⟩) ⟨ct_blind, ct_rv X.1 hP 0 rfl rfl, ct_pre X hP hD hS [0, 1, 2, 3] (by decide) hC _⟩ rfl rfl hl.1 rfl (lv_room (Nat.le_of_ble_eq_true rfl)) dX5_read_16 ⟨Nat.zero_le _, Nat.zero_le _⟩) hC rfl rfl (fun H locs hP hD hS => ?_)
  clear hC
  refine lv_pop hx hb dX5_read_19 rfl ?_
  refine lv_aload_n hx hb dX5_read_20 rfl (lv_at hl 0 rfl) ?_
  refine va_get (D := E.1) (ci := 4) (v := .ref (q1 0)) (C := RX5) (T := TX5) (N := 3) hx hb hg in_X5 hown X.1 hP 0 rfl rfl 0 (by decide) (hg _ wf_X5_12) (fun _ h9 => h9) rfl dX5_read_21 ?_
  refine va_getN (D := E.1) (ci := 8) (v := .int (u3.2.2.1 3)) (C := RX9) (T := TX9) (N := 4) hx hb hg in_X9 hown X.1 hP 2 rfl rfl 3 (by decide) (va_Nw.use rfl (nf_X5_34 X.2.1)) (fun _ h9 => h9) rfl dX5_read_24 ?_
  exact RT (u3.2.2.1 3) u3.2.1 u3.2.2 _ _ _ _ h rfl hP hD hS dX5_read_27
theorem dX11_log_0 : decode cX11_log 0 = .ok (.iload_n 2, 1) := by decide +kernel
theorem dX11_log_1 : decode cX11_log 1 = .ok (.iconst 0, 1) := by decide +kernel
theorem dX11_log_2 : decode cX11_log 2 = .ok (.bipush 7, 2) := by decide +kernel
theorem dX11_log_4 : decode cX11_log 4 = .ok (.invokestatic 89, 3) := by decide +kernel
theorem dX11_log_7 : decode cX11_log 7 = .ok (.ifCond .ne 14, 3) := by decide +kernel
theorem dX11_log_10 : decode cX11_log 10 = .ok (.iload_n 2, 1) := by decide +kernel
theorem dX11_log_11 : decode cX11_log 11 = .ok (.bipush 100, 2) := by decide +kernel
theorem dX11_log_13 : decode cX11_log 13 = .ok (.bipush 104, 2) := by decide +kernel
theorem dX11_log_15 : decode cX11_log 15 = .ok (.invokestatic 89, 3) := by decide +kernel
theorem dX11_log_18 : decode cX11_log 18 = .ok (.ifCond .eq 7, 3) := by decide +kernel
theorem dX11_log_21 : decode cX11_log 21 = .ok (.iconst 1, 1) := by decide +kernel
theorem dX11_log_22 : decode cX11_log 22 = .ok (.goto 4, 3) := by decide +kernel
theorem dX11_log_25 : decode cX11_log 25 = .ok (.iconst 0, 1) := by decide +kernel
theorem dX11_log_26 : decode cX11_log 26 = .ok (.istore_n 3, 1) := by decide +kernel
theorem dX11_log_27 : decode cX11_log 27 = .ok (.iload_n 1, 1) := by decide +kernel
theorem dX11_log_28 : decode cX11_log 28 = .ok (.iconst 1, 1) := by decide +kernel
theorem dX11_log_29 : decode cX11_log 29 = .ok (.bipush 80, 2) := by decide +kernel
theorem dX11_log_31 : decode cX11_log 31 = .ok (.invokestatic 89, 3) := by decide +kernel
theorem dX11_log_34 : decode cX11_log 34 = .ok (.ifCond .eq 18, 3) := by decide +kernel
theorem dX11_log_37 : decode cX11_log 37 = .ok (.iload_n 3, 1) := by decide +kernel
theorem dX11_log_38 : decode cX11_log 38 = .ok (.ifCond .eq 14, 3) := by decide +kernel
theorem dX11_log_41 : decode cX11_log 41 = .ok (.aload_n 0, 1) := by decide +kernel
theorem dX11_log_42 : decode cX11_log 42 = .ok (.getfield 10, 3) := by decide +kernel
theorem dX11_log_45 : decode cX11_log 45 = .ok (.iload_n 1, 1) := by decide +kernel
theorem dX11_log_46 : decode cX11_log 46 = .ok (.invokevirtual 108, 3) := by decide +kernel
theorem dX11_log_49 : decode cX11_log 49 = .ok (.ifCond .ne 5, 3) := by decide +kernel
theorem dX11_log_52 : decode cX11_log 52 = .ok (.iconst (-1), 1) := by decide +kernel
theorem dX11_log_53 : decode cX11_log 53 = .ok (.ireturn, 1) := by decide +kernel
theorem dX11_log_54 : decode cX11_log 54 = .ok (.aload_n 0, 1) := by decide +kernel
theorem dX11_log_55 : decode cX11_log 55 = .ok (.getfield 33, 3) := by decide +kernel
theorem dX11_log_58 : decode cX11_log 58 = .ok (.aload_n 0, 1) := by decide +kernel
theorem dX11_log_59 : decode cX11_log 59 = .ok (.getfield 10, 3) := by decide +kernel
theorem dX11_log_62 : decode cX11_log 62 = .ok (.iload_n 1, 1) := by decide +kernel
theorem dX11_log_63 : decode cX11_log 63 = .ok (.invokevirtual 219, 3) := by decide +kernel
theorem dX11_log_66 : decode cX11_log 66 = .ok (.istore 4, 2) := by decide +kernel
theorem dX11_log_68 : decode cX11_log 68 = .ok (.aload_n 0, 1) := by decide +kernel
theorem dX11_log_69 : decode cX11_log 69 = .ok (.getfield 10, 3) := by decide +kernel
theorem dX11_log_72 : decode cX11_log 72 = .ok (.invokevirtual 115, 3) := by decide +kernel
theorem dX11_log_75 : decode cX11_log 75 = .ok (.iload 4, 2) := by decide +kernel
theorem dX11_log_77 : decode cX11_log 77 = .ok (.ifCond .ge 8, 3) := by decide +kernel
theorem dX11_log_80 : decode cX11_log 80 = .ok (.iload 4, 2) := by decide +kernel
theorem dX11_log_82 : decode cX11_log 82 = .ok (.goto 11, 3) := by decide +kernel
theorem dX11_log_85 : decode cX11_log 85 = .ok (.aload_n 0, 1) := by decide +kernel
theorem dX11_log_86 : decode cX11_log 86 = .ok (.getfield 33, 3) := by decide +kernel
theorem dX11_log_89 : decode cX11_log 89 = .ok (.iload_n 2, 1) := by decide +kernel
theorem dX11_log_90 : decode cX11_log 90 = .ok (.invokevirtual 222, 3) := by decide +kernel
theorem dX11_log_93 : decode cX11_log 93 = .ok (.ireturn, 1) := by decide +kernel
def f_X11_log_n26 (S0 : Gr) (x1 : Int32) (x2 : Int32) (S1 : Gr) (S2 : Gr) (S3 : Gr) (w0 : Int32) : Option (Int32 × Gr × Gr × Gr) := (f_X11_within x1 1 80).bind fun u5 => if u5 = 0 then (some ((-1), S1, S2, S3)) else (if w0 = 0 then (some ((-1), S1, S2, S3)) else ((f_X8_has S1 x1).bind fun u8 => if u8 = 0 then (some ((-1), S1, S2, S3)) else ((f_X5_read S2 S3 S1 x1).bind fun u10 => (f_X8_empty S1).bind fun u11 => if 0 ≤ u10.1 then ((f_X5_answer u10.2.1 u10.2.2 x2).bind fun u13 => some (u13, u11, u10.2.1, u10.2.2)) else (some (u10.1, u11, u10.2.1, u10.2.2)))))
def f_X11_log (S0 : Gr) (S1 : Gr) (S2 : Gr) (S3 : Gr) (x1 : Int32) (x2 : Int32) : Option (Int32 × Gr × Gr × Gr) := (f_X11_within x2 0 7).bind fun u1 => if u1 = 0 then ((f_X11_within x2 100 104).bind fun u3 => if u3 = 0 then (f_X11_log_n26 S0 x1 x2 S1 S2 S3 0) else (f_X11_log_n26 S0 x1 x2 S1 S2 S3 1)) else (f_X11_log_n26 S0 x1 x2 S1 S2 S3 1)
set_option maxHeartbeats 4000000 in
set_option maxRecDepth 100000 in
theorem c_X11_log (l : Launch) (E : Ec) (q0 q1 q2 q3 : Nat → Nat) (t1 t2 t4 t5 t6 t7 t8 t9 t10 t11 : Nat) (sz : Nat) (S0 : Gr) (S1 : Gr) (S2 : Gr) (S3 : Gr) (x1 : Int32) (x2 : Int32) (Rv : Int32 × Gr × Gr × Gr) (h : f_X11_log S0 S1 S2 S3 x1 x2 = some Rv) : Met l yX11_log (wsM (.code yX11_log cX11_log 5 (some .int))) ({ frames := 112, cells := 0, slots := 0, locals := 3345 } : Room) (va_Pc [.ref (q0 0), .int x1, .int x2] (ctP E (cw_X11 E q0 (q1 0) t1 t2 (q2 0) t4 t5 t6 t7 t8 t9 t10 t11 S0 ++ (cw_X8 E q1 S1 ++ (cw_X5 E q2 (q3 0) S2 ++ (cw_X9 E q3 S3)))) sz)) (ctI E (cw_X11 E q0 (q1 0) t1 t2 (q2 0) t4 t5 t6 t7 t8 t9 t10 t11 S0 ++ (cw_X8 E q1 S1 ++ (cw_X5 E q2 (q3 0) S2 ++ (cw_X9 E q3 S3)))) (cw_X11 E q0 (q1 0) t1 t2 (q2 0) t4 t5 t6 t7 t8 t9 t10 t11 S0 ++ (cw_X8 E q1 Rv.2.1 ++ (cw_X5 E q2 (q3 0) Rv.2.2.1 ++ (cw_X9 E q3 Rv.2.2.2)))) sz Rv.1) 0 0 (va_A (cw_X11 E q0 (q1 0) t1 t2 (q2 0) t4 t5 t6 t7 t8 t9 t10 t11 S0 ++ (cw_X8 E q1 S1 ++ (cw_X5 E q2 (q3 0) S2 ++ (cw_X9 E q3 S3)))) sz) := by
  refine ct_metI (by decide) (Nat.le_of_ble_eq_true rfl) ?_
  intro p e s m ar below meth c A QM hx hb hml hown hg X hP hD hS RET ls hl
  have hown : s.vm.findClass RX11 = some m.cls := hown
  have hl : lv_has ls 5 [(0, .ref (q0 0)), (1, .int x1), (2, .int x2)] := hl
  have RT : ∀ (v : Int32) (S1 : Gr) (S2 : Gr) (S3 : Gr) (H : Heap) (locs : List Loc) (ls : Array Slot) (pc : Nat), some (v, S1, S2, S3) = some Rv → narrow .int (.int v) = .int v → va_P E.1 vwCl (cw_X11 E q0 (q1 0) t1 t2 (q2 0) t4 t5 t6 t7 t8 t9 t10 t11 S0 ++ (cw_X8 E q1 S1 ++ (cw_X5 E q2 (q3 0) S2 ++ (cw_X9 E q3 S3)))) H → va_D A (cw_X11 E q0 (q1 0) t1 t2 (q2 0) t4 t5 t6 t7 t8 t9 t10 t11 S0 ++ (cw_X8 E q1 S1 ++ (cw_X5 E q2 (q3 0) S2 ++ (cw_X9 E q3 S3)))) → va_S A s.heap H locs → decode cX11_log pc = .ok (.ireturn, 1) → W p l e ({ frames := 112, cells := 0, slots := 0, locals := 3345 } : Room) s m ar below meth c H locs 0 0 QM (F0 m pc ls [.int v]) := by
    intro v S1 S2 S3 H locs ls pc e hn hP hD hS d
    obtain rfl := sm_e e
    exact RET H locs pc ls hn hP hD hS d
  clear RET
  have N26 : ∀ (S1 : Gr) (S2 : Gr) (S3 : Gr) (w0 : Int32) (H : Heap) (locs : List Loc) (ls : Array Slot), f_X11_log_n26 S0 x1 x2 S1 S2 S3 w0 = some Rv → va_P E.1 vwCl (cw_X11 E q0 (q1 0) t1 t2 (q2 0) t4 t5 t6 t7 t8 t9 t10 t11 S0 ++ (cw_X8 E q1 S1 ++ (cw_X5 E q2 (q3 0) S2 ++ (cw_X9 E q3 S3)))) H → va_D A (cw_X11 E q0 (q1 0) t1 t2 (q2 0) t4 t5 t6 t7 t8 t9 t10 t11 S0 ++ (cw_X8 E q1 S1 ++ (cw_X5 E q2 (q3 0) S2 ++ (cw_X9 E q3 S3)))) → va_S A s.heap H locs → lv_has ls 5 [(0, .ref (q0 0)), (1, .int x1), (2, .int x2)] → W p l e ({ frames := 112, cells := 0, slots := 0, locals := 3345 } : Room) s m ar below meth c H locs 0 0 QM (F0 m 26 ls [.int w0]) := by
    intro S1 S2 S3 w0 H locs ls h hP hD hS hl
    refine lv_istore_n (lv' := [(3, .int w0), (0, .ref (q0 0)), (1, .int x1), (2, .int x2)]) hx hb dX11_log_26 rfl hl (by decide) rfl (fun ls hl => ?_)
    refine lv_iload_n hx hb dX11_log_27 rfl (lv_at hl 2 rfl) ?_
    refine lv_iconst (v := 1) hx hb dX11_log_28 (by decide) ?_
    refine lv_bipush (v := 80) hx hb dX11_log_29 (by decide) ?_
    obtain ⟨u5, hc, h⟩ := bd_el h
    refine ct_iN X hP hD hS (va_runS (As := [.int x1, .int 1, .int 80]) (rest := []) ⟨hx, hb, hml, hown, hg⟩ (c_X11_within l E  H.size x1 1 80 u5 hc) (va_cwS 3 hg (gwS wm_X11_89 wst_X11_within wini_X11 wco_X11_within) rfl rfl rfl (by decide +kernel) ⟨Nat.le_of_ble_eq_true rfl, Nat.le_of_ble_eq_true rfl⟩) ⟨ct_blind, ct_preN X hS _⟩ rfl rfl hl.1 rfl (lv_room (Nat.le_of_ble_eq_true rfl)) dX11_log_31 ⟨Nat.zero_le _, Nat.zero_le _⟩) (fun H locs hP hD hS => ?_)
    refine lv_if_eq (tgt := 52) hx hb dX11_log_34 (by decide) (fun c6 => ?_) (fun c6 => ?_)
    · have h := it_t h c6
      refine lv_iconst (v := (-1)) hx hb dX11_log_52 (by decide) ?_
      exact RT (-1) S1 S2 S3 _ _ _ _ h rfl hP hD hS dX11_log_53
    · have h := it_f h c6
      refine lv_iload_n hx hb dX11_log_37 rfl (lv_at hl 0 rfl) ?_
      refine lv_if_eq (tgt := 52) hx hb dX11_log_38 (by decide) (fun c7 => ?_) (fun c7 => ?_)
      · have h := it_t h c7
        refine lv_iconst (v := (-1)) hx hb dX11_log_52 (by decide) ?_
        exact RT (-1) S1 S2 S3 _ _ _ _ h rfl hP hD hS dX11_log_53
      · have h := it_f h c7
        refine lv_aload_n hx hb dX11_log_41 rfl (lv_at hl 1 rfl) ?_
        refine va_get (D := E.1) (ci := 10) (v := .ref (q1 0)) (C := RX11) (T := TX11) (N := 13) hx hb hg in_X11 hown X.1 hP 0 rfl rfl 0 (by decide) (hg _ wf_X11_10) (fun _ h9 => h9) rfl dX11_log_42 ?_
        refine lv_iload_n hx hb dX11_log_45 rfl (lv_at hl 2 rfl) ?_
        obtain ⟨u8, hc, h⟩ := bd_el h
        have hC : ([1, 2] : List Nat).map (fun i => (cw_X11 E q0 (q1 0) t1 t2 (q2 0) t4 t5 t6 t7 t8 t9 t10 t11 S0 ++ (cw_X8 E q1 S1 ++ (cw_X5 E q2 (q3 0) S2 ++ (cw_X9 E q3 S3))))[i]?) = (cw_X8 E q1 S1).map some := rfl
        refine ct_iR X hP hD hS [1, 2] hC (va_runV (C := RX8) (As := [.int x1]) (rest := []) ⟨hx, hb, hml, hown, hg⟩ (c_X8_has l E q1 H.size S1 x1 u8 hc) (cwV 1 hg (gwV wm_X11_108 wi_X8_has wsl_X8_has wini_X8 wco_X8_has) rfl rfl rfl (by decide +kernel) ⟨Nat.le_of_ble_eq_true rfl, Nat.le_of_ble_eq_true rfl⟩) ⟨ct_blind, ct_rv X.1 hP 1 rfl rfl, ct_pre X hP hD hS [1, 2] (by decide) hC _⟩ rfl rfl hl.1 rfl (lv_room (Nat.le_of_ble_eq_true rfl)) dX11_log_46 ⟨Nat.zero_le _, Nat.zero_le _⟩) (fun H locs hP hD hS => ?_)
        clear hC
        refine lv_if_ne (tgt := 54) hx hb dX11_log_49 (by decide) (fun c9 => ?_) (fun c9 => ?_)
        · have h := it_f h c9
          refine lv_aload_n hx hb dX11_log_54 rfl (lv_at hl 1 rfl) ?_
          refine va_get (D := E.1) (ci := 10) (v := .ref (q2 0)) (C := RX11) (T := TX11) (N := 13) hx hb hg in_X11 hown X.1 hP 0 rfl rfl 3 (by decide) (hg _ wf_X11_33) (fun _ h9 => h9) rfl dX11_log_55 ?_
          refine lv_aload_n hx hb dX11_log_58 rfl (lv_at hl 1 rfl) ?_
          refine va_get (D := E.1) (ci := 10) (v := .ref (q1 0)) (C := RX11) (T := TX11) (N := 13) hx hb hg in_X11 hown X.1 hP 0 rfl rfl 0 (by decide) (hg _ wf_X11_10) (fun _ h9 => h9) rfl dX11_log_59 ?_
          refine lv_iload_n hx hb dX11_log_62 rfl (lv_at hl 2 rfl) ?_
          obtain ⟨u10, hc, h⟩ := bd_el h
          have hC : ([3, 4, 5, 6, 1, 2] : List Nat).map (fun i => (cw_X11 E q0 (q1 0) t1 t2 (q2 0) t4 t5 t6 t7 t8 t9 t10 t11 S0 ++ (cw_X8 E q1 S1 ++ (cw_X5 E q2 (q3 0) S2 ++ (cw_X9 E q3 S3))))[i]?) = (cw_X5 E q2 (q3 0) S2 ++ (cw_X9 E q3 S3 ++ (cw_X8 E q1 S1))).map some := rfl
          refine ct_i (ws' := cw_X11 E q0 (q1 0) t1 t2 (q2 0) t4 t5 t6 t7 t8 t9 t10 t11 S0 ++ (cw_X8 E q1 S1 ++ (cw_X5 E q2 (q3 0) u10.2.1 ++ (cw_X9 E q3 u10.2.2)))) X hP hD hS [3, 4, 5, 6, 1, 2] (va_runV (C := RX5) (As := [.ref (q1 0), .int x1]) (rest := []) ⟨hx, hb, hml, hown, hg⟩ (c_X5_read l E q2 q3 q1 H.size S2 S3 S1 x1 u10 hc) (cwV 2 hg (gwV wm_X11_219 wi_X5_read wsl_X5_read wini_X5 wco_X5_read) rfl rfl rfl (by decide +kernel) ⟨Nat.le_of_ble_eq_true rfl, Nat.le_of_ble_eq_true rfl⟩) ⟨ct_blind, ct_rv X.1 hP 3 rfl rfl, ct_pre X hP hD hS [3, 4, 5, 6, 1, 2] (by decide) hC _⟩ rfl rfl hl.1 rfl (lv_room (Nat.le_of_ble_eq_true rfl)) dX11_log_63 ⟨Nat.zero_le _, Nat.zero_le _⟩) hC rfl rfl (fun H locs hP hD hS => ?_)
          clear hC
          refine lv_istore (lv' := [(4, .int u10.1), (3, .int w0), (0, .ref (q0 0)), (1, .int x1), (2, .int x2)]) hx hb dX11_log_66 hl (by decide) rfl (fun ls hl => ?_)
          refine lv_aload_n hx hb dX11_log_68 rfl (lv_at hl 2 rfl) ?_
          refine va_get (D := E.1) (ci := 10) (v := .ref (q1 0)) (C := RX11) (T := TX11) (N := 13) hx hb hg in_X11 hown X.1 hP 0 rfl rfl 0 (by decide) (hg _ wf_X11_10) (fun _ h9 => h9) rfl dX11_log_69 ?_
          obtain ⟨u11, hc, h⟩ := bd_el h
          have hC : ([1, 2] : List Nat).map (fun i => (cw_X11 E q0 (q1 0) t1 t2 (q2 0) t4 t5 t6 t7 t8 t9 t10 t11 S0 ++ (cw_X8 E q1 S1 ++ (cw_X5 E q2 (q3 0) u10.2.1 ++ (cw_X9 E q3 u10.2.2))))[i]?) = (cw_X8 E q1 S1).map some := rfl
          refine ct_v (ws' := cw_X11 E q0 (q1 0) t1 t2 (q2 0) t4 t5 t6 t7 t8 t9 t10 t11 S0 ++ (cw_X8 E q1 u11 ++ (cw_X5 E q2 (q3 0) u10.2.1 ++ (cw_X9 E q3 u10.2.2)))) X hP hD hS [1, 2] (va_runV (C := RX8) (As := []) (rest := []) ⟨hx, hb, hml, hown, hg⟩ (c_X8_empty l E q1 H.size S1 u11 hc) (cwV 0 hg (gwV wm_X11_115 wi_X8_empty wsl_X8_empty wini_X8 wco_X8_empty) rfl rfl rfl (by decide +kernel) ⟨Nat.le_of_ble_eq_true rfl, Nat.le_of_ble_eq_true rfl⟩) ⟨ct_blind, ct_rv X.1 hP 1 rfl rfl, ct_pre X hP hD hS [1, 2] (by decide) hC _⟩ rfl rfl hl.1 rfl (lv_room (Nat.le_of_ble_eq_true rfl)) dX11_log_72 ⟨Nat.zero_le _, Nat.zero_le _⟩) hC rfl rfl (fun H locs hP hD hS => ?_)
          clear hC
          refine lv_iload hx hb dX11_log_75 (lv_at hl 0 rfl) ?_
          refine lv_if_ge (tgt := 85) hx hb dX11_log_77 (by decide) (fun c12 => ?_) (fun c12 => ?_)
          · have h := it_t h c12
            refine lv_aload_n hx hb dX11_log_85 rfl (lv_at hl 2 rfl) ?_
            refine va_get (D := E.1) (ci := 10) (v := .ref (q2 0)) (C := RX11) (T := TX11) (N := 13) hx hb hg in_X11 hown X.1 hP 0 rfl rfl 3 (by decide) (hg _ wf_X11_33) (fun _ h9 => h9) rfl dX11_log_86 ?_
            refine lv_iload_n hx hb dX11_log_89 rfl (lv_at hl 4 rfl) ?_
            obtain ⟨u13, hc, h⟩ := bd_el h
            have hC : ([3, 4, 5, 6] : List Nat).map (fun i => (cw_X11 E q0 (q1 0) t1 t2 (q2 0) t4 t5 t6 t7 t8 t9 t10 t11 S0 ++ (cw_X8 E q1 u11 ++ (cw_X5 E q2 (q3 0) u10.2.1 ++ (cw_X9 E q3 u10.2.2))))[i]?) = (cw_X5 E q2 (q3 0) u10.2.1 ++ (cw_X9 E q3 u10.2.2)).map some := rfl
            refine ct_iR X hP hD hS [3, 4, 5, 6] hC (va_runV (C := RX5) (As := [.int x2]) (rest := []) ⟨hx, hb, hml, hown, hg⟩ (c_X5_answer l E q2 q3 H.size u10.2.1 u10.2.2 x2 u13 hc) (cwV 1 hg (gwV wm_X11_222 wi_X5_answer wsl_X5_answer wini_X5 wco_X5_answer) rfl rfl rfl (by decide +kernel) ⟨Nat.le_of_ble_eq_true rfl, Nat.le_of_ble_eq_true rfl⟩) ⟨ct_blind, ct_rv X.1 hP 3 rfl rfl, ct_pre X hP hD hS [3, 4, 5, 6] (by decide) hC _⟩ rfl rfl hl.1 rfl (lv_room (Nat.le_of_ble_eq_true rfl)) dX11_log_90 ⟨Nat.zero_le _, Nat.zero_le _⟩) (fun H locs hP hD hS => ?_)
            clear hC
            exact RT u13 u11 u10.2.1 u10.2.2 _ _ _ _ h rfl hP hD hS dX11_log_93
          · have h := it_f h c12
            refine lv_iload hx hb dX11_log_80 (lv_at hl 0 rfl) ?_
            refine lv_goto (tgt := 93) hx hb dX11_log_82 (by decide) ?_
            exact RT u10.1 u11 u10.2.1 u10.2.2 _ _ _ _ h rfl hP hD hS dX11_log_93
        · have h := it_t h c9
          refine lv_iconst (v := (-1)) hx hb dX11_log_52 (by decide) ?_
          exact RT (-1) S1 S2 S3 _ _ _ _ h rfl hP hD hS dX11_log_53
  obtain ⟨H, eH⟩ : ∃ z, z = s.heap := ⟨_, rfl⟩
  rw [← eH]
  have hP : va_P E.1 vwCl (cw_X11 E q0 (q1 0) t1 t2 (q2 0) t4 t5 t6 t7 t8 t9 t10 t11 S0 ++ (cw_X8 E q1 S1 ++ (cw_X5 E q2 (q3 0) S2 ++ (cw_X9 E q3 S3)))) H := by rw [eH]; exact hP
  have hS : va_S A s.heap H [] := by rw [eH]; exact hS
  clear eH
  obtain ⟨locs, el⟩ : ∃ z : List Loc, z = [] := ⟨_, rfl⟩
  rw [← el] at hS ⊢
  clear el
  refine lv_iload_n hx hb dX11_log_0 rfl (lv_at hl 2 rfl) ?_
  refine lv_iconst (v := 0) hx hb dX11_log_1 (by decide) ?_
  refine lv_bipush (v := 7) hx hb dX11_log_2 (by decide) ?_
  obtain ⟨u1, hc, h⟩ := bd_el h
  refine ct_iN X hP hD hS (va_runS (As := [.int x2, .int 0, .int 7]) (rest := []) ⟨hx, hb, hml, hown, hg⟩ (c_X11_within l E  H.size x2 0 7 u1 hc) (va_cwS 3 hg (gwS wm_X11_89 wst_X11_within wini_X11 wco_X11_within) rfl rfl rfl (by decide +kernel) ⟨Nat.le_of_ble_eq_true rfl, Nat.le_of_ble_eq_true rfl⟩) ⟨ct_blind, ct_preN X hS _⟩ rfl rfl hl.1 rfl (lv_room (Nat.le_of_ble_eq_true rfl)) dX11_log_4 ⟨Nat.zero_le _, Nat.zero_le _⟩) (fun H locs hP hD hS => ?_)
  refine lv_if_ne (tgt := 21) hx hb dX11_log_7 (by decide) (fun c2 => ?_) (fun c2 => ?_)
  · have h := it_f h c2
    refine lv_iconst (v := 1) hx hb dX11_log_21 (by decide) ?_
    refine lv_goto (tgt := 26) hx hb dX11_log_22 (by decide) ?_
    exact N26  S1 S2 S3 1 _ _ _ h hP hD hS (lv_sub hl [0, 1, 2] rfl)
  · have h := it_t h c2
    refine lv_iload_n hx hb dX11_log_10 rfl (lv_at hl 2 rfl) ?_
    refine lv_bipush (v := 100) hx hb dX11_log_11 (by decide) ?_
    refine lv_bipush (v := 104) hx hb dX11_log_13 (by decide) ?_
    obtain ⟨u3, hc, h⟩ := bd_el h
    refine ct_iN X hP hD hS (va_runS (As := [.int x2, .int 100, .int 104]) (rest := []) ⟨hx, hb, hml, hown, hg⟩ (c_X11_within l E  H.size x2 100 104 u3 hc) (va_cwS 3 hg (gwS wm_X11_89 wst_X11_within wini_X11 wco_X11_within) rfl rfl rfl (by decide +kernel) ⟨Nat.le_of_ble_eq_true rfl, Nat.le_of_ble_eq_true rfl⟩) ⟨ct_blind, ct_preN X hS _⟩ rfl rfl hl.1 rfl (lv_room (Nat.le_of_ble_eq_true rfl)) dX11_log_15 ⟨Nat.zero_le _, Nat.zero_le _⟩) (fun H locs hP hD hS => ?_)
    refine lv_if_eq (tgt := 25) hx hb dX11_log_18 (by decide) (fun c4 => ?_) (fun c4 => ?_)
    · have h := it_t h c4
      refine lv_iconst (v := 0) hx hb dX11_log_25 (by decide) ?_
      exact N26  S1 S2 S3 0 _ _ _ h hP hD hS (lv_sub hl [0, 1, 2] rfl)
    · have h := it_f h c4
      refine lv_iconst (v := 1) hx hb dX11_log_21 (by decide) ?_
      refine lv_goto (tgt := 26) hx hb dX11_log_22 (by decide) ?_
      exact N26  S1 S2 S3 1 _ _ _ h hP hD hS (lv_sub hl [0, 1, 2] rfl)
