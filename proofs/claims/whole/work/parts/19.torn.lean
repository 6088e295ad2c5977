theorem dX10_isTorn_0 : decode cX10_isTorn 0 = .ok (.aload_n 0, 1) := by decide +kernel
theorem dX10_isTorn_1 : decode cX10_isTorn 1 = .ok (.iload_n 1, 1) := by decide +kernel
theorem dX10_isTorn_2 : decode cX10_isTorn 2 = .ok (.invokevirtual 42, 3) := by decide +kernel
theorem dX10_isTorn_5 : decode cX10_isTorn 5 = .ok (.iload_n 2, 1) := by decide +kernel
theorem dX10_isTorn_6 : decode cX10_isTorn 6 = .ok (.ishr, 1) := by decide +kernel
theorem dX10_isTorn_7 : decode cX10_isTorn 7 = .ok (.iconst 1, 1) := by decide +kernel
theorem dX10_isTorn_8 : decode cX10_isTorn 8 = .ok (.iand, 1) := by decide +kernel
theorem dX10_isTorn_9 : decode cX10_isTorn 9 = .ok (.iconst 1, 1) := by decide +kernel
theorem dX10_isTorn_10 : decode cX10_isTorn 10 = .ok (.if_icmp .ne 7, 3) := by decide +kernel
theorem dX10_isTorn_13 : decode cX10_isTorn 13 = .ok (.iconst 1, 1) := by decide +kernel
theorem dX10_isTorn_14 : decode cX10_isTorn 14 = .ok (.goto 4, 3) := by decide +kernel
theorem dX10_isTorn_17 : decode cX10_isTorn 17 = .ok (.iconst 0, 1) := by decide +kernel
theorem dX10_isTorn_18 : decode cX10_isTorn 18 = .ok (.ireturn, 1) := by decide +kernel
def f_X10_isTorn (S0 : Gr) (x1 : Int32) (x2 : Int32) : Option (Int32) := (f_X8_at S0 x1).bind fun u1 => if ((u1 >>> (x2 &&& 31)) &&& 1) = 1 then (some 1) else (some 0)
set_option maxHeartbeats 4000000 in
set_option maxRecDepth 100000 in
theorem c_X10_isTorn (l : Launch) (E : Ec) (q0 : Nat → Nat) (sz : Nat) (S0 : Gr) (x1 : Int32) (x2 : Int32) (Rv : Int32) (h : f_X10_isTorn S0 x1 x2 = some Rv) : Met l yX10_isTorn (wsM (.code yX10_isTorn cX10_isTorn 3 (some .boolean))) ({ frames := 2, cells := 0, slots := 0, locals := 43 } : Room) (va_Pc [.ref (q0 0), .int x1, .int x2] (ctP E (cw_X8 E q0 S0) sz)) (ctI E (cw_X8 E q0 S0) (cw_X8 E q0 S0) sz Rv) 0 0 (va_A (cw_X8 E q0 S0) sz) := by
  refine ct_metI (by decide) (Nat.le_of_ble_eq_true rfl) ?_
  intro p e s m ar below meth c A QM hx hb hml hown hg X hP hD hS RET ls hl
  have hown : s.vm.findClass RX10 = some m.cls := hown
  have hl : lv_has ls 3 [(0, .ref (q0 0)), (1, .int x1), (2, .int x2)] := hl
  have RT : ∀ (v : Int32) (H : Heap) (locs : List Loc) (ls : Array Slot) (pc : Nat), some v = some Rv → narrow .boolean (.int v) = .int v → va_P E.1 vwCl (cw_X8 E q0 S0) H → va_D A (cw_X8 E q0 S0) → va_S A s.heap H locs → decode cX10_isTorn pc = .ok (.ireturn, 1) → W p l e ({ frames := 2, cells := 0, slots := 0, locals := 43 } : Room) s m ar below meth c H locs 0 0 QM (F0 m pc ls [.int v]) := by
    intro v H locs ls pc e hn hP hD hS d
    obtain rfl := sm_e e
    exact RET H locs pc ls hn hP hD hS d
  clear RET
  obtain ⟨H, eH⟩ : ∃ z, z = s.heap := ⟨_, rfl⟩
  rw [← eH]
  have hP : va_P E.1 vwCl (cw_X8 E q0 S0) H := by rw [eH]; exact hP
  have hS : va_S A s.heap H [] := by rw [eH]; exact hS
  clear eH
  obtain ⟨locs, el⟩ : ∃ z : List Loc, z = [] := ⟨_, rfl⟩
  rw [← el] at hS ⊢
  clear el
  refine lv_aload_n hx hb dX10_isTorn_0 rfl (lv_at hl 0 rfl) ?_
  refine lv_iload_n hx hb dX10_isTorn_1 rfl (lv_at hl 1 rfl) ?_
  obtain ⟨u1, hc, h⟩ := bd_el h
  refine ct_iA (w1 := cw_X8 E q0 S0) X hP hD hS (va_runV (C := RX8) (As := [.int x1]) (rest := []) ⟨hx, hb, hml, hown, hg⟩ (c_X8_at l E q0 H.size S0 x1 u1 hc) (cwV 1 hg (gwV wm_X10_42 wi_X8_at wsl_X8_at wini_X8 wco_X8_at) rfl rfl rfl (by decide +kernel) ⟨Nat.le_of_ble_eq_true rfl, Nat.le_of_ble_eq_true rfl⟩) ⟨ct_blind, ct_rv X.1 hP 0 rfl rfl, ct_preA X hP hD hS _⟩ rfl rfl hl.1 rfl (lv_room (Nat.le_of_ble_eq_true rfl)) dX10_isTorn_2 ⟨Nat.zero_le _, Nat.zero_le _⟩) (fun H locs hP hD hS => ?_)
  refine lv_iload_n hx hb dX10_isTorn_5 rfl (lv_at hl 2 rfl) ?_
  refine lv_ishr hx hb dX10_isTorn_6 ?_
  refine lv_iconst (v := 1) hx hb dX10_isTorn_7 (by decide) ?_
  refine lv_iand hx hb dX10_isTorn_8 ?_
  refine lv_iconst (v := 1) hx hb dX10_isTorn_9 (by decide) ?_
  refine lv_icmp_ne (tgt := 17) hx hb dX10_isTorn_10 (by decide) (fun c2 => ?_) (fun c2 => ?_)
  · have h := it_f h c2
    refine lv_iconst (v := 0) hx hb dX10_isTorn_17 (by decide) ?_
    exact RT 0 _ _ _ _ h (by decide +kernel) hP hD hS dX10_isTorn_18
  · have h := it_t h c2
    refine lv_iconst (v := 1) hx hb dX10_isTorn_13 (by decide) ?_
    refine lv_goto (tgt := 18) hx hb dX10_isTorn_14 (by decide) ?_
    exact RT 1 _ _ _ _ h (by decide +kernel) hP hD hS dX10_isTorn_18
theorem dX10_reach_0 : decode cX10_reach 0 = .ok (.iload_n 1, 1) := by decide +kernel
theorem dX10_reach_1 : decode cX10_reach 1 = .ok (.iconst 0, 1) := by decide +kernel
theorem dX10_reach_2 : decode cX10_reach 2 = .ok (.bipush 64, 2) := by decide +kernel
theorem dX10_reach_4 : decode cX10_reach 4 = .ok (.invokestatic 47, 3) := by decide +kernel
theorem dX10_reach_7 : decode cX10_reach 7 = .ok (.ifCond .eq 51, 3) := by decide +kernel
theorem dX10_reach_10 : decode cX10_reach 10 = .ok (.aload_n 0, 1) := by decide +kernel
theorem dX10_reach_11 : decode cX10_reach 11 = .ok (.getfield 11, 3) := by decide +kernel
theorem dX10_reach_14 : decode cX10_reach 14 = .ok (.iload_n 1, 1) := by decide +kernel
theorem dX10_reach_15 : decode cX10_reach 15 = .ok (.iaload, 1) := by decide +kernel
theorem dX10_reach_16 : decode cX10_reach 16 = .ok (.sipush 1000, 3) := by decide +kernel
theorem dX10_reach_19 : decode cX10_reach 19 = .ok (.if_icmp .ne 39, 3) := by decide +kernel
theorem dX10_reach_22 : decode cX10_reach 22 = .ok (.aload_n 0, 1) := by decide +kernel
theorem dX10_reach_23 : decode cX10_reach 23 = .ok (.getfield 18, 3) := by decide +kernel
theorem dX10_reach_26 : decode cX10_reach 26 = .ok (.bipush 65, 2) := by decide +kernel
theorem dX10_reach_28 : decode cX10_reach 28 = .ok (.if_icmp .ge 30, 3) := by decide +kernel
theorem dX10_reach_31 : decode cX10_reach 31 = .ok (.aload_n 0, 1) := by decide +kernel
theorem dX10_reach_32 : decode cX10_reach 32 = .ok (.getfield 11, 3) := by decide +kernel
theorem dX10_reach_35 : decode cX10_reach 35 = .ok (.iload_n 1, 1) := by decide +kernel
theorem dX10_reach_36 : decode cX10_reach 36 = .ok (.iload_n 2, 1) := by decide +kernel
theorem dX10_reach_37 : decode cX10_reach 37 = .ok (.iastore, 1) := by decide +kernel
theorem dX10_reach_38 : decode cX10_reach 38 = .ok (.aload_n 0, 1) := by decide +kernel
theorem dX10_reach_39 : decode cX10_reach 39 = .ok (.getfield 15, 3) := by decide +kernel
theorem dX10_reach_42 : decode cX10_reach 42 = .ok (.aload_n 0, 1) := by decide +kernel
theorem dX10_reach_43 : decode cX10_reach 43 = .ok (.getfield 18, 3) := by decide +kernel
theorem dX10_reach_46 : decode cX10_reach 46 = .ok (.iload_n 1, 1) := by decide +kernel
theorem dX10_reach_47 : decode cX10_reach 47 = .ok (.iastore, 1) := by decide +kernel
theorem dX10_reach_48 : decode cX10_reach 48 = .ok (.aload_n 0, 1) := by decide +kernel
theorem dX10_reach_49 : decode cX10_reach 49 = .ok (.dup, 1) := by decide +kernel
theorem dX10_reach_50 : decode cX10_reach 50 = .ok (.getfield 18, 3) := by decide +kernel
theorem dX10_reach_53 : decode cX10_reach 53 = .ok (.iconst 1, 1) := by decide +kernel
theorem dX10_reach_54 : decode cX10_reach 54 = .ok (.iadd, 1) := by decide +kernel
theorem dX10_reach_55 : decode cX10_reach 55 = .ok (.putfield 18, 3) := by decide +kernel
theorem dX10_reach_58 : decode cX10_reach 58 = .ok (.return_, 1) := by decide +kernel
def f_X10_reach (S0 : Gr) (x1 : Int32) (x2 : Int32) : Option (Gr) := (f_X11_within x1 0 64).bind fun u1 => if u1 = 0 then (some S0) else (rd' (S0.2 0) 65 x1 fun v3 => if v3 = 1000 then (if 65 ≤ (S0.1 2) then (some S0) else (ck' 65 x1 (lt' (sA S0 0 (Int32.toNatClampNeg x1) x2) fun S0_6 => ck' 65 (S0_6.1 2) (lt' (sA S0_6 1 (Int32.toNatClampNeg (S0_6.1 2)) x1) fun S0_7 => lt' (sI S0_7 2 ((S0_7.1 2) + 1)) fun S0_8 => some S0_8)))) else (some S0))
set_option maxHeartbeats 4000000 in
set_option maxRecDepth 100000 in
theorem c_X10_reach (l : Launch) (E : Ec) (q0 : Nat → Nat) (sz : Nat) (S0 : Gr) (x1 : Int32) (x2 : Int32) (Rv : Gr) (h : f_X10_reach S0 x1 x2 = some Rv) : Met l yX10_reach (wsM (.code yX10_reach cX10_reach 3 none)) ({ frames := 1, cells := 0, slots := 0, locals := 22 } : Room) (va_Pc [.ref (q0 0), .int x1, .int x2] (ctP E (cw_X10 E q0 S0) sz)) (ctV E (cw_X10 E q0 S0) (cw_X10 E q0 Rv) sz) 0 0 (va_A (cw_X10 E q0 S0) sz) := by
  refine ct_metV (by decide) (Nat.le_of_ble_eq_true rfl) ?_
  intro p e s m ar below meth c A QM hx hb hml hown hg X hP hD hS RET ls hl
  have hown : s.vm.findClass RX10 = some m.cls := hown
  have hl : lv_has ls 3 [(0, .ref (q0 0)), (1, .int x1), (2, .int x2)] := hl
  have RT : ∀ (S0 : Gr) (H : Heap) (locs : List Loc) (ls : Array Slot) (pc : Nat), some S0 = some Rv → va_P E.1 vwCl (cw_X10 E q0 S0) H → va_D A (cw_X10 E q0 S0) → va_S A s.heap H locs → decode cX10_reach pc = .ok (.return_, 1) → W p l e ({ frames := 1, cells := 0, slots := 0, locals := 22 } : Room) s m ar below meth c H locs 0 0 QM (F0 m pc ls []) := by
    intro S0 H locs ls pc e hP hD hS d
    obtain rfl := sm_e e
    exact RET H locs pc ls hP hD hS d
  clear RET
  obtain ⟨H, eH⟩ : ∃ z, z = s.heap := ⟨_, rfl⟩
  rw [← eH]
  have hP : va_P E.1 vwCl (cw_X10 E q0 S0) H := by rw [eH]; exact hP
  have hS : va_S A s.heap H [] := by rw [eH]; exact hS
  clear eH
  obtain ⟨locs, el⟩ : ∃ z : List Loc, z = [] := ⟨_, rfl⟩
  rw [← el] at hS ⊢
  clear el
  refine lv_iload_n hx hb dX10_reach_0 rfl (lv_at hl 1 rfl) ?_
  refine lv_iconst (v := 0) hx hb dX10_reach_1 (by decide) ?_
  refine lv_bipush (v := 64) hx hb dX10_reach_2 (by decide) ?_
  obtain ⟨u1, hc, h⟩ := bd_el h
  refine ct_iN X hP hD hS (va_runSN (As := [.int x1, .int 0, .int 64]) (rest := []) ⟨hx, hb, hml, hown, hg⟩ (c_X11_within l E  H.size x1 0 64 u1 hc) ⟨va_cnB 3 hg (gw wco_X11_within) rfl rfl rfl (nm_X10_47 X.2.1) (hg _ wini_X11) (by decide +kernel) ⟨Nat.le_of_ble_eq_true rfl, Nat.le_of_ble_eq_true rfl⟩, hg _ wst_X11_within, trivial⟩ ⟨ct_blind, ct_preN X hS _⟩ rfl rfl hl.1 rfl (lv_room (Nat.le_of_ble_eq_true rfl)) dX10_reach_4 ⟨Nat.zero_le _, Nat.zero_le _⟩) (fun H locs hP hD hS => ?_)
  refine lv_if_eq (tgt := 58) hx hb dX10_reach_7 (by decide) (fun c2 => ?_) (fun c2 => ?_)
  · have h := it_t h c2
    exact RT S0 _ _ _ _ h hP hD hS dX10_reach_58
  · have h := it_f h c2
    refine lv_aload_n hx hb dX10_reach_10 rfl (lv_at hl 0 rfl) ?_
    refine va_get (D := E.1) (ci := 9) (v := .ref (q0 1)) (C := RX10) (T := TX10) (N := 3) hx hb hg in_X10 hown X.1 hP 0 rfl rfl 0 (by decide) (hg _ wf_X10_11) (fun _ h9 => h9) rfl dX10_reach_11 ?_
    refine lv_iload_n hx hb dX10_reach_14 rfl (lv_at hl 1 rfl) ?_
    obtain ⟨hi, v3, ev3, h⟩ := rd_el h
    refine va_iald hx hb X.1 hP 1 0 rfl rfl hi dX10_reach_15 ?_
    refine lv_top' ev3 ?_
    refine lv_sipush (v := 1000) hx hb dX10_reach_16 (by decide) ?_
    refine lv_icmp_ne (tgt := 58) hx hb dX10_reach_19 (by decide) (fun c4 => ?_) (fun c4 => ?_)
    · have h := it_f h c4
      exact RT S0 _ _ _ _ h hP hD hS dX10_reach_58
    · have h := it_t h c4
      refine lv_aload_n hx hb dX10_reach_22 rfl (lv_at hl 0 rfl) ?_
      refine va_get (D := E.1) (ci := 9) (v := .int (S0.1 2)) (C := RX10) (T := TX10) (N := 3) hx hb hg in_X10 hown X.1 hP 0 rfl rfl 2 (by decide) (hg _ wf_X10_18) (fun _ h9 => h9) rfl dX10_reach_23 ?_
      refine lv_bipush (v := 65) hx hb dX10_reach_26 (by decide) ?_
      refine lv_icmp_ge (tgt := 58) hx hb dX10_reach_28 (by decide) (fun c5 => ?_) (fun c5 => ?_)
      · have h := it_t h c5
        exact RT S0 _ _ _ _ h hP hD hS dX10_reach_58
      · have h := it_f h c5
        refine lv_aload_n hx hb dX10_reach_31 rfl (lv_at hl 0 rfl) ?_
        refine va_get (D := E.1) (ci := 9) (v := .ref (q0 1)) (C := RX10) (T := TX10) (N := 3) hx hb hg in_X10 hown X.1 hP 0 rfl rfl 0 (by decide) (hg _ wf_X10_11) (fun _ h9 => h9) rfl dX10_reach_32 ?_
        refine lv_iload_n hx hb dX10_reach_35 rfl (lv_at hl 1 rfl) ?_
        refine lv_iload_n hx hb dX10_reach_36 rfl (lv_at hl 2 rfl) ?_
        obtain ⟨hi, h⟩ := ck_el h
        obtain ⟨S0_6, eS, h⟩ := lt_el h
        refine va_iast hx hb X.1 hP hD hS 1 0 rfl rfl hi dX10_reach_37 (fun H locs hP hD hS => ?_)
        have hP : va_P E.1 vwCl (cw_X10 E q0 S0_6) H := by rw [eS]; exact hP
        have hD : va_D A (cw_X10 E q0 S0_6) := by rw [eS]; exact hD
        clear eS
        refine lv_aload_n hx hb dX10_reach_38 rfl (lv_at hl 0 rfl) ?_
        refine va_get (D := E.1) (ci := 9) (v := .ref (q0 2)) (C := RX10) (T := TX10) (N := 3) hx hb hg in_X10 hown X.1 hP 0 rfl rfl 1 (by decide) (hg _ wf_X10_15) (fun _ h9 => h9) rfl dX10_reach_39 ?_
        refine lv_aload_n hx hb dX10_reach_42 rfl (lv_at hl 0 rfl) ?_
        refine va_get (D := E.1) (ci := 9) (v := .int (S0_6.1 2)) (C := RX10) (T := TX10) (N := 3) hx hb hg in_X10 hown X.1 hP 0 rfl rfl 2 (by decide) (hg _ wf_X10_18) (fun _ h9 => h9) rfl dX10_reach_43 ?_
        refine lv_iload_n hx hb dX10_reach_46 rfl (lv_at hl 1 rfl) ?_
        obtain ⟨hi, h⟩ := ck_el h
        obtain ⟨S0_7, eS, h⟩ := lt_el h
        refine va_iast hx hb X.1 hP hD hS 2 0 rfl rfl hi dX10_reach_47 (fun H locs hP hD hS => ?_)
        have hP : va_P E.1 vwCl (cw_X10 E q0 S0_7) H := by rw [eS]; exact hP
        have hD : va_D A (cw_X10 E q0 S0_7) := by rw [eS]; exact hD
        clear eS
        refine lv_aload_n hx hb dX10_reach_48 rfl (lv_at hl 0 rfl) ?_
        refine lv_dup hx hb dX10_reach_49 rfl ?_
        refine va_get (D := E.1) (ci := 9) (v := .int (S0_7.1 2)) (C := RX10) (T := TX10) (N := 3) hx hb hg in_X10 hown X.1 hP 0 rfl rfl 2 (by decide) (hg _ wf_X10_18) (fun _ h9 => h9) rfl dX10_reach_50 ?_
        refine lv_iconst (v := 1) hx hb dX10_reach_53 (by decide) ?_
        refine lv_iadd hx hb dX10_reach_54 ?_
        obtain ⟨S0_8, eS, h⟩ := lt_el h
        refine va_put (D := E.1) (ci := 9) (v := .int ((S0_7.1 2) + 1)) (ty := .int) (C := RX10) (T := TX10) (N := 3) hx hb hg in_X10 tyX10 tyX10_ok nmX10 hown X.1 hP hD hS 0 rfl rfl 2 (by decide) (hg _ wf_X10_18) (fun _ h9 => h9) rfl (by decide +kernel) rfl rfl (Nat.le_of_ble_eq_true rfl) dX10_reach_55 (fun H locs hP hD hS => ?_)
        have hP : va_P E.1 vwCl (cw_X10 E q0 S0_8) H := by rw [eS]; exact hP
        have hD : va_D A (cw_X10 E q0 S0_8) := by rw [eS]; exact hD
        clear eS
        exact RT S0_8 _ _ _ _ h hP hD hS dX10_reach_58
theorem dX10_wayTo_0 : decode cX10_wayTo 0 = .ok (.iload_n 1, 1) := by decide +kernel
theorem dX10_wayTo_1 : decode cX10_wayTo 1 = .ok (.iconst 0, 1) := by decide +kernel
theorem dX10_wayTo_2 : decode cX10_wayTo 2 = .ok (.bipush 64, 2) := by decide +kernel
theorem dX10_wayTo_4 : decode cX10_wayTo 4 = .ok (.invokestatic 47, 3) := by decide +kernel
theorem dX10_wayTo_7 : decode cX10_wayTo 7 = .ok (.ifCond .eq 12, 3) := by decide +kernel
theorem dX10_wayTo_10 : decode cX10_wayTo 10 = .ok (.aload_n 0, 1) := by decide +kernel
theorem dX10_wayTo_11 : decode cX10_wayTo 11 = .ok (.getfield 11, 3) := by decide +kernel
theorem dX10_wayTo_14 : decode cX10_wayTo 14 = .ok (.iload_n 1, 1) := by decide +kernel
theorem dX10_wayTo_15 : decode cX10_wayTo 15 = .ok (.iaload, 1) := by decide +kernel
theorem dX10_wayTo_16 : decode cX10_wayTo 16 = .ok (.goto 6, 3) := by decide +kernel
theorem dX10_wayTo_19 : decode cX10_wayTo 19 = .ok (.sipush 1000, 3) := by decide +kernel
theorem dX10_wayTo_22 : decode cX10_wayTo 22 = .ok (.ireturn, 1) := by decide +kernel
def f_X10_wayTo (S0 : Gr) (x1 : Int32) : Option (Int32) := (f_X11_within x1 0 64).bind fun u1 => if u1 = 0 then (some 1000) else (rd' (S0.2 0) 65 x1 fun v3 => some v3)
set_option maxHeartbeats 4000000 in
set_option maxRecDepth 100000 in
theorem c_X10_wayTo (l : Launch) (E : Ec) (q0 : Nat → Nat) (sz : Nat) (S0 : Gr) (x1 : Int32) (Rv : Int32) (h : f_X10_wayTo S0 x1 = some Rv) : Met l yX10_wayTo (wsM (.code yX10_wayTo cX10_wayTo 2 (some .int))) ({ frames := 1, cells := 0, slots := 0, locals := 22 } : Room) (va_Pc [.ref (q0 0), .int x1] (ctP E (cw_X10 E q0 S0) sz)) (ctI E (cw_X10 E q0 S0) (cw_X10 E q0 S0) sz Rv) 0 0 (va_A (cw_X10 E q0 S0) sz) := by
  refine ct_metI (by decide) (Nat.le_of_ble_eq_true rfl) ?_
  intro p e s m ar below meth c A QM hx hb hml hown hg X hP hD hS RET ls hl
  have hown : s.vm.findClass RX10 = some m.cls := hown
  have hl : lv_has ls 2 [(0, .ref (q0 0)), (1, .int x1)] := hl
  have RT : ∀ (v : Int32) (H : Heap) (locs : List Loc) (ls : Array Slot) (pc : Nat), some v = some Rv → narrow .int (.int v) = .int v → va_P E.1 vwCl (cw_X10 E q0 S0) H → va_D A (cw_X10 E q0 S0) → va_S A s.heap H locs → decode cX10_wayTo pc = .ok (.ireturn, 1) → W p l e ({ frames := 1, cells := 0, slots := 0, locals := 22 } : Room) s m ar below meth c H locs 0 0 QM (F0 m pc ls [.int v]) := by
    intro v H locs ls pc e hn hP hD hS d
    obtain rfl := sm_e e
    exact RET H locs pc ls hn hP hD hS d
  clear RET
  obtain ⟨H, eH⟩ : ∃ z, z = s.heap := ⟨_, rfl⟩
  rw [← eH]
  have hP : va_P E.1 vwCl (cw_X10 E q0 S0) H := by rw [eH]; exact hP
  have hS : va_S A s.heap H [] := by rw [eH]; exact hS
  clear eH
  obtain ⟨locs, el⟩ : ∃ z : List Loc, z = [] := ⟨_, rfl⟩
  rw [← el] at hS ⊢
  clear el
  refine lv_iload_n hx hb dX10_wayTo_0 rfl (lv_at hl 1 rfl) ?_
  refine lv_iconst (v := 0) hx hb dX10_wayTo_1 (by decide) ?_
  refine lv_bipush (v := 64) hx hb dX10_wayTo_2 (by decide) ?_
  obtain ⟨u1, hc, h⟩ := bd_el h
  refine ct_iN X hP hD hS (va_runSN (As := [.int x1, .int 0, .int 64]) (rest := []) ⟨hx, hb, hml, hown, hg⟩ (c_X11_within l E  H.size x1 0 64 u1 hc) ⟨va_cnB 3 hg (gw wco_X11_within) rfl rfl rfl (nm_X10_47 X.2.1) (hg _ wini_X11) (by decide +kernel) ⟨Nat.le_of_ble_eq_true rfl, Nat.le_of_ble_eq_true rfl⟩, hg _ wst_X11_within, trivial⟩ ⟨ct_blind, ct_preN X hS _⟩ rfl rfl hl.1 rfl (lv_room (Nat.le_of_ble_eq_true rfl)) dX10_wayTo_4 ⟨Nat.zero_le _, Nat.zero_le _⟩) (fun H locs hP hD hS => ?_)
  refine lv_if_eq (tgt := 19) hx hb dX10_wayTo_7 (by decide) (fun c2 => ?_) (fun c2 => ?_)
  · have h := it_t h c2
    refine lv_sipush (v := 1000) hx hb dX10_wayTo_19 (by decide) ?_
    exact RT 1000 _ _ _ _ h rfl hP hD hS dX10_wayTo_22
  · have h := it_f h c2
    refine lv_aload_n hx hb dX10_wayTo_10 rfl (lv_at hl 0 rfl) ?_
    refine va_get (D := E.1) (ci := 9) (v := .ref (q0 1)) (C := RX10) (T := TX10) (N := 3) hx hb hg in_X10 hown X.1 hP 0 rfl rfl 0 (by decide) (hg _ wf_X10_11) (fun _ h9 => h9) rfl dX10_wayTo_11 ?_
    refine lv_iload_n hx hb dX10_wayTo_14 rfl (lv_at hl 1 rfl) ?_
    obtain ⟨hi, v3, ev3, h⟩ := rd_el h
    refine va_iald hx hb X.1 hP 1 0 rfl rfl hi dX10_wayTo_15 ?_
    refine lv_top' ev3 ?_
    refine lv_goto (tgt := 22) hx hb dX10_wayTo_16 (by decide) ?_
    exact RT v3 _ _ _ _ h rfl hP hD hS dX10_wayTo_22
theorem dX10_leaveKnot_0 : decode cX10_leaveKnot 0 = .ok (.iload_n 3, 1) := by decide +kernel
theorem dX10_leaveKnot_1 : decode cX10_leaveKnot 1 = .ok (.iconst 1, 1) := by decide +kernel
theorem dX10_leaveKnot_2 : decode cX10_leaveKnot 2 = .ok (.isub, 1) := by decide +kernel
theorem dX10_leaveKnot_3 : decode cX10_leaveKnot 3 = .ok (.bipush 8, 2) := by decide +kernel
theorem dX10_leaveKnot_5 : decode cX10_leaveKnot 5 = .ok (.idiv, 1) := by decide +kernel
theorem dX10_leaveKnot_6 : decode cX10_leaveKnot 6 = .ok (.istore 4, 2) := by decide +kernel
theorem dX10_leaveKnot_8 : decode cX10_leaveKnot 8 = .ok (.iload_n 3, 1) := by decide +kernel
theorem dX10_leaveKnot_9 : decode cX10_leaveKnot 9 = .ok (.iconst 1, 1) := by decide +kernel
theorem dX10_leaveKnot_10 : decode cX10_leaveKnot 10 = .ok (.isub, 1) := by decide +kernel
theorem dX10_leaveKnot_11 : decode cX10_leaveKnot 11 = .ok (.bipush 8, 2) := by decide +kernel
theorem dX10_leaveKnot_13 : decode cX10_leaveKnot 13 = .ok (.irem, 1) := by decide +kernel
theorem dX10_leaveKnot_14 : decode cX10_leaveKnot 14 = .ok (.istore 5, 2) := by decide +kernel
theorem dX10_leaveKnot_16 : decode cX10_leaveKnot 16 = .ok (.iload 5, 2) := by decide +kernel
theorem dX10_leaveKnot_18 : decode cX10_leaveKnot 18 = .ok (.iconst 1, 1) := by decide +kernel
theorem dX10_leaveKnot_19 : decode cX10_leaveKnot 19 = .ok (.iadd, 1) := by decide +kernel
theorem dX10_leaveKnot_20 : decode cX10_leaveKnot 20 = .ok (.bipush 8, 2) := by decide +kernel
theorem dX10_leaveKnot_22 : decode cX10_leaveKnot 22 = .ok (.irem, 1) := by decide +kernel
theorem dX10_leaveKnot_23 : decode cX10_leaveKnot 23 = .ok (.istore 6, 2) := by decide +kernel
theorem dX10_leaveKnot_25 : decode cX10_leaveKnot 25 = .ok (.iload 5, 2) := by decide +kernel
theorem dX10_leaveKnot_27 : decode cX10_leaveKnot 27 = .ok (.bipush 8, 2) := by decide +kernel
theorem dX10_leaveKnot_29 : decode cX10_leaveKnot 29 = .ok (.iadd, 1) := by decide +kernel
theorem dX10_leaveKnot_30 : decode cX10_leaveKnot 30 = .ok (.iconst 1, 1) := by decide +kernel
theorem dX10_leaveKnot_31 : decode cX10_leaveKnot 31 = .ok (.isub, 1) := by decide +kernel
theorem dX10_leaveKnot_32 : decode cX10_leaveKnot 32 = .ok (.bipush 8, 2) := by decide +kernel
theorem dX10_leaveKnot_34 : decode cX10_leaveKnot 34 = .ok (.irem, 1) := by decide +kernel
theorem dX10_leaveKnot_35 : decode cX10_leaveKnot 35 = .ok (.istore 7, 2) := by decide +kernel
theorem dX10_leaveKnot_37 : decode cX10_leaveKnot 37 = .ok (.aload_n 0, 1) := by decide +kernel
theorem dX10_leaveKnot_38 : decode cX10_leaveKnot 38 = .ok (.iload_n 3, 1) := by decide +kernel
theorem dX10_leaveKnot_39 : decode cX10_leaveKnot 39 = .ok (.invokevirtual 34, 3) := by decide +kernel
theorem dX10_leaveKnot_42 : decode cX10_leaveKnot 42 = .ok (.iconst 1, 1) := by decide +kernel
theorem dX10_leaveKnot_43 : decode cX10_leaveKnot 43 = .ok (.iadd, 1) := by decide +kernel
theorem dX10_leaveKnot_44 : decode cX10_leaveKnot 44 = .ok (.istore 8, 2) := by decide +kernel
theorem dX10_leaveKnot_46 : decode cX10_leaveKnot 46 = .ok (.iload 4, 2) := by decide +kernel
theorem dX10_leaveKnot_48 : decode cX10_leaveKnot 48 = .ok (.ifCond .le 26, 3) := by decide +kernel
theorem dX10_leaveKnot_51 : decode cX10_leaveKnot 51 = .ok (.aload_n 1, 1) := by decide +kernel
theorem dX10_leaveKnot_52 : decode cX10_leaveKnot 52 = .ok (.iconst 2, 1) := by decide +kernel
theorem dX10_leaveKnot_53 : decode cX10_leaveKnot 53 = .ok (.iload 4, 2) := by decide +kernel
theorem dX10_leaveKnot_55 : decode cX10_leaveKnot 55 = .ok (.imul, 1) := by decide +kernel
theorem dX10_leaveKnot_56 : decode cX10_leaveKnot 56 = .ok (.iload 5, 2) := by decide +kernel
theorem dX10_leaveKnot_58 : decode cX10_leaveKnot 58 = .ok (.invokestatic 38, 3) := by decide +kernel
theorem dX10_leaveKnot_61 : decode cX10_leaveKnot 61 = .ok (.ifCond .ne 13, 3) := by decide +kernel
theorem dX10_leaveKnot_64 : decode cX10_leaveKnot 64 = .ok (.aload_n 0, 1) := by decide +kernel
theorem dX10_leaveKnot_65 : decode cX10_leaveKnot 65 = .ok (.iload_n 3, 1) := by decide +kernel
theorem dX10_leaveKnot_66 : decode cX10_leaveKnot 66 = .ok (.bipush 8, 2) := by decide +kernel
theorem dX10_leaveKnot_68 : decode cX10_leaveKnot 68 = .ok (.isub, 1) := by decide +kernel
theorem dX10_leaveKnot_69 : decode cX10_leaveKnot 69 = .ok (.iload 8, 2) := by decide +kernel
theorem dX10_leaveKnot_71 : decode cX10_leaveKnot 71 = .ok (.invokevirtual 22, 3) := by decide +kernel
theorem dX10_leaveKnot_74 : decode cX10_leaveKnot 74 = .ok (.iload 4, 2) := by decide +kernel
theorem dX10_leaveKnot_76 : decode cX10_leaveKnot 76 = .ok (.iload_n 2, 1) := by decide +kernel
theorem dX10_leaveKnot_77 : decode cX10_leaveKnot 77 = .ok (.iconst 1, 1) := by decide +kernel
theorem dX10_leaveKnot_78 : decode cX10_leaveKnot 78 = .ok (.isub, 1) := by decide +kernel
theorem dX10_leaveKnot_79 : decode cX10_leaveKnot 79 = .ok (.if_icmp .ge 28, 3) := by decide +kernel
theorem dX10_leaveKnot_82 : decode cX10_leaveKnot 82 = .ok (.aload_n 1, 1) := by decide +kernel
theorem dX10_leaveKnot_83 : decode cX10_leaveKnot 83 = .ok (.iconst 2, 1) := by decide +kernel
theorem dX10_leaveKnot_84 : decode cX10_leaveKnot 84 = .ok (.iload 4, 2) := by decide +kernel
theorem dX10_leaveKnot_86 : decode cX10_leaveKnot 86 = .ok (.imul, 1) := by decide +kernel
theorem dX10_leaveKnot_87 : decode cX10_leaveKnot 87 = .ok (.iconst 2, 1) := by decide +kernel
theorem dX10_leaveKnot_88 : decode cX10_leaveKnot 88 = .ok (.iadd, 1) := by decide +kernel
theorem dX10_leaveKnot_89 : decode cX10_leaveKnot 89 = .ok (.iload 5, 2) := by decide +kernel
theorem dX10_leaveKnot_91 : decode cX10_leaveKnot 91 = .ok (.invokestatic 38, 3) := by decide +kernel
theorem dX10_leaveKnot_94 : decode cX10_leaveKnot 94 = .ok (.ifCond .ne 13, 3) := by decide +kernel
theorem dX10_leaveKnot_97 : decode cX10_leaveKnot 97 = .ok (.aload_n 0, 1) := by decide +kernel
theorem dX10_leaveKnot_98 : decode cX10_leaveKnot 98 = .ok (.iload_n 3, 1) := by decide +kernel
theorem dX10_leaveKnot_99 : decode cX10_leaveKnot 99 = .ok (.bipush 8, 2) := by decide +kernel
theorem dX10_leaveKnot_101 : decode cX10_leaveKnot 101 = .ok (.iadd, 1) := by decide +kernel
theorem dX10_leaveKnot_102 : decode cX10_leaveKnot 102 = .ok (.iload 8, 2) := by decide +kernel
theorem dX10_leaveKnot_104 : decode cX10_leaveKnot 104 = .ok (.invokevirtual 22, 3) := by decide +kernel
theorem dX10_leaveKnot_107 : decode cX10_leaveKnot 107 = .ok (.aload_n 1, 1) := by decide +kernel
theorem dX10_leaveKnot_108 : decode cX10_leaveKnot 108 = .ok (.iconst 2, 1) := by decide +kernel
theorem dX10_leaveKnot_109 : decode cX10_leaveKnot 109 = .ok (.iload 4, 2) := by decide +kernel
theorem dX10_leaveKnot_111 : decode cX10_leaveKnot 111 = .ok (.imul, 1) := by decide +kernel
theorem dX10_leaveKnot_112 : decode cX10_leaveKnot 112 = .ok (.iconst 1, 1) := by decide +kernel
theorem dX10_leaveKnot_113 : decode cX10_leaveKnot 113 = .ok (.iadd, 1) := by decide +kernel
theorem dX10_leaveKnot_114 : decode cX10_leaveKnot 114 = .ok (.iload 5, 2) := by decide +kernel
theorem dX10_leaveKnot_116 : decode cX10_leaveKnot 116 = .ok (.invokestatic 38, 3) := by decide +kernel
theorem dX10_leaveKnot_119 : decode cX10_leaveKnot 119 = .ok (.ifCond .ne 16, 3) := by decide +kernel
theorem dX10_leaveKnot_122 : decode cX10_leaveKnot 122 = .ok (.aload_n 0, 1) := by decide +kernel
theorem dX10_leaveKnot_123 : decode cX10_leaveKnot 123 = .ok (.iload_n 3, 1) := by decide +kernel
theorem dX10_leaveKnot_124 : decode cX10_leaveKnot 124 = .ok (.iload 5, 2) := by decide +kernel
theorem dX10_leaveKnot_126 : decode cX10_leaveKnot 126 = .ok (.isub, 1) := by decide +kernel
theorem dX10_leaveKnot_127 : decode cX10_leaveKnot 127 = .ok (.iload 6, 2) := by decide +kernel
theorem dX10_leaveKnot_129 : decode cX10_leaveKnot 129 = .ok (.iadd, 1) := by decide +kernel
theorem dX10_leaveKnot_130 : decode cX10_leaveKnot 130 = .ok (.iload 8, 2) := by decide +kernel
theorem dX10_leaveKnot_132 : decode cX10_leaveKnot 132 = .ok (.invokevirtual 22, 3) := by decide +kernel
theorem dX10_leaveKnot_135 : decode cX10_leaveKnot 135 = .ok (.aload_n 1, 1) := by decide +kernel
theorem dX10_leaveKnot_136 : decode cX10_leaveKnot 136 = .ok (.iconst 2, 1) := by decide +kernel
theorem dX10_leaveKnot_137 : decode cX10_leaveKnot 137 = .ok (.iload 4, 2) := by decide +kernel
theorem dX10_leaveKnot_139 : decode cX10_leaveKnot 139 = .ok (.imul, 1) := by decide +kernel
theorem dX10_leaveKnot_140 : decode cX10_leaveKnot 140 = .ok (.iconst 1, 1) := by decide +kernel
theorem dX10_leaveKnot_141 : decode cX10_leaveKnot 141 = .ok (.iadd, 1) := by decide +kernel
theorem dX10_leaveKnot_142 : decode cX10_leaveKnot 142 = .ok (.iload 7, 2) := by decide +kernel
theorem dX10_leaveKnot_144 : decode cX10_leaveKnot 144 = .ok (.invokestatic 38, 3) := by decide +kernel
theorem dX10_leaveKnot_147 : decode cX10_leaveKnot 147 = .ok (.ifCond .ne 16, 3) := by decide +kernel
theorem dX10_leaveKnot_150 : decode cX10_leaveKnot 150 = .ok (.aload_n 0, 1) := by decide +kernel
theorem dX10_leaveKnot_151 : decode cX10_leaveKnot 151 = .ok (.iload_n 3, 1) := by decide +kernel
theorem dX10_leaveKnot_152 : decode cX10_leaveKnot 152 = .ok (.iload 5, 2) := by decide +kernel
theorem dX10_leaveKnot_154 : decode cX10_leaveKnot 154 = .ok (.isub, 1) := by decide +kernel
theorem dX10_leaveKnot_155 : decode cX10_leaveKnot 155 = .ok (.iload 7, 2) := by decide +kernel
theorem dX10_leaveKnot_157 : decode cX10_leaveKnot 157 = .ok (.iadd, 1) := by decide +kernel
theorem dX10_leaveKnot_158 : decode cX10_leaveKnot 158 = .ok (.iload 8, 2) := by decide +kernel
theorem dX10_leaveKnot_160 : decode cX10_leaveKnot 160 = .ok (.invokevirtual 22, 3) := by decide +kernel
theorem dX10_leaveKnot_163 : decode cX10_leaveKnot 163 = .ok (.return_, 1) := by decide +kernel
def f_X10_leaveKnot_n135 (S1 : Gr) (x2 : Int32) (x3 : Int32) (S0 : Gr) (x4 : Int32) (x5 : Int32) (x7 : Int32) (x8 : Int32) : Option (Gr) := (f_X10_isTorn S1 ((2 * x4) + 1) x7).bind fun u18 => if u18 = 0 then ((f_X10_reach S0 ((x3 - x5) + x7) x8).bind fun u20 => some u20) else (some S0)
def f_X10_leaveKnot_n107 (S1 : Gr) (x2 : Int32) (x3 : Int32) (S0 : Gr) (x4 : Int32) (x5 : Int32) (x6 : Int32) (x7 : Int32) (x8 : Int32) : Option (Gr) := (f_X10_isTorn S1 ((2 * x4) + 1) x5).bind fun u15 => if u15 = 0 then ((f_X10_reach S0 ((x3 - x5) + x6) x8).bind fun u17 => f_X10_leaveKnot_n135 S1 x2 x3 u17 x4 x5 x7 x8) else (f_X10_leaveKnot_n135 S1 x2 x3 S0 x4 x5 x7 x8)
def f_X10_leaveKnot_n74 (S1 : Gr) (x2 : Int32) (x3 : Int32) (S0 : Gr) (x4 : Int32) (x5 : Int32) (x6 : Int32) (x7 : Int32) (x8 : Int32) : Option (Gr) := if (x2 - 1) ≤ x4 then (f_X10_leaveKnot_n107 S1 x2 x3 S0 x4 x5 x6 x7 x8) else ((f_X10_isTorn S1 ((2 * x4) + 2) x5).bind fun u12 => if u12 = 0 then ((f_X10_reach S0 (x3 + 8) x8).bind fun u14 => f_X10_leaveKnot_n107 S1 x2 x3 u14 x4 x5 x6 x7 x8) else (f_X10_leaveKnot_n107 S1 x2 x3 S0 x4 x5 x6 x7 x8))
def f_X10_leaveKnot (S0 : Gr) (S1 : Gr) (x2 : Int32) (x3 : Int32) : Option (Gr) := lt' ((x3 - 1) / 8) fun v1 => lt' ((x3 - 1) - (x3 - 1) / 8 * 8) fun v2 => lt' ((v2 + 1) - (v2 + 1) / 8 * 8) fun v3 => lt' (((v2 + 8) - 1) - ((v2 + 8) - 1) / 8 * 8) fun v4 => (f_X10_wayTo S0 x3).bind fun u5 => lt' ((u5 + 1)) fun v6 => if v1 ≤ 0 then (f_X10_leaveKnot_n74 S1 x2 x3 S0 v1 v2 v3 v4 v6) else ((f_X10_isTorn S1 (2 * v1) v2).bind fun u8 => if u8 = 0 then ((f_X10_reach S0 (x3 - 8) v6).bind fun u10 => f_X10_leaveKnot_n74 S1 x2 x3 u10 v1 v2 v3 v4 v6) else (f_X10_leaveKnot_n74 S1 x2 x3 S0 v1 v2 v3 v4 v6))
set_option maxHeartbeats 4000000 in
set_option maxRecDepth 100000 in
theorem c_X10_leaveKnot (l : Launch) (E : Ec) (q0 q1 : Nat → Nat) (sz : Nat) (S0 : Gr) (S1 : Gr) (x2 : Int32) (x3 : Int32) (Rv : Gr) (h : f_X10_leaveKnot S0 S1 x2 x3 = some Rv) : Met l yX10_leaveKnot (wsM (.code yX10_leaveKnot cX10_leaveKnot 9 none)) ({ frames := 3, cells := 0, slots := 0, locals := 65 } : Room) (va_Pc [.ref (q0 0), .ref (q1 0), .int x2, .int x3] (ctP E (cw_X10 E q0 S0 ++ (cw_X8 E q1 S1)) sz)) (ctV E (cw_X10 E q0 S0 ++ (cw_X8 E q1 S1)) (cw_X10 E q0 Rv ++ (cw_X8 E q1 S1)) sz) 0 0 (va_A (cw_X10 E q0 S0 ++ (cw_X8 E q1 S1)) sz) := by
  refine ct_metV (by decide) (Nat.le_of_ble_eq_true rfl) ?_
  intro p e s m ar below meth c A QM hx hb hml hown hg X hP hD hS RET ls hl
  have hown : s.vm.findClass RX10 = some m.cls := hown
  have hl : lv_has ls 9 [(0, .ref (q0 0)), (1, .ref (q1 0)), (2, .int x2), (3, .int x3)] := hl
  have RT : ∀ (S0 : Gr) (H : Heap) (locs : List Loc) (ls : Array Slot) (pc : Nat), some S0 = some Rv → va_P E.1 vwCl (cw_X10 E q0 S0 ++ (cw_X8 E q1 S1)) H → va_D A (cw_X10 E q0 S0 ++ (cw_X8 E q1 S1)) → va_S A s.heap H locs → decode cX10_leaveKnot pc = .ok (.return_, 1) → W p l e ({ frames := 3, cells := 0, slots := 0, locals := 65 } : Room) s m ar below meth c H locs 0 0 QM (F0 m pc ls []) := by
    intro S0 H locs ls pc e hP hD hS d
    obtain rfl := sm_e e
    exact RET H locs pc ls hP hD hS d
  clear RET
  have N135 : ∀ (S0 : Gr) (x4 : Int32) (x5 : Int32) (x7 : Int32) (x8 : Int32) (H : Heap) (locs : List Loc) (ls : Array Slot), f_X10_leaveKnot_n135 S1 x2 x3 S0 x4 x5 x7 x8 = some Rv → va_P E.1 vwCl (cw_X10 E q0 S0 ++ (cw_X8 E q1 S1)) H → va_D A (cw_X10 E q0 S0 ++ (cw_X8 E q1 S1)) → va_S A s.heap H locs → lv_has ls 9 [(0, .ref (q0 0)), (1, .ref (q1 0)), (3, .int x3), (4, .int x4), (5, .int x5), (7, .int x7), (8, .int x8)] → W p l e ({ frames := 3, cells := 0, slots := 0, locals := 65 } : Room) s m ar below meth c H locs 0 0 QM (F0 m 135 ls []) := by
    intro S0 x4 x5 x7 x8 H locs ls h hP hD hS hl
    refine lv_aload_n hx hb dX10_leaveKnot_135 rfl (lv_at hl 1 rfl) ?_
    refine lv_iconst (v := 2) hx hb dX10_leaveKnot_136 (by decide) ?_
    refine lv_iload hx hb dX10_leaveKnot_137 (lv_at hl 3 rfl) ?_
    refine lv_imul hx hb dX10_leaveKnot_139 ?_
    refine lv_iconst (v := 1) hx hb dX10_leaveKnot_140 (by decide) ?_
    refine lv_iadd hx hb dX10_leaveKnot_141 ?_
    refine lv_iload hx hb dX10_leaveKnot_142 (lv_at hl 5 rfl) ?_
    obtain ⟨u18, hc, h⟩ := bd_el h
    have hC : ([3, 4] : List Nat).map (fun i => (cw_X10 E q0 S0 ++ (cw_X8 E q1 S1))[i]?) = (cw_X8 E q1 S1).map some := rfl
    refine ct_iR X hP hD hS [3, 4] hC (va_runS (As := [.ref (q1 0), .int ((2 * x4) + 1), .int x7]) (rest := []) ⟨hx, hb, hml, hown, hg⟩ (c_X10_isTorn l E q1 H.size S1 ((2 * x4) + 1) x7 u18 hc) (va_cwS 3 hg (gwS wm_X10_38 wst_X10_isTorn wini_X10 wco_X10_isTorn) rfl rfl rfl (by decide +kernel) ⟨Nat.le_of_ble_eq_true rfl, Nat.le_of_ble_eq_true rfl⟩) ⟨ct_blind, ct_pre X hP hD hS [3, 4] (by decide) hC _⟩ rfl rfl hl.1 rfl (lv_room (Nat.le_of_ble_eq_true rfl)) dX10_leaveKnot_144 ⟨Nat.zero_le _, Nat.zero_le _⟩) (fun H locs hP hD hS => ?_)
    clear hC
    refine lv_if_ne (tgt := 163) hx hb dX10_leaveKnot_147 (by decide) (fun c19 => ?_) (fun c19 => ?_)
    · have h := it_f h c19
      exact RT S0 _ _ _ _ h hP hD hS dX10_leaveKnot_163
    · have h := it_t h c19
      refine lv_aload_n hx hb dX10_leaveKnot_150 rfl (lv_at hl 0 rfl) ?_
      refine lv_iload_n hx hb dX10_leaveKnot_151 rfl (lv_at hl 2 rfl) ?_
      refine lv_iload hx hb dX10_leaveKnot_152 (lv_at hl 4 rfl) ?_
      refine lv_isub hx hb dX10_leaveKnot_154 ?_
      refine lv_iload hx hb dX10_leaveKnot_155 (lv_at hl 5 rfl) ?_
      refine lv_iadd hx hb dX10_leaveKnot_157 ?_
      refine lv_iload hx hb dX10_leaveKnot_158 (lv_at hl 6 rfl) ?_
      obtain ⟨u20, hc, h⟩ := bd_el h
      have hC : ([0, 1, 2] : List Nat).map (fun i => (cw_X10 E q0 S0 ++ (cw_X8 E q1 S1))[i]?) = (cw_X10 E q0 S0).map some := rfl
      refine ct_v (ws' := cw_X10 E q0 u20 ++ (cw_X8 E q1 S1)) X hP hD hS [0, 1, 2] (va_runV (C := RX10) (As := [.int ((x3 - x5) + x7), .int x8]) (rest := []) ⟨hx, hb, hml, hown, hg⟩ (c_X10_reach l E q0 H.size S0 ((x3 - x5) + x7) x8 u20 hc) (cwV 2 hg (gwV wm_X10_22 wi_X10_reach wsl_X10_reach wini_X10 wco_X10_reach) rfl rfl rfl (by decide +kernel) ⟨Nat.le_of_ble_eq_true rfl, Nat.le_of_ble_eq_true rfl⟩) ⟨ct_blind, ct_rv X.1 hP 0 rfl rfl, ct_pre X hP hD hS [0, 1, 2] (by decide) hC _⟩ rfl rfl hl.1 rfl (lv_room (Nat.le_of_ble_eq_true rfl)) dX10_leaveKnot_160 ⟨Nat.zero_le _, Nat.zero_le _⟩) hC rfl rfl (fun H locs hP hD hS => ?_)
      clear hC
      exact RT u20 _ _ _ _ h hP hD hS dX10_leaveKnot_163
  have N107 : ∀ (S0 : Gr) (x4 : Int32) (x5 : Int32) (x6 : Int32) (x7 : Int32) (x8 : Int32) (H : Heap) (locs : List Loc) (ls : Array Slot), f_X10_leaveKnot_n107 S1 x2 x3 S0 x4 x5 x6 x7 x8 = some Rv → va_P E.1 vwCl (cw_X10 E q0 S0 ++ (cw_X8 E q1 S1)) H → va_D A (cw_X10 E q0 S0 ++ (cw_X8 E q1 S1)) → va_S A s.heap H locs → lv_has ls 9 [(0, .ref (q0 0)), (1, .ref (q1 0)), (3, .int x3), (4, .int x4), (5, .int x5), (6, .int x6), (7, .int x7), (8, .int x8)] → W p l e ({ frames := 3, cells := 0, slots := 0, locals := 65 } : Room) s m ar below meth c H locs 0 0 QM (F0 m 107 ls []) := by
    intro S0 x4 x5 x6 x7 x8 H locs ls h hP hD hS hl
    refine lv_aload_n hx hb dX10_leaveKnot_107 rfl (lv_at hl 1 rfl) ?_
    refine lv_iconst (v := 2) hx hb dX10_leaveKnot_108 (by decide) ?_
    refine lv_iload hx hb dX10_leaveKnot_109 (lv_at hl 3 rfl) ?_
    refine lv_imul hx hb dX10_leaveKnot_111 ?_
    refine lv_iconst (v := 1) hx hb dX10_leaveKnot_112 (by decide) ?_
    refine lv_iadd hx hb dX10_leaveKnot_113 ?_
    refine lv_iload hx hb dX10_leaveKnot_114 (lv_at hl 4 rfl) ?_
    obtain ⟨u15, hc, h⟩ := bd_el h
    have hC : ([3, 4] : List Nat).map (fun i => (cw_X10 E q0 S0 ++ (cw_X8 E q1 S1))[i]?) = (cw_X8 E q1 S1).map some := rfl
    refine ct_iR X hP hD hS [3, 4] hC (va_runS (As := [.ref (q1 0), .int ((2 * x4) + 1), .int x5]) (rest := []) ⟨hx, hb, hml, hown, hg⟩ (c_X10_isTorn l E q1 H.size S1 ((2 * x4) + 1) x5 u15 hc) (va_cwS 3 hg (gwS wm_X10_38 wst_X10_isTorn wini_X10 wco_X10_isTorn) rfl rfl rfl (by decide +kernel) ⟨Nat.le_of_ble_eq_true rfl, Nat.le_of_ble_eq_true rfl⟩) ⟨ct_blind, ct_pre X hP hD hS [3, 4] (by decide) hC _⟩ rfl rfl hl.1 rfl (lv_room (Nat.le_of_ble_eq_true rfl)) dX10_leaveKnot_116 ⟨Nat.zero_le _, Nat.zero_le _⟩) (fun H locs hP hD hS => ?_)
    clear hC
    refine lv_if_ne (tgt := 135) hx hb dX10_leaveKnot_119 (by decide) (fun c16 => ?_) (fun c16 => ?_)
    · have h := it_f h c16
      exact N135  S0 x4 x5 x7 x8 _ _ _ h hP hD hS (lv_sub hl [0, 1, 2, 3, 4, 6, 7] rfl)
    · have h := it_t h c16
      refine lv_aload_n hx hb dX10_leaveKnot_122 rfl (lv_at hl 0 rfl) ?_
      refine lv_iload_n hx hb dX10_leaveKnot_123 rfl (lv_at hl 2 rfl) ?_
      refine lv_iload hx hb dX10_leaveKnot_124 (lv_at hl 4 rfl) ?_
      refine lv_isub hx hb dX10_leaveKnot_126 ?_
      refine lv_iload hx hb dX10_leaveKnot_127 (lv_at hl 5 rfl) ?_
      refine lv_iadd hx hb dX10_leaveKnot_129 ?_
      refine lv_iload hx hb dX10_leaveKnot_130 (lv_at hl 7 rfl) ?_
      obtain ⟨u17, hc, h⟩ := bd_el h
      have hC : ([0, 1, 2] : List Nat).map (fun i => (cw_X10 E q0 S0 ++ (cw_X8 E q1 S1))[i]?) = (cw_X10 E q0 S0).map some := rfl
      refine ct_v (ws' := cw_X10 E q0 u17 ++ (cw_X8 E q1 S1)) X hP hD hS [0, 1, 2] (va_runV (C := RX10) (As := [.int ((x3 - x5) + x6), .int x8]) (rest := []) ⟨hx, hb, hml, hown, hg⟩ (c_X10_reach l E q0 H.size S0 ((x3 - x5) + x6) x8 u17 hc) (cwV 2 hg (gwV wm_X10_22 wi_X10_reach wsl_X10_reach wini_X10 wco_X10_reach) rfl rfl rfl (by decide +kernel) ⟨Nat.le_of_ble_eq_true rfl, Nat.le_of_ble_eq_true rfl⟩) ⟨ct_blind, ct_rv X.1 hP 0 rfl rfl, ct_pre X hP hD hS [0, 1, 2] (by decide) hC _⟩ rfl rfl hl.1 rfl (lv_room (Nat.le_of_ble_eq_true rfl)) dX10_leaveKnot_132 ⟨Nat.zero_le _, Nat.zero_le _⟩) hC rfl rfl (fun H locs hP hD hS => ?_)
      clear hC
      exact N135  u17 x4 x5 x7 x8 _ _ _ h hP hD hS (lv_sub hl [0, 1, 2, 3, 4, 6, 7] rfl)
  have N74 : ∀ (S0 : Gr) (x4 : Int32) (x5 : Int32) (x6 : Int32) (x7 : Int32) (x8 : Int32) (H : Heap) (locs : List Loc) (ls : Array Slot), f_X10_leaveKnot_n74 S1 x2 x3 S0 x4 x5 x6 x7 x8 = some Rv → va_P E.1 vwCl (cw_X10 E q0 S0 ++ (cw_X8 E q1 S1)) H → va_D A (cw_X10 E q0 S0 ++ (cw_X8 E q1 S1)) → va_S A s.heap H locs → lv_has ls 9 [(0, .ref (q0 0)), (1, .ref (q1 0)), (2, .int x2), (3, .int x3), (4, .int x4), (5, .int x5), (6, .int x6), (7, .int x7), (8, .int x8)] → W p l e ({ frames := 3, cells := 0, slots := 0, locals := 65 } : Room) s m ar below meth c H locs 0 0 QM (F0 m 74 ls []) := by
    intro S0 x4 x5 x6 x7 x8 H locs ls h hP hD hS hl
    refine lv_iload hx hb dX10_leaveKnot_74 (lv_at hl 4 rfl) ?_
    refine lv_iload_n hx hb dX10_leaveKnot_76 rfl (lv_at hl 2 rfl) ?_
    refine lv_iconst (v := 1) hx hb dX10_leaveKnot_77 (by decide) ?_
    refine lv_isub hx hb dX10_leaveKnot_78 ?_
    refine lv_icmp_ge (tgt := 107) hx hb dX10_leaveKnot_79 (by decide) (fun c11 => ?_) (fun c11 => ?_)
    · have h := it_t h c11
      exact N107  S0 x4 x5 x6 x7 x8 _ _ _ h hP hD hS (lv_sub hl [0, 1, 3, 4, 5, 6, 7, 8] rfl)
    · have h := it_f h c11
      refine lv_aload_n hx hb dX10_leaveKnot_82 rfl (lv_at hl 1 rfl) ?_
      refine lv_iconst (v := 2) hx hb dX10_leaveKnot_83 (by decide) ?_
      refine lv_iload hx hb dX10_leaveKnot_84 (lv_at hl 4 rfl) ?_
      refine lv_imul hx hb dX10_leaveKnot_86 ?_
      refine lv_iconst (v := 2) hx hb dX10_leaveKnot_87 (by decide) ?_
      refine lv_iadd hx hb dX10_leaveKnot_88 ?_
      refine lv_iload hx hb dX10_leaveKnot_89 (lv_at hl 5 rfl) ?_
      obtain ⟨u12, hc, h⟩ := bd_el h
      have hC : ([3, 4] : List Nat).map (fun i => (cw_X10 E q0 S0 ++ (cw_X8 E q1 S1))[i]?) = (cw_X8 E q1 S1).map some := rfl
      refine ct_iR X hP hD hS [3, 4] hC (va_runS (As := [.ref (q1 0), .int ((2 * x4) + 2), .int x5]) (rest := []) ⟨hx, hb, hml, hown, hg⟩ (c_X10_isTorn l E q1 H.size S1 ((2 * x4) + 2) x5 u12 hc) (va_cwS 3 hg (gwS wm_X10_38 wst_X10_isTorn wini_X10 wco_X10_isTorn) rfl rfl rfl (by decide +kernel) ⟨Nat.le_of_ble_eq_true rfl, Nat.le_of_ble_eq_true rfl⟩) ⟨ct_blind, ct_pre X hP hD hS [3, 4] (by decide) hC _⟩ rfl rfl hl.1 rfl (lv_room (Nat.le_of_ble_eq_true rfl)) dX10_leaveKnot_91 ⟨Nat.zero_le _, Nat.zero_le _⟩) (fun H locs hP hD hS => ?_)
      clear hC
      refine lv_if_ne (tgt := 107) hx hb dX10_leaveKnot_94 (by decide) (fun c13 => ?_) (fun c13 => ?_)
      · have h := it_f h c13
        exact N107  S0 x4 x5 x6 x7 x8 _ _ _ h hP hD hS (lv_sub hl [0, 1, 3, 4, 5, 6, 7, 8] rfl)
      · have h := it_t h c13
        refine lv_aload_n hx hb dX10_leaveKnot_97 rfl (lv_at hl 0 rfl) ?_
        refine lv_iload_n hx hb dX10_leaveKnot_98 rfl (lv_at hl 3 rfl) ?_
        refine lv_bipush (v := 8) hx hb dX10_leaveKnot_99 (by decide) ?_
        refine lv_iadd hx hb dX10_leaveKnot_101 ?_
        refine lv_iload hx hb dX10_leaveKnot_102 (lv_at hl 8 rfl) ?_
        obtain ⟨u14, hc, h⟩ := bd_el h
        have hC : ([0, 1, 2] : List Nat).map (fun i => (cw_X10 E q0 S0 ++ (cw_X8 E q1 S1))[i]?) = (cw_X10 E q0 S0).map some := rfl
        refine ct_v (ws' := cw_X10 E q0 u14 ++ (cw_X8 E q1 S1)) X hP hD hS [0, 1, 2] (va_runV (C := RX10) (As := [.int (x3 + 8), .int x8]) (rest := []) ⟨hx, hb, hml, hown, hg⟩ (c_X10_reach l E q0 H.size S0 (x3 + 8) x8 u14 hc) (cwV 2 hg (gwV wm_X10_22 wi_X10_reach wsl_X10_reach wini_X10 wco_X10_reach) rfl rfl rfl (by decide +kernel) ⟨Nat.le_of_ble_eq_true rfl, Nat.le_of_ble_eq_true rfl⟩) ⟨ct_blind, ct_rv X.1 hP 0 rfl rfl, ct_pre X hP hD hS [0, 1, 2] (by decide) hC _⟩ rfl rfl hl.1 rfl (lv_room (Nat.le_of_ble_eq_true rfl)) dX10_leaveKnot_104 ⟨Nat.zero_le _, Nat.zero_le _⟩) hC rfl rfl (fun H locs hP hD hS => ?_)
        clear hC
        exact N107  u14 x4 x5 x6 x7 x8 _ _ _ h hP hD hS (lv_sub hl [0, 1, 3, 4, 5, 6, 7, 8] rfl)
  obtain ⟨H, eH⟩ : ∃ z, z = s.heap := ⟨_, rfl⟩
  rw [← eH]
  have hP : va_P E.1 vwCl (cw_X10 E q0 S0 ++ (cw_X8 E q1 S1)) H := by rw [eH]; exact hP
  have hS : va_S A s.heap H [] := by rw [eH]; exact hS
  clear eH
  obtain ⟨locs, el⟩ : ∃ z : List Loc, z = [] := ⟨_, rfl⟩
  rw [← el] at hS ⊢
  clear el
  refine lv_iload_n hx hb dX10_leaveKnot_0 rfl (lv_at hl 3 rfl) ?_
  refine lv_iconst (v := 1) hx hb dX10_leaveKnot_1 (by decide) ?_
  refine lv_isub hx hb dX10_leaveKnot_2 ?_
  refine lv_bipush (v := 8) hx hb dX10_leaveKnot_3 (by decide) ?_
  refine lv_idiv hx hb dX10_leaveKnot_5 (by decide) ?_
  obtain ⟨v1, ev1, h⟩ := lt_el h
  refine lv_top' ev1 ?_
  refine lv_istore (lv' := [(4, .int v1), (0, .ref (q0 0)), (1, .ref (q1 0)), (2, .int x2), (3, .int x3)]) hx hb dX10_leaveKnot_6 hl (by decide) rfl (fun ls hl => ?_)
  refine lv_iload_n hx hb dX10_leaveKnot_8 rfl (lv_at hl 4 rfl) ?_
  refine lv_iconst (v := 1) hx hb dX10_leaveKnot_9 (by decide) ?_
  refine lv_isub hx hb dX10_leaveKnot_10 ?_
  refine lv_bipush (v := 8) hx hb dX10_leaveKnot_11 (by decide) ?_
  refine lv_irem hx hb dX10_leaveKnot_13 (by decide) ?_
  obtain ⟨v2, ev2, h⟩ := lt_el h
  refine lv_top' ev2 ?_
  refine lv_istore (lv' := [(5, .int v2), (4, .int v1), (0, .ref (q0 0)), (1, .ref (q1 0)), (2, .int x2), (3, .int x3)]) hx hb dX10_leaveKnot_14 hl (by decide) rfl (fun ls hl => ?_)
  refine lv_iload hx hb dX10_leaveKnot_16 (lv_at hl 0 rfl) ?_
  refine lv_iconst (v := 1) hx hb dX10_leaveKnot_18 (by decide) ?_
  refine lv_iadd hx hb dX10_leaveKnot_19 ?_
  refine lv_bipush (v := 8) hx hb dX10_leaveKnot_20 (by decide) ?_
  refine lv_irem hx hb dX10_leaveKnot_22 (by decide) ?_
  obtain ⟨v3, ev3, h⟩ := lt_el h
  refine lv_top' ev3 ?_
  refine lv_istore (lv' := [(6, .int v3), (5, .int v2), (4, .int v1), (0, .ref (q0 0)), (1, .ref (q1 0)), (2, .int x2), (3, .int x3)]) hx hb dX10_leaveKnot_23 hl (by decide) rfl (fun ls hl => ?_)
  refine lv_iload hx hb dX10_leaveKnot_25 (lv_at hl 1 rfl) ?_
  refine lv_bipush (v := 8) hx hb dX10_leaveKnot_27 (by decide) ?_
  refine lv_iadd hx hb dX10_leaveKnot_29 ?_
  refine lv_iconst (v := 1) hx hb dX10_leaveKnot_30 (by decide) ?_
  refine lv_isub hx hb dX10_leaveKnot_31 ?_
  refine lv_bipush (v := 8) hx hb dX10_leaveKnot_32 (by decide) ?_
  refine lv_irem hx hb dX10_leaveKnot_34 (by decide) ?_
  obtain ⟨v4, ev4, h⟩ := lt_el h
  refine lv_top' ev4 ?_
  refine lv_istore (lv' := [(7, .int v4), (6, .int v3), (5, .int v2), (4, .int v1), (0, .ref (q0 0)), (1, .ref (q1 0)), (2, .int x2), (3, .int x3)]) hx hb dX10_leaveKnot_35 hl (by decide) rfl (fun ls hl => ?_)
  refine lv_aload_n hx hb dX10_leaveKnot_37 rfl (lv_at hl 4 rfl) ?_
  refine lv_iload_n hx hb dX10_leaveKnot_38 rfl (lv_at hl 7 rfl) ?_
  obtain ⟨u5, hc, h⟩ := bd_el h
  have hC : ([0, 1, 2] : List Nat).map (fun i => (cw_X10 E q0 S0 ++ (cw_X8 E q1 S1))[i]?) = (cw_X10 E q0 S0).map some := rfl
  refine ct_iR X hP hD hS [0, 1, 2] hC (va_runV (C := RX10) (As := [.int x3]) (rest := []) ⟨hx, hb, hml, hown, hg⟩ (c_X10_wayTo l E q0 H.size S0 x3 u5 hc) (cwV 1 hg (gwV wm_X10_34 wi_X10_wayTo wsl_X10_wayTo wini_X10 wco_X10_wayTo) rfl rfl rfl (by decide +kernel) ⟨Nat.le_of_ble_eq_true rfl, Nat.le_of_ble_eq_true rfl⟩) ⟨ct_blind, ct_rv X.1 hP 0 rfl rfl, ct_pre X hP hD hS [0, 1, 2] (by decide) hC _⟩ rfl rfl hl.1 rfl (lv_room (Nat.le_of_ble_eq_true rfl)) dX10_leaveKnot_39 ⟨Nat.zero_le _, Nat.zero_le _⟩) (fun H locs hP hD hS => ?_)
  clear hC
  refine lv_iconst (v := 1) hx hb dX10_leaveKnot_42 (by decide) ?_
  refine lv_iadd hx hb dX10_leaveKnot_43 ?_
  obtain ⟨v6, ev6, h⟩ := lt_el h
  refine lv_top' ev6 ?_
  refine lv_istore (lv' := [(8, .int v6), (7, .int v4), (6, .int v3), (5, .int v2), (4, .int v1), (0, .ref (q0 0)), (1, .ref (q1 0)), (2, .int x2), (3, .int x3)]) hx hb dX10_leaveKnot_44 hl (by decide) rfl (fun ls hl => ?_)
  refine lv_iload hx hb dX10_leaveKnot_46 (lv_at hl 4 rfl) ?_
  refine lv_if_le (tgt := 74) hx hb dX10_leaveKnot_48 (by decide) (fun c7 => ?_) (fun c7 => ?_)
  · have h := it_t h c7
    exact N74  S0 v1 v2 v3 v4 v6 _ _ _ h hP hD hS (lv_sub hl [5, 6, 7, 8, 4, 3, 2, 1, 0] rfl)
  · have h := it_f h c7
    refine lv_aload_n hx hb dX10_leaveKnot_51 rfl (lv_at hl 6 rfl) ?_
    refine lv_iconst (v := 2) hx hb dX10_leaveKnot_52 (by decide) ?_
    refine lv_iload hx hb dX10_leaveKnot_53 (lv_at hl 4 rfl) ?_
    refine lv_imul hx hb dX10_leaveKnot_55 ?_
    refine lv_iload hx hb dX10_leaveKnot_56 (lv_at hl 3 rfl) ?_
    obtain ⟨u8, hc, h⟩ := bd_el h
    have hC : ([3, 4] : List Nat).map (fun i => (cw_X10 E q0 S0 ++ (cw_X8 E q1 S1))[i]?) = (cw_X8 E q1 S1).map some := rfl
    refine ct_iR X hP hD hS [3, 4] hC (va_runS (As := [.ref (q1 0), .int (2 * v1), .int v2]) (rest := []) ⟨hx, hb, hml, hown, hg⟩ (c_X10_isTorn l E q1 H.size S1 (2 * v1) v2 u8 hc) (va_cwS 3 hg (gwS wm_X10_38 wst_X10_isTorn wini_X10 wco_X10_isTorn) rfl rfl rfl (by decide +kernel) ⟨Nat.le_of_ble_eq_true rfl, Nat.le_of_ble_eq_true rfl⟩) ⟨ct_blind, ct_pre X hP hD hS [3, 4] (by decide) hC _⟩ rfl rfl hl.1 rfl (lv_room (Nat.le_of_ble_eq_true rfl)) dX10_leaveKnot_58 ⟨Nat.zero_le _, Nat.zero_le _⟩) (fun H locs hP hD hS => ?_)
    clear hC
    refine lv_if_ne (tgt := 74) hx hb dX10_leaveKnot_61 (by decide) (fun c9 => ?_) (fun c9 => ?_)
    · have h := it_f h c9
      exact N74  S0 v1 v2 v3 v4 v6 _ _ _ h hP hD hS (lv_sub hl [5, 6, 7, 8, 4, 3, 2, 1, 0] rfl)
    · have h := it_t h c9
      refine lv_aload_n hx hb dX10_leaveKnot_64 rfl (lv_at hl 5 rfl) ?_
      refine lv_iload_n hx hb dX10_leaveKnot_65 rfl (lv_at hl 8 rfl) ?_
      refine lv_bipush (v := 8) hx hb dX10_leaveKnot_66 (by decide) ?_
      refine lv_isub hx hb dX10_leaveKnot_68 ?_
      refine lv_iload hx hb dX10_leaveKnot_69 (lv_at hl 0 rfl) ?_
      obtain ⟨u10, hc, h⟩ := bd_el h
      have hC : ([0, 1, 2] : List Nat).map (fun i => (cw_X10 E q0 S0 ++ (cw_X8 E q1 S1))[i]?) = (cw_X10 E q0 S0).map some := rfl
      refine ct_v (ws' := cw_X10 E q0 u10 ++ (cw_X8 E q1 S1)) X hP hD hS [0, 1, 2] (va_runV (C := RX10) (As := [.int (x3 - 8), .int v6]) (rest := []) ⟨hx, hb, hml, hown, hg⟩ (c_X10_reach l E q0 H.size S0 (x3 - 8) v6 u10 hc) (cwV 2 hg (gwV wm_X10_22 wi_X10_reach wsl_X10_reach wini_X10 wco_X10_reach) rfl rfl rfl (by decide +kernel) ⟨Nat.le_of_ble_eq_true rfl, Nat.le_of_ble_eq_true rfl⟩) ⟨ct_blind, ct_rv X.1 hP 0 rfl rfl, ct_pre X hP hD hS [0, 1, 2] (by decide) hC _⟩ rfl rfl hl.1 rfl (lv_room (Nat.le_of_ble_eq_true rfl)) dX10_leaveKnot_71 ⟨Nat.zero_le _, Nat.zero_le _⟩) hC rfl rfl (fun H locs hP hD hS => ?_)
      clear hC
      exact N74  u10 v1 v2 v3 v4 v6 _ _ _ h hP hD hS (lv_sub hl [5, 6, 7, 8, 4, 3, 2, 1, 0] rfl)
theorem dX10_leaveMiddle_0 : decode cX10_leaveMiddle 0 = .ok (.iconst 0, 1) := by decide +kernel
theorem dX10_leaveMiddle_1 : decode cX10_leaveMiddle 1 = .ok (.istore_n 2, 1) := by decide +kernel
theorem dX10_leaveMiddle_2 : decode cX10_leaveMiddle 2 = .ok (.iload_n 2, 1) := by decide +kernel
theorem dX10_leaveMiddle_3 : decode cX10_leaveMiddle 3 = .ok (.bipush 8, 2) := by decide +kernel
theorem dX10_leaveMiddle_5 : decode cX10_leaveMiddle 5 = .ok (.if_icmp .ge 26, 3) := by decide +kernel
theorem dX10_leaveMiddle_8 : decode cX10_leaveMiddle 8 = .ok (.aload_n 1, 1) := by decide +kernel
theorem dX10_leaveMiddle_9 : decode cX10_leaveMiddle 9 = .ok (.iconst 0, 1) := by decide +kernel
theorem dX10_leaveMiddle_10 : decode cX10_leaveMiddle 10 = .ok (.iload_n 2, 1) := by decide +kernel
theorem dX10_leaveMiddle_11 : decode cX10_leaveMiddle 11 = .ok (.invokestatic 38, 3) := by decide +kernel
theorem dX10_leaveMiddle_14 : decode cX10_leaveMiddle 14 = .ok (.ifCond .ne 11, 3) := by decide +kernel
theorem dX10_leaveMiddle_17 : decode cX10_leaveMiddle 17 = .ok (.aload_n 0, 1) := by decide +kernel
theorem dX10_leaveMiddle_18 : decode cX10_leaveMiddle 18 = .ok (.iconst 1, 1) := by decide +kernel
theorem dX10_leaveMiddle_19 : decode cX10_leaveMiddle 19 = .ok (.iload_n 2, 1) := by decide +kernel
theorem dX10_leaveMiddle_20 : decode cX10_leaveMiddle 20 = .ok (.iadd, 1) := by decide +kernel
theorem dX10_leaveMiddle_21 : decode cX10_leaveMiddle 21 = .ok (.iconst 1, 1) := by decide +kernel
theorem dX10_leaveMiddle_22 : decode cX10_leaveMiddle 22 = .ok (.invokevirtual 22, 3) := by decide +kernel
theorem dX10_leaveMiddle_25 : decode cX10_leaveMiddle 25 = .ok (.iinc 2 1, 3) := by decide +kernel
theorem dX10_leaveMiddle_28 : decode cX10_leaveMiddle 28 = .ok (.goto (-26), 3) := by decide +kernel
theorem dX10_leaveMiddle_31 : decode cX10_leaveMiddle 31 = .ok (.return_, 1) := by decide +kernel
def f_X10_leaveMiddle_n2 (S1 : Gr) : Nat → Gr → Int32 → Option (Gr)
  | 0, _, _ => none
  | n + 1, S0, x2 => if 8 ≤ x2 then (some S0) else ((f_X10_isTorn S1 0 x2).bind fun u2 => if u2 = 0 then ((f_X10_reach S0 (1 + x2) 1).bind fun u5 => lt' (x2 + 1) fun v6 => f_X10_leaveMiddle_n2 S1 n u5 v6) else (lt' (x2 + 1) fun v4 => f_X10_leaveMiddle_n2 S1 n S0 v4))
def f_X10_leaveMiddle (S0 : Gr) (S1 : Gr) : Option (Gr) := f_X10_leaveMiddle_n2 S1 fu S0 0
set_option maxHeartbeats 4000000 in
set_option maxRecDepth 100000 in
theorem c_X10_leaveMiddle (l : Launch) (E : Ec) (q0 q1 : Nat → Nat) (sz : Nat) (S0 : Gr) (S1 : Gr) (Rv : Gr) (h : f_X10_leaveMiddle S0 S1 = some Rv) : Met l yX10_leaveMiddle (wsM (.code yX10_leaveMiddle cX10_leaveMiddle 3 none)) ({ frames := 3, cells := 0, slots := 0, locals := 65 } : Room) (va_Pc [.ref (q0 0), .ref (q1 0)] (ctP E (cw_X10 E q0 S0 ++ (cw_X8 E q1 S1)) sz)) (ctV E (cw_X10 E q0 S0 ++ (cw_X8 E q1 S1)) (cw_X10 E q0 Rv ++ (cw_X8 E q1 S1)) sz) 0 0 (va_A (cw_X10 E q0 S0 ++ (cw_X8 E q1 S1)) sz) := by
  refine ct_metV (by decide) (Nat.le_of_ble_eq_true rfl) ?_
  intro p e s m ar below meth c A QM hx hb hml hown hg X hP hD hS RET ls hl
  have hown : s.vm.findClass RX10 = some m.cls := hown
  have hl : lv_has ls 3 [(0, .ref (q0 0)), (1, .ref (q1 0))] := hl
  have RT : ∀ (S0 : Gr) (H : Heap) (locs : List Loc) (ls : Array Slot) (pc : Nat), some S0 = some Rv → va_P E.1 vwCl (cw_X10 E q0 S0 ++ (cw_X8 E q1 S1)) H → va_D A (cw_X10 E q0 S0 ++ (cw_X8 E q1 S1)) → va_S A s.heap H locs → decode cX10_leaveMiddle pc = .ok (.return_, 1) → W p l e ({ frames := 3, cells := 0, slots := 0, locals := 65 } : Room) s m ar below meth c H locs 0 0 QM (F0 m pc ls []) := by
    intro S0 H locs ls pc e hP hD hS d
    obtain rfl := sm_e e
    exact RET H locs pc ls hP hD hS d
  clear RET
  have N2 : ∀ (n : Nat) (S0 : Gr) (x2 : Int32) (H : Heap) (locs : List Loc) (ls : Array Slot), f_X10_leaveMiddle_n2 S1 n S0 x2 = some Rv → va_P E.1 vwCl (cw_X10 E q0 S0 ++ (cw_X8 E q1 S1)) H → va_D A (cw_X10 E q0 S0 ++ (cw_X8 E q1 S1)) → va_S A s.heap H locs → lv_has ls 3 [(0, .ref (q0 0)), (1, .ref (q1 0)), (2, .int x2)] → W p l e ({ frames := 3, cells := 0, slots := 0, locals := 65 } : Room) s m ar below meth c H locs 0 0 QM (F0 m 2 ls []) := by
    intro n
    induction n with
    | zero => intro S0 x2 H locs ls h; exact nn_el h
    | succ n ih =>
      intro S0 x2 H locs ls h hP hD hS hl
      refine lv_iload_n hx hb dX10_leaveMiddle_2 rfl (lv_at hl 2 rfl) ?_
      refine lv_bipush (v := 8) hx hb dX10_leaveMiddle_3 (by decide) ?_
      refine lv_icmp_ge (tgt := 31) hx hb dX10_leaveMiddle_5 (by decide) (fun c1 => ?_) (fun c1 => ?_)
      · have h := it_t h c1
        exact RT S0 _ _ _ _ h hP hD hS dX10_leaveMiddle_31
      · have h := it_f h c1
        refine lv_aload_n hx hb dX10_leaveMiddle_8 rfl (lv_at hl 1 rfl) ?_
        refine lv_iconst (v := 0) hx hb dX10_leaveMiddle_9 (by decide) ?_
        refine lv_iload_n hx hb dX10_leaveMiddle_10 rfl (lv_at hl 2 rfl) ?_
        obtain ⟨u2, hc, h⟩ := bd_el h
        have hC : ([3, 4] : List Nat).map (fun i => (cw_X10 E q0 S0 ++ (cw_X8 E q1 S1))[i]?) = (cw_X8 E q1 S1).map some := rfl
        refine ct_iR X hP hD hS [3, 4] hC (va_runS (As := [.ref (q1 0), .int 0, .int x2]) (rest := []) ⟨hx, hb, hml, hown, hg⟩ (c_X10_isTorn l E q1 H.size S1 0 x2 u2 hc) (va_cwS 3 hg (gwS wm_X10_38 wst_X10_isTorn wini_X10 wco_X10_isTorn) rfl rfl rfl (by decide +kernel) ⟨Nat.le_of_ble_eq_true rfl, Nat.le_of_ble_eq_true rfl⟩) ⟨ct_blind, ct_pre X hP hD hS [3, 4] (by decide) hC _⟩ rfl rfl hl.1 rfl (lv_room (Nat.le_of_ble_eq_true rfl)) dX10_leaveMiddle_11 ⟨Nat.zero_le _, Nat.zero_le _⟩) (fun H locs hP hD hS => ?_)
        clear hC
        refine lv_if_ne (tgt := 25) hx hb dX10_leaveMiddle_14 (by decide) (fun c3 => ?_) (fun c3 => ?_)
        · have h := it_f h c3
          obtain ⟨v4, ev4, h⟩ := lt_el h
          refine lv_iinc (v := v4) (lv' := [(2, .int v4), (0, .ref (q0 0)), (1, .ref (q1 0))]) hx hb dX10_leaveMiddle_25 hl (k := 2) rfl (by rw [ev4]; rfl) (by decide) rfl (fun ls hl => ?_)
          refine lv_goto (tgt := 2) hx hb dX10_leaveMiddle_28 (by decide) ?_
          exact ih S0 v4 _ _ _ h hP hD hS (lv_sub hl [1, 2, 0] rfl)
        · have h := it_t h c3
          refine lv_aload_n hx hb dX10_leaveMiddle_17 rfl (lv_at hl 0 rfl) ?_
          refine lv_iconst (v := 1) hx hb dX10_leaveMiddle_18 (by decide) ?_
          refine lv_iload_n hx hb dX10_leaveMiddle_19 rfl (lv_at hl 2 rfl) ?_
          refine lv_iadd hx hb dX10_leaveMiddle_20 ?_
          refine lv_iconst (v := 1) hx hb dX10_leaveMiddle_21 (by decide) ?_
          obtain ⟨u5, hc, h⟩ := bd_el h
          have hC : ([0, 1, 2] : List Nat).map (fun i => (cw_X10 E q0 S0 ++ (cw_X8 E q1 S1))[i]?) = (cw_X10 E q0 S0).map some := rfl
          refine ct_v (ws' := cw_X10 E q0 u5 ++ (cw_X8 E q1 S1)) X hP hD hS [0, 1, 2] (va_runV (C := RX10) (As := [.int (1 + x2), .int 1]) (rest := []) ⟨hx, hb, hml, hown, hg⟩ (c_X10_reach l E q0 H.size S0 (1 + x2) 1 u5 hc) (cwV 2 hg (gwV wm_X10_22 wi_X10_reach wsl_X10_reach wini_X10 wco_X10_reach) rfl rfl rfl (by decide +kernel) ⟨Nat.le_of_ble_eq_true rfl, Nat.le_of_ble_eq_true rfl⟩) ⟨ct_blind, ct_rv X.1 hP 0 rfl rfl, ct_pre X hP hD hS [0, 1, 2] (by decide) hC _⟩ rfl rfl hl.1 rfl (lv_room (Nat.le_of_ble_eq_true rfl)) dX10_leaveMiddle_22 ⟨Nat.zero_le _, Nat.zero_le _⟩) hC rfl rfl (fun H locs hP hD hS => ?_)
          clear hC
          obtain ⟨v6, ev6, h⟩ := lt_el h
          refine lv_iinc (v := v6) (lv' := [(2, .int v6), (0, .ref (q0 0)), (1, .ref (q1 0))]) hx hb dX10_leaveMiddle_25 hl (k := 2) rfl (by rw [ev6]; rfl) (by decide) rfl (fun ls hl => ?_)
          refine lv_goto (tgt := 2) hx hb dX10_leaveMiddle_28 (by decide) ?_
          exact ih u5 v6 _ _ _ h hP hD hS (lv_sub hl [1, 2, 0] rfl)
  obtain ⟨H, eH⟩ : ∃ z, z = s.heap := ⟨_, rfl⟩
  rw [← eH]
  have hP : va_P E.1 vwCl (cw_X10 E q0 S0 ++ (cw_X8 E q1 S1)) H := by rw [eH]; exact hP
  have hS : va_S A s.heap H [] := by rw [eH]; exact hS
  clear eH
  obtain ⟨locs, el⟩ : ∃ z : List Loc, z = [] := ⟨_, rfl⟩
  rw [← el] at hS ⊢
  clear el
  refine lv_iconst (v := 0) hx hb dX10_leaveMiddle_0 (by decide) ?_
  refine lv_istore_n (lv' := [(2, .int 0), (0, .ref (q0 0)), (1, .ref (q1 0))]) hx hb dX10_leaveMiddle_1 rfl hl (by decide) rfl (fun ls hl => ?_)
  exact N2 fu S0 0 _ _ _ h hP hD hS (lv_sub hl [1, 2, 0] rfl)
theorem dX10_threadsTo_0 : decode cX10_threadsTo 0 = .ok (.iconst 0, 1) := by decide +kernel
theorem dX10_threadsTo_1 : decode cX10_threadsTo 1 = .ok (.istore 5, 2) := by decide +kernel
theorem dX10_threadsTo_3 : decode cX10_threadsTo 3 = .ok (.iload 5, 2) := by decide +kernel
theorem dX10_threadsTo_5 : decode cX10_threadsTo 5 = .ok (.bipush 65, 2) := by decide +kernel
theorem dX10_threadsTo_7 : decode cX10_threadsTo 7 = .ok (.if_icmp .ge 19, 3) := by decide +kernel
theorem dX10_threadsTo_10 : decode cX10_threadsTo 10 = .ok (.aload_n 0, 1) := by decide +kernel
theorem dX10_threadsTo_11 : decode cX10_threadsTo 11 = .ok (.getfield 11, 3) := by decide +kernel
theorem dX10_threadsTo_14 : decode cX10_threadsTo 14 = .ok (.iload 5, 2) := by decide +kernel
theorem dX10_threadsTo_16 : decode cX10_threadsTo 16 = .ok (.sipush 1000, 3) := by decide +kernel
theorem dX10_threadsTo_19 : decode cX10_threadsTo 19 = .ok (.iastore, 1) := by decide +kernel
theorem dX10_threadsTo_20 : decode cX10_threadsTo 20 = .ok (.iinc 5 1, 3) := by decide +kernel
theorem dX10_threadsTo_23 : decode cX10_threadsTo 23 = .ok (.goto (-20), 3) := by decide +kernel
theorem dX10_threadsTo_26 : decode cX10_threadsTo 26 = .ok (.aload_n 0, 1) := by decide +kernel
theorem dX10_threadsTo_27 : decode cX10_threadsTo 27 = .ok (.iconst 0, 1) := by decide +kernel
theorem dX10_threadsTo_28 : decode cX10_threadsTo 28 = .ok (.putfield 18, 3) := by decide +kernel
theorem dX10_threadsTo_31 : decode cX10_threadsTo 31 = .ok (.aload_n 0, 1) := by decide +kernel
theorem dX10_threadsTo_32 : decode cX10_threadsTo 32 = .ok (.iconst 0, 1) := by decide +kernel
theorem dX10_threadsTo_33 : decode cX10_threadsTo 33 = .ok (.iconst 0, 1) := by decide +kernel
theorem dX10_threadsTo_34 : decode cX10_threadsTo 34 = .ok (.invokevirtual 22, 3) := by decide +kernel
theorem dX10_threadsTo_37 : decode cX10_threadsTo 37 = .ok (.iconst 0, 1) := by decide +kernel
theorem dX10_threadsTo_38 : decode cX10_threadsTo 38 = .ok (.istore 5, 2) := by decide +kernel
theorem dX10_threadsTo_40 : decode cX10_threadsTo 40 = .ok (.iload 5, 2) := by decide +kernel
theorem dX10_threadsTo_42 : decode cX10_threadsTo 42 = .ok (.aload_n 0, 1) := by decide +kernel
theorem dX10_threadsTo_43 : decode cX10_threadsTo 43 = .ok (.getfield 18, 3) := by decide +kernel
theorem dX10_threadsTo_46 : decode cX10_threadsTo 46 = .ok (.if_icmp .ge 47, 3) := by decide +kernel
theorem dX10_threadsTo_49 : decode cX10_threadsTo 49 = .ok (.iload 5, 2) := by decide +kernel
theorem dX10_threadsTo_51 : decode cX10_threadsTo 51 = .ok (.bipush 65, 2) := by decide +kernel
theorem dX10_threadsTo_53 : decode cX10_threadsTo 53 = .ok (.if_icmp .ge 40, 3) := by decide +kernel
theorem dX10_threadsTo_56 : decode cX10_threadsTo 56 = .ok (.aload_n 0, 1) := by decide +kernel
theorem dX10_threadsTo_57 : decode cX10_threadsTo 57 = .ok (.getfield 15, 3) := by decide +kernel
theorem dX10_threadsTo_60 : decode cX10_threadsTo 60 = .ok (.iload 5, 2) := by decide +kernel
theorem dX10_threadsTo_62 : decode cX10_threadsTo 62 = .ok (.iaload, 1) := by decide +kernel
theorem dX10_threadsTo_63 : decode cX10_threadsTo 63 = .ok (.ifCond .ne 11, 3) := by decide +kernel
theorem dX10_threadsTo_66 : decode cX10_threadsTo 66 = .ok (.aload_n 0, 1) := by decide +kernel
theorem dX10_threadsTo_67 : decode cX10_threadsTo 67 = .ok (.aload_n 1, 1) := by decide +kernel
theorem dX10_threadsTo_68 : decode cX10_threadsTo 68 = .ok (.invokevirtual 26, 3) := by decide +kernel
theorem dX10_threadsTo_71 : decode cX10_threadsTo 71 = .ok (.goto 16, 3) := by decide +kernel
theorem dX10_threadsTo_74 : decode cX10_threadsTo 74 = .ok (.aload_n 0, 1) := by decide +kernel
theorem dX10_threadsTo_75 : decode cX10_threadsTo 75 = .ok (.aload_n 1, 1) := by decide +kernel
theorem dX10_threadsTo_76 : decode cX10_threadsTo 76 = .ok (.iload_n 2, 1) := by decide +kernel
theorem dX10_threadsTo_77 : decode cX10_threadsTo 77 = .ok (.aload_n 0, 1) := by decide +kernel
theorem dX10_threadsTo_78 : decode cX10_threadsTo 78 = .ok (.getfield 15, 3) := by decide +kernel
theorem dX10_threadsTo_81 : decode cX10_threadsTo 81 = .ok (.iload 5, 2) := by decide +kernel
theorem dX10_threadsTo_83 : decode cX10_threadsTo 83 = .ok (.iaload, 1) := by decide +kernel
theorem dX10_threadsTo_84 : decode cX10_threadsTo 84 = .ok (.invokevirtual 30, 3) := by decide +kernel
theorem dX10_threadsTo_87 : decode cX10_threadsTo 87 = .ok (.iinc 5 1, 3) := by decide +kernel
theorem dX10_threadsTo_90 : decode cX10_threadsTo 90 = .ok (.goto (-50), 3) := by decide +kernel
theorem dX10_threadsTo_93 : decode cX10_threadsTo 93 = .ok (.aload_n 0, 1) := by decide +kernel
theorem dX10_threadsTo_94 : decode cX10_threadsTo 94 = .ok (.iconst 1, 1) := by decide +kernel
theorem dX10_threadsTo_95 : decode cX10_threadsTo 95 = .ok (.iload_n 3, 1) := by decide +kernel
theorem dX10_threadsTo_96 : decode cX10_threadsTo 96 = .ok (.bipush 8, 2) := by decide +kernel
theorem dX10_threadsTo_98 : decode cX10_threadsTo 98 = .ok (.imul, 1) := by decide +kernel
theorem dX10_threadsTo_99 : decode cX10_threadsTo 99 = .ok (.iadd, 1) := by decide +kernel
theorem dX10_threadsTo_100 : decode cX10_threadsTo 100 = .ok (.iload 4, 2) := by decide +kernel
theorem dX10_threadsTo_102 : decode cX10_threadsTo 102 = .ok (.iadd, 1) := by decide +kernel
theorem dX10_threadsTo_103 : decode cX10_threadsTo 103 = .ok (.invokevirtual 34, 3) := by decide +kernel
theorem dX10_threadsTo_106 : decode cX10_threadsTo 106 = .ok (.istore 5, 2) := by decide +kernel
theorem dX10_threadsTo_108 : decode cX10_threadsTo 108 = .ok (.iload 5, 2) := by decide +kernel
theorem dX10_threadsTo_110 : decode cX10_threadsTo 110 = .ok (.sipush 1000, 3) := by decide +kernel
theorem dX10_threadsTo_113 : decode cX10_threadsTo 113 = .ok (.if_icmp .ne 8, 3) := by decide +kernel
theorem dX10_threadsTo_116 : decode cX10_threadsTo 116 = .ok (.bipush (-2), 2) := by decide +kernel
theorem dX10_threadsTo_118 : decode cX10_threadsTo 118 = .ok (.goto 5, 3) := by decide +kernel
theorem dX10_threadsTo_121 : decode cX10_threadsTo 121 = .ok (.iload 5, 2) := by decide +kernel
theorem dX10_threadsTo_123 : decode cX10_threadsTo 123 = .ok (.ireturn, 1) := by decide +kernel
def f_X10_threadsTo_n93 (S1 : Gr) (x2 : Int32) (x3 : Int32) (x4 : Int32) (S0 : Gr) : Option (Int32 × Gr) := (f_X10_wayTo S0 ((1 + (x3 * 8)) + x4)).bind fun u15 => if u15 = 1000 then (some ((-2), S0)) else (some (u15, S0))
def f_X10_threadsTo_n40 (S1 : Gr) (x2 : Int32) (x3 : Int32) (x4 : Int32) : Nat → Gr → Int32 → Option (Int32 × Gr)
  | 0, _, _ => none
  | n + 1, S0, x5 => if (S0.1 2) ≤ x5 then (f_X10_threadsTo_n93 S1 x2 x3 x4 S0) else (if 65 ≤ x5 then (f_X10_threadsTo_n93 S1 x2 x3 x4 S0) else (rd' (S0.2 1) 65 x5 fun v8 => if v8 = 0 then ((f_X10_leaveMiddle S0 S1).bind fun u13 => lt' (x5 + 1) fun v14 => f_X10_threadsTo_n40 S1 x2 x3 x4 n u13 v14) else (rd' (S0.2 1) 65 x5 fun v10 => (f_X10_leaveKnot S0 S1 x2 v10).bind fun u11 => lt' (x5 + 1) fun v12 => f_X10_threadsTo_n40 S1 x2 x3 x4 n u11 v12)))
def f_X10_threadsTo_n3 (S1 : Gr) (x2 : Int32) (x3 : Int32) (x4 : Int32) : Nat → Gr → Int32 → Option (Int32 × Gr)
  | 0, _, _ => none
  | n + 1, S0, x5 => if 65 ≤ x5 then (lt' (sI S0 2 0) fun S0_2 => (f_X10_reach S0_2 0 0).bind fun u3 => f_X10_threadsTo_n40 S1 x2 x3 x4 fu u3 0) else (ck' 65 x5 (lt' (sA S0 0 (Int32.toNatClampNeg x5) 1000) fun S0_4 => lt' (x5 + 1) fun v5 => f_X10_threadsTo_n3 S1 x2 x3 x4 n S0_4 v5))
def f_X10_threadsTo (S0 : Gr) (S1 : Gr) (x2 : Int32) (x3 : Int32) (x4 : Int32) : Option (Int32 × Gr) := f_X10_threadsTo_n3 S1 x2 x3 x4 fu S0 0
set_option maxHeartbeats 4000000 in
set_option maxRecDepth 100000 in
theorem c_X10_threadsTo (l : Launch) (E : Ec) (q0 q1 : Nat → Nat) (sz : Nat) (S0 : Gr) (S1 : Gr) (x2 : Int32) (x3 : Int32) (x4 : Int32) (Rv : Int32 × Gr) (h : f_X10_threadsTo S0 S1 x2 x3 x4 = some Rv) : Met l yX10_threadsTo (wsM (.code yX10_threadsTo cX10_threadsTo 6 (some .int))) ({ frames := 4, cells := 0, slots := 0, locals := 93 } : Room) (va_Pc [.ref (q0 0), .ref (q1 0), .int x2, .int x3, .int x4] (ctP E (cw_X10 E q0 S0 ++ (cw_X8 E q1 S1)) sz)) (ctI E (cw_X10 E q0 S0 ++ (cw_X8 E q1 S1)) (cw_X10 E q0 Rv.2 ++ (cw_X8 E q1 S1)) sz Rv.1) 0 0 (va_A (cw_X10 E q0 S0 ++ (cw_X8 E q1 S1)) sz) := by
  refine ct_metI (by decide) (Nat.le_of_ble_eq_true rfl) ?_
  intro p e s m ar below meth c A QM hx hb hml hown hg X hP hD hS RET ls hl
  have hown : s.vm.findClass RX10 = some m.cls := hown
  have hl : lv_has ls 6 [(0, .ref (q0 0)), (1, .ref (q1 0)), (2, .int x2), (3, .int x3), (4, .int x4)] := hl
  have RT : ∀ (v : Int32) (S0 : Gr) (H : Heap) (locs : List Loc) (ls : Array Slot) (pc : Nat), some (v, S0) = some Rv → narrow .int (.int v) = .int v → va_P E.1 vwCl (cw_X10 E q0 S0 ++ (cw_X8 E q1 S1)) H → va_D A (cw_X10 E q0 S0 ++ (cw_X8 E q1 S1)) → va_S A s.heap H locs → decode cX10_threadsTo pc = .ok (.ireturn, 1) → W p l e ({ frames := 4, cells := 0, slots := 0, locals := 93 } : Room) s m ar below meth c H locs 0 0 QM (F0 m pc ls [.int v]) := by
    intro v S0 H locs ls pc e hn hP hD hS d
    obtain rfl := sm_e e
    exact RET H locs pc ls hn hP hD hS d
  clear RET
  have N93 : ∀ (S0 : Gr) (H : Heap) (locs : List Loc) (ls : Array Slot), f_X10_threadsTo_n93 S1 x2 x3 x4 S0 = some Rv → va_P E.1 vwCl (cw_X10 E q0 S0 ++ (cw_X8 E q1 S1)) H → va_D A (cw_X10 E q0 S0 ++ (cw_X8 E q1 S1)) → va_S A s.heap H locs → lv_has ls 6 [(0, .ref (q0 0)), (3, .int x3), (4, .int x4)] → W p l e ({ frames := 4, cells := 0, slots := 0, locals := 93 } : Room) s m ar below meth c H locs 0 0 QM (F0 m 93 ls []) := by
    intro S0 H locs ls h hP hD hS hl
    refine lv_aload_n hx hb dX10_threadsTo_93 rfl (lv_at hl 0 rfl) ?_
    refine lv_iconst (v := 1) hx hb dX10_threadsTo_94 (by decide) ?_
    refine lv_iload_n hx hb dX10_threadsTo_95 rfl (lv_at hl 1 rfl) ?_
    refine lv_bipush (v := 8) hx hb dX10_threadsTo_96 (by decide) ?_
    refine lv_imul hx hb dX10_threadsTo_98 ?_
    refine lv_iadd hx hb dX10_threadsTo_99 ?_
    refine lv_iload hx hb dX10_threadsTo_100 (lv_at hl 2 rfl) ?_
    refine lv_iadd hx hb dX10_threadsTo_102 ?_
    obtain ⟨u15, hc, h⟩ := bd_el h
    have hC : ([0, 1, 2] : List Nat).map (fun i => (cw_X10 E q0 S0 ++ (cw_X8 E q1 S1))[i]?) = (cw_X10 E q0 S0).map some := rfl
    refine ct_iR X hP hD hS [0, 1, 2] hC (va_runV (C := RX10) (As := [.int ((1 + (x3 * 8)) + x4)]) (rest := []) ⟨hx, hb, hml, hown, hg⟩ (c_X10_wayTo l E q0 H.size S0 ((1 + (x3 * 8)) + x4) u15 hc) (cwV 1 hg (gwV wm_X10_34 wi_X10_wayTo wsl_X10_wayTo wini_X10 wco_X10_wayTo) rfl rfl rfl (by decide +kernel) ⟨Nat.le_of_ble_eq_true rfl, Nat.le_of_ble_eq_true rfl⟩) ⟨ct_blind, ct_rv X.1 hP 0 rfl rfl, ct_pre X hP hD hS [0, 1, 2] (by decide) hC _⟩ rfl rfl hl.1 rfl (lv_room (Nat.le_of_ble_eq_true rfl)) dX10_threadsTo_103 ⟨Nat.zero_le _, Nat.zero_le _⟩) (fun H locs hP hD hS => ?_)
    clear hC
    refine lv_istore (lv' := [(5, .int u15), (0, .ref (q0 0)), (3, .int x3), (4, .int x4)]) hx hb dX10_threadsTo_106 hl (by decide) rfl (fun ls hl => ?_)
    refine lv_iload hx hb dX10_threadsTo_108 (lv_at hl 0 rfl) ?_
    refine lv_sipush (v := 1000) hx hb dX10_threadsTo_110 (by decide) ?_
    refine lv_icmp_ne (tgt := 121) hx hb dX10_threadsTo_113 (by decide) (fun c16 => ?_) (fun c16 => ?_)
    · have h := it_f h c16
      refine lv_iload hx hb dX10_threadsTo_121 (lv_at hl 0 rfl) ?_
      exact RT u15 S0 _ _ _ _ h rfl hP hD hS dX10_threadsTo_123
    · have h := it_t h c16
      refine lv_bipush (v := (-2)) hx hb dX10_threadsTo_116 (by decide) ?_
      refine lv_goto (tgt := 123) hx hb dX10_threadsTo_118 (by decide) ?_
      exact RT (-2) S0 _ _ _ _ h rfl hP hD hS dX10_threadsTo_123
  have N40 : ∀ (n : Nat) (S0 : Gr) (x5 : Int32) (H : Heap) (locs : List Loc) (ls : Array Slot), f_X10_threadsTo_n40 S1 x2 x3 x4 n S0 x5 = some Rv → va_P E.1 vwCl (cw_X10 E q0 S0 ++ (cw_X8 E q1 S1)) H → va_D A (cw_X10 E q0 S0 ++ (cw_X8 E q1 S1)) → va_S A s.heap H locs → lv_has ls 6 [(0, .ref (q0 0)), (1, .ref (q1 0)), (2, .int x2), (3, .int x3), (4, .int x4), (5, .int x5)] → W p l e ({ frames := 4, cells := 0, slots := 0, locals := 93 } : Room) s m ar below meth c H locs 0 0 QM (F0 m 40 ls []) := by
    intro n
    induction n with
    | zero => intro S0 x5 H locs ls h; exact nn_el h
    | succ n ih =>
      intro S0 x5 H locs ls h hP hD hS hl
      refine lv_iload hx hb dX10_threadsTo_40 (lv_at hl 5 rfl) ?_
      refine lv_aload_n hx hb dX10_threadsTo_42 rfl (lv_at hl 0 rfl) ?_
      refine va_get (D := E.1) (ci := 9) (v := .int (S0.1 2)) (C := RX10) (T := TX10) (N := 3) hx hb hg in_X10 hown X.1 hP 0 rfl rfl 2 (by decide) (hg _ wf_X10_18) (fun _ h9 => h9) rfl dX10_threadsTo_43 ?_
      refine lv_icmp_ge (tgt := 93) hx hb dX10_threadsTo_46 (by decide) (fun c6 => ?_) (fun c6 => ?_)
      · have h := it_t h c6
        exact N93  S0 _ _ _ h hP hD hS (lv_sub hl [0, 3, 4] rfl)
      · have h := it_f h c6
        refine lv_iload hx hb dX10_threadsTo_49 (lv_at hl 5 rfl) ?_
        refine lv_bipush (v := 65) hx hb dX10_threadsTo_51 (by decide) ?_
        refine lv_icmp_ge (tgt := 93) hx hb dX10_threadsTo_53 (by decide) (fun c7 => ?_) (fun c7 => ?_)
        · have h := it_t h c7
          exact N93  S0 _ _ _ h hP hD hS (lv_sub hl [0, 3, 4] rfl)
        · have h := it_f h c7
          refine lv_aload_n hx hb dX10_threadsTo_56 rfl (lv_at hl 0 rfl) ?_
          refine va_get (D := E.1) (ci := 9) (v := .ref (q0 2)) (C := RX10) (T := TX10) (N := 3) hx hb hg in_X10 hown X.1 hP 0 rfl rfl 1 (by decide) (hg _ wf_X10_15) (fun _ h9 => h9) rfl dX10_threadsTo_57 ?_
          refine lv_iload hx hb dX10_threadsTo_60 (lv_at hl 5 rfl) ?_
          obtain ⟨hi, v8, ev8, h⟩ := rd_el h
          refine va_iald hx hb X.1 hP 2 0 rfl rfl hi dX10_threadsTo_62 ?_
          refine lv_top' ev8 ?_
          refine lv_if_ne (tgt := 74) hx hb dX10_threadsTo_63 (by decide) (fun c9 => ?_) (fun c9 => ?_)
          · have h := it_f h c9
            refine lv_aload_n hx hb dX10_threadsTo_74 rfl (lv_at hl 0 rfl) ?_
            refine lv_aload_n hx hb dX10_threadsTo_75 rfl (lv_at hl 1 rfl) ?_
            refine lv_iload_n hx hb dX10_threadsTo_76 rfl (lv_at hl 2 rfl) ?_
            refine lv_aload_n hx hb dX10_threadsTo_77 rfl (lv_at hl 0 rfl) ?_
            refine va_get (D := E.1) (ci := 9) (v := .ref (q0 2)) (C := RX10) (T := TX10) (N := 3) hx hb hg in_X10 hown X.1 hP 0 rfl rfl 1 (by decide) (hg _ wf_X10_15) (fun _ h9 => h9) rfl dX10_threadsTo_78 ?_
            refine lv_iload hx hb dX10_threadsTo_81 (lv_at hl 5 rfl) ?_
            obtain ⟨hi, v10, ev10, h⟩ := rd_el h
            refine va_iald hx hb X.1 hP 2 0 rfl rfl hi dX10_threadsTo_83 ?_
            refine lv_top' ev10 ?_
            obtain ⟨u11, hc, h⟩ := bd_el h
            refine ct_vA (w1 := cw_X10 E q0 u11 ++ (cw_X8 E q1 S1)) X hP hD hS (va_runV (C := RX10) (As := [.ref (q1 0), .int x2, .int v10]) (rest := []) ⟨hx, hb, hml, hown, hg⟩ (c_X10_leaveKnot l E q0 q1 H.size S0 S1 x2 v10 u11 hc) (cwV 3 hg (gwV wm_X10_30 wi_X10_leaveKnot wsl_X10_leaveKnot wini_X10 wco_X10_leaveKnot) rfl rfl rfl (by decide +kernel) ⟨Nat.le_of_ble_eq_true rfl, Nat.le_of_ble_eq_true rfl⟩) ⟨ct_blind, ct_rv X.1 hP 0 rfl rfl, ct_preA X hP hD hS _⟩ rfl rfl hl.1 rfl (lv_room (Nat.le_of_ble_eq_true rfl)) dX10_threadsTo_84 ⟨Nat.zero_le _, Nat.zero_le _⟩) (fun H locs hP hD hS => ?_)
            obtain ⟨v12, ev12, h⟩ := lt_el h
            refine lv_iinc (v := v12) (lv' := [(5, .int v12), (0, .ref (q0 0)), (1, .ref (q1 0)), (2, .int x2), (3, .int x3), (4, .int x4)]) hx hb dX10_threadsTo_87 hl (k := 5) rfl (by rw [ev12]; rfl) (by decide) rfl (fun ls hl => ?_)
            refine lv_goto (tgt := 40) hx hb dX10_threadsTo_90 (by decide) ?_
            exact ih u11 v12 _ _ _ h hP hD hS (lv_sub hl [1, 2, 3, 4, 5, 0] rfl)
          · have h := it_t h c9
            refine lv_aload_n hx hb dX10_threadsTo_66 rfl (lv_at hl 0 rfl) ?_
            refine lv_aload_n hx hb dX10_threadsTo_67 rfl (lv_at hl 1 rfl) ?_
            obtain ⟨u13, hc, h⟩ := bd_el h
            refine ct_vA (w1 := cw_X10 E q0 u13 ++ (cw_X8 E q1 S1)) X hP hD hS (va_runV (C := RX10) (As := [.ref (q1 0)]) (rest := []) ⟨hx, hb, hml, hown, hg⟩ (c_X10_leaveMiddle l E q0 q1 H.size S0 S1 u13 hc) (cwV 1 hg (gwV wm_X10_26 wi_X10_leaveMiddle wsl_X10_leaveMiddle wini_X10 wco_X10_leaveMiddle) rfl rfl rfl (by decide +kernel) ⟨Nat.le_of_ble_eq_true rfl, Nat.le_of_ble_eq_true rfl⟩) ⟨ct_blind, ct_rv X.1 hP 0 rfl rfl, ct_preA X hP hD hS _⟩ rfl rfl hl.1 rfl (lv_room (Nat.le_of_ble_eq_true rfl)) dX10_threadsTo_68 ⟨Nat.zero_le _, Nat.zero_le _⟩) (fun H locs hP hD hS => ?_)
            refine lv_goto (tgt := 87) hx hb dX10_threadsTo_71 (by decide) ?_
            obtain ⟨v14, ev14, h⟩ := lt_el h
            refine lv_iinc (v := v14) (lv' := [(5, .int v14), (0, .ref (q0 0)), (1, .ref (q1 0)), (2, .int x2), (3, .int x3), (4, .int x4)]) hx hb dX10_threadsTo_87 hl (k := 5) rfl (by rw [ev14]; rfl) (by decide) rfl (fun ls hl => ?_)
            refine lv_goto (tgt := 40) hx hb dX10_threadsTo_90 (by decide) ?_
            exact ih u13 v14 _ _ _ h hP hD hS (lv_sub hl [1, 2, 3, 4, 5, 0] rfl)
  have N3 : ∀ (n : Nat) (S0 : Gr) (x5 : Int32) (H : Heap) (locs : List Loc) (ls : Array Slot), f_X10_threadsTo_n3 S1 x2 x3 x4 n S0 x5 = some Rv → va_P E.1 vwCl (cw_X10 E q0 S0 ++ (cw_X8 E q1 S1)) H → va_D A (cw_X10 E q0 S0 ++ (cw_X8 E q1 S1)) → va_S A s.heap H locs → lv_has ls 6 [(0, .ref (q0 0)), (1, .ref (q1 0)), (2, .int x2), (3, .int x3), (4, .int x4), (5, .int x5)] → W p l e ({ frames := 4, cells := 0, slots := 0, locals := 93 } : Room) s m ar below meth c H locs 0 0 QM (F0 m 3 ls []) := by
    intro n
    induction n with
    | zero => intro S0 x5 H locs ls h; exact nn_el h
    | succ n ih =>
      intro S0 x5 H locs ls h hP hD hS hl
      refine lv_iload hx hb dX10_threadsTo_3 (lv_at hl 5 rfl) ?_
      refine lv_bipush (v := 65) hx hb dX10_threadsTo_5 (by decide) ?_
      refine lv_icmp_ge (tgt := 26) hx hb dX10_threadsTo_7 (by decide) (fun c1 => ?_) (fun c1 => ?_)
      · have h := it_t h c1
        refine lv_aload_n hx hb dX10_threadsTo_26 rfl (lv_at hl 0 rfl) ?_
        refine lv_iconst (v := 0) hx hb dX10_threadsTo_27 (by decide) ?_
        obtain ⟨S0_2, eS, h⟩ := lt_el h
        refine va_put (D := E.1) (ci := 9) (v := .int 0) (ty := .int) (C := RX10) (T := TX10) (N := 3) hx hb hg in_X10 tyX10 tyX10_ok nmX10 hown X.1 hP hD hS 0 rfl rfl 2 (by decide) (hg _ wf_X10_18) (fun _ h9 => h9) rfl (by decide +kernel) rfl rfl (Nat.le_of_ble_eq_true rfl) dX10_threadsTo_28 (fun H locs hP hD hS => ?_)
        have hP : va_P E.1 vwCl (cw_X10 E q0 S0_2 ++ (cw_X8 E q1 S1)) H := by rw [eS]; exact hP
        have hD : va_D A (cw_X10 E q0 S0_2 ++ (cw_X8 E q1 S1)) := by rw [eS]; exact hD
        clear eS
        refine lv_aload_n hx hb dX10_threadsTo_31 rfl (lv_at hl 0 rfl) ?_
        refine lv_iconst (v := 0) hx hb dX10_threadsTo_32 (by decide) ?_
        refine lv_iconst (v := 0) hx hb dX10_threadsTo_33 (by decide) ?_
        obtain ⟨u3, hc, h⟩ := bd_el h
        have hC : ([0, 1, 2] : List Nat).map (fun i => (cw_X10 E q0 S0_2 ++ (cw_X8 E q1 S1))[i]?) = (cw_X10 E q0 S0_2).map some := rfl
        refine ct_v (ws' := cw_X10 E q0 u3 ++ (cw_X8 E q1 S1)) X hP hD hS [0, 1, 2] (va_runV (C := RX10) (As := [.int 0, .int 0]) (rest := []) ⟨hx, hb, hml, hown, hg⟩ (c_X10_reach l E q0 H.size S0_2 0 0 u3 hc) (cwV 2 hg (gwV wm_X10_22 wi_X10_reach wsl_X10_reach wini_X10 wco_X10_reach) rfl rfl rfl (by decide +kernel) ⟨Nat.le_of_ble_eq_true rfl, Nat.le_of_ble_eq_true rfl⟩) ⟨ct_blind, ct_rv X.1 hP 0 rfl rfl, ct_pre X hP hD hS [0, 1, 2] (by decide) hC _⟩ rfl rfl hl.1 rfl (lv_room (Nat.le_of_ble_eq_true rfl)) dX10_threadsTo_34 ⟨Nat.zero_le _, Nat.zero_le _⟩) hC rfl rfl (fun H locs hP hD hS => ?_)
        clear hC
        refine lv_iconst (v := 0) hx hb dX10_threadsTo_37 (by decide) ?_
        refine lv_istore (lv' := [(5, .int 0), (0, .ref (q0 0)), (1, .ref (q1 0)), (2, .int x2), (3, .int x3), (4, .int x4)]) hx hb dX10_threadsTo_38 hl (by decide) rfl (fun ls hl => ?_)
        exact N40 fu u3 0 _ _ _ h hP hD hS (lv_sub hl [1, 2, 3, 4, 5, 0] rfl)
      · have h := it_f h c1
        refine lv_aload_n hx hb dX10_threadsTo_10 rfl (lv_at hl 0 rfl) ?_
        refine va_get (D := E.1) (ci := 9) (v := .ref (q0 1)) (C := RX10) (T := TX10) (N := 3) hx hb hg in_X10 hown X.1 hP 0 rfl rfl 0 (by decide) (hg _ wf_X10_11) (fun _ h9 => h9) rfl dX10_threadsTo_11 ?_
        refine lv_iload hx hb dX10_threadsTo_14 (lv_at hl 5 rfl) ?_
        refine lv_sipush (v := 1000) hx hb dX10_threadsTo_16 (by decide) ?_
        obtain ⟨hi, h⟩ := ck_el h
        obtain ⟨S0_4, eS, h⟩ := lt_el h
        refine va_iast hx hb X.1 hP hD hS 1 0 rfl rfl hi dX10_threadsTo_19 (fun H locs hP hD hS => ?_)
        have hP : va_P E.1 vwCl (cw_X10 E q0 S0_4 ++ (cw_X8 E q1 S1)) H := by rw [eS]; exact hP
        have hD : va_D A (cw_X10 E q0 S0_4 ++ (cw_X8 E q1 S1)) := by rw [eS]; exact hD
        clear eS
        obtain ⟨v5, ev5, h⟩ := lt_el h
        refine lv_iinc (v := v5) (lv' := [(5, .int v5), (0, .ref (q0 0)), (1, .ref (q1 0)), (2, .int x2), (3, .int x3), (4, .int x4)]) hx hb dX10_threadsTo_20 hl (k := 5) rfl (by rw [ev5]; rfl) (by decide) rfl (fun ls hl => ?_)
        refine lv_goto (tgt := 3) hx hb dX10_threadsTo_23 (by decide) ?_
        exact ih S0_4 v5 _ _ _ h hP hD hS (lv_sub hl [1, 2, 3, 4, 5, 0] rfl)
  obtain ⟨H, eH⟩ : ∃ z, z = s.heap := ⟨_, rfl⟩
  rw [← eH]
  have hP : va_P E.1 vwCl (cw_X10 E q0 S0 ++ (cw_X8 E q1 S1)) H := by rw [eH]; exact hP
  have hS : va_S A s.heap H [] := by rw [eH]; exact hS
  clear eH
  obtain ⟨locs, el⟩ : ∃ z : List Loc, z = [] := ⟨_, rfl⟩
  rw [← el] at hS ⊢
  clear el
  refine lv_iconst (v := 0) hx hb dX10_threadsTo_0 (by decide) ?_
  refine lv_istore (lv' := [(5, .int 0), (0, .ref (q0 0)), (1, .ref (q1 0)), (2, .int x2), (3, .int x3), (4, .int x4)]) hx hb dX10_threadsTo_1 hl (by decide) rfl (fun ls hl => ?_)
  exact N3 fu S0 0 _ _ _ h hP hD hS (lv_sub hl [1, 2, 3, 4, 5, 0] rfl)
