theorem dX0_coordinate_0 : decode cX0_coordinate 0 = .ok (.aload_n 0, 1) := by decide +kernel
theorem dX0_coordinate_1 : decode cX0_coordinate 1 = .ok (.getfield 12, 3) := by decide +kernel
theorem dX0_coordinate_4 : decode cX0_coordinate 4 = .ok (.getfield 71, 3) := by decide +kernel
theorem dX0_coordinate_7 : decode cX0_coordinate 7 = .ok (.istore_n 2, 1) := by decide +kernel
theorem dX0_coordinate_8 : decode cX0_coordinate 8 = .ok (.aload_n 0, 1) := by decide +kernel
theorem dX0_coordinate_9 : decode cX0_coordinate 9 = .ok (.getfield 12, 3) := by decide +kernel
theorem dX0_coordinate_12 : decode cX0_coordinate 12 = .ok (.iconst 2, 1) := by decide +kernel
theorem dX0_coordinate_13 : decode cX0_coordinate 13 = .ok (.invokevirtual 74, 3) := by decide +kernel
theorem dX0_coordinate_16 : decode cX0_coordinate 16 = .ok (.istore_n 3, 1) := by decide +kernel
theorem dX0_coordinate_17 : decode cX0_coordinate 17 = .ok (.iload_n 3, 1) := by decide +kernel
theorem dX0_coordinate_18 : decode cX0_coordinate 18 = .ok (.iload_n 1, 1) := by decide +kernel
theorem dX0_coordinate_19 : decode cX0_coordinate 19 = .ok (.if_icmp .le 15, 3) := by decide +kernel
theorem dX0_coordinate_22 : decode cX0_coordinate 22 = .ok (.aload_n 0, 1) := by decide +kernel
theorem dX0_coordinate_23 : decode cX0_coordinate 23 = .ok (.getfield 12, 3) := by decide +kernel
theorem dX0_coordinate_26 : decode cX0_coordinate 26 = .ok (.iconst 3, 1) := by decide +kernel
theorem dX0_coordinate_27 : decode cX0_coordinate 27 = .ok (.iload_n 2, 1) := by decide +kernel
theorem dX0_coordinate_28 : decode cX0_coordinate 28 = .ok (.invokevirtual 77, 3) := by decide +kernel
theorem dX0_coordinate_31 : decode cX0_coordinate 31 = .ok (.pop, 1) := by decide +kernel
theorem dX0_coordinate_32 : decode cX0_coordinate 32 = .ok (.iconst (-1), 1) := by decide +kernel
theorem dX0_coordinate_33 : decode cX0_coordinate 33 = .ok (.ireturn, 1) := by decide +kernel
theorem dX0_coordinate_34 : decode cX0_coordinate 34 = .ok (.iload_n 3, 1) := by decide +kernel
theorem dX0_coordinate_35 : decode cX0_coordinate 35 = .ok (.ireturn, 1) := by decide +kernel
def f_X0_coordinate (S1 : Gr) (x1 : Int32) : Option (Int32 × Gr) := lt' ((S1.1 2)) fun v1 => (f_X9_number S1 2).bind fun u2 => if u2.1 ≤ x1 then (some (u2.1, u2.2)) else ((f_X9_failAt u2.2 3 v1).bind fun u4 => some ((-1), u4.2))
set_option maxHeartbeats 4000000 in
set_option maxRecDepth 100000 in
theorem c_X0_coordinate (l : Launch) (E : Ec) (q0 q1 : Nat → Nat) (sz : Nat) (S1 : Gr) (x1 : Int32) (Rv : Int32 × Gr) (h : f_X0_coordinate S1 x1 = some Rv) : Met l yX0_coordinate (wsM (.code yX0_coordinate cX0_coordinate 4 (some .int))) ({ frames := 2, cells := 0, slots := 0, locals := 46 } : Room) (va_Pc [.ref (q0 0), .int x1] (ctP E (cw_X0 E q0 (q1 0) ++ (cw_X9 E q1 S1)) sz)) (ctI E (cw_X0 E q0 (q1 0) ++ (cw_X9 E q1 S1)) (cw_X0 E q0 (q1 0) ++ (cw_X9 E q1 Rv.2)) sz Rv.1) 0 0 (va_A (cw_X0 E q0 (q1 0) ++ (cw_X9 E q1 S1)) sz) := by
  refine ct_metI (by decide) (Nat.le_of_ble_eq_true rfl) ?_
  intro p e s m ar below meth c A QM hx hb hml hown hg X hP hD hS RET ls hl
  have hown : s.vm.findClass RX0 = some m.cls := hown
  have hl : lv_has ls 4 [(0, .ref (q0 0)), (1, .int x1)] := hl
  have RT : ∀ (v : Int32) (S1 : Gr) (H : Heap) (locs : List Loc) (ls : Array Slot) (pc : Nat), some (v, S1) = some Rv → narrow .int (.int v) = .int v → va_P E.1 vwCl (cw_X0 E q0 (q1 0) ++ (cw_X9 E q1 S1)) H → va_D A (cw_X0 E q0 (q1 0) ++ (cw_X9 E q1 S1)) → va_S A s.heap H locs → decode cX0_coordinate pc = .ok (.ireturn, 1) → W p l e ({ frames := 2, cells := 0, slots := 0, locals := 46 } : Room) s m ar below meth c H locs 0 0 QM (F0 m pc ls [.int v]) := by
    intro v S1 H locs ls pc e hn hP hD hS d
    obtain rfl := sm_e e
    exact RET H locs pc ls hn hP hD hS d
  clear RET
  obtain ⟨H, eH⟩ : ∃ z, z = s.heap := ⟨_, rfl⟩
  rw [← eH]
  have hP : va_P E.1 vwCl (cw_X0 E q0 (q1 0) ++ (cw_X9 E q1 S1)) H := by rw [eH]; exact hP
  have hS : va_S A s.heap H [] := by rw [eH]; exact hS
  clear eH
  obtain ⟨locs, el⟩ : ∃ z : List Loc, z = [] := ⟨_, rfl⟩
  rw [← el] at hS ⊢
  clear el
  refine lv_aload_n hx hb dX0_coordinate_0 rfl (lv_at hl 0 rfl) ?_
  refine va_get (D := E.1) (ci := 0) (v := .ref (q1 0)) (C := RX0) (T := TX0) (N := 1) hx hb hg in_X0 hown X.1 hP 0 rfl rfl 0 (by decide) (hg _ wf_X0_12) (fun _ h9 => h9) rfl dX0_coordinate_1 ?_
  refine va_getN (D := E.1) (ci := 8) (v := .int (S1.1 2)) (C := RX9) (T := TX9) (N := 4) hx hb hg in_X9 hown X.1 hP 1 rfl rfl 2 (by decide) (va_Nw.use rfl (nf_X0_71 X.2.1)) (fun _ h9 => h9) rfl dX0_coordinate_4 ?_
  obtain ⟨v1, ev1, h⟩ := lt_el h
  refine lv_top' ev1 ?_
  refine lv_istore_n (lv' := [(2, .int v1), (0, .ref (q0 0)), (1, .int x1)]) hx hb dX0_coordinate_7 rfl hl (by decide) rfl (fun ls hl => ?_)
  refine lv_aload_n hx hb dX0_coordinate_8 rfl (lv_at hl 1 rfl) ?_
  refine va_get (D := E.1) (ci := 0) (v := .ref (q1 0)) (C := RX0) (T := TX0) (N := 1) hx hb hg in_X0 hown X.1 hP 0 rfl rfl 0 (by decide) (hg _ wf_X0_12) (fun _ h9 => h9) rfl dX0_coordinate_9 ?_
  refine lv_iconst (v := 2) hx hb dX0_coordinate_12 (by decide) ?_
  obtain ⟨u2, hc, h⟩ := bd_el h
  have hC : ([1, 2] : List Nat).map (fun i => (cw_X0 E q0 (q1 0) ++ (cw_X9 E q1 S1))[i]?) = (cw_X9 E q1 S1).map some := rfl
  refine ct_i (ws' := cw_X0 E q0 (q1 0) ++ (cw_X9 E q1 u2.2)) X hP hD hS [1, 2] (va_runV (C := RX9) (As := [.int 2]) (rest := []) ⟨hx, hb, hml, hown, hg⟩ (c_X9_number l E q1 H.size S1 2 u2 hc) (cwV 1 hg (gwV wm_X0_74 wi_X9_number wsl_X9_number wini_X9 wco_X9_number) rfl rfl rfl (by decide +kernel) ⟨Nat.le_of_ble_eq_true rfl, Nat.le_of_ble_eq_true rfl⟩) ⟨ct_blind, ct_rv X.1 hP 1 rfl rfl, ct_pre X hP hD hS [1, 2] (by decide) hC _⟩ rfl rfl hl.1 rfl (lv_room (Nat.le_of_ble_eq_true rfl)) dX0_coordinate_13 ⟨Nat.zero_le _, Nat.zero_le _⟩) hC rfl rfl (fun H locs hP hD hS => ?_)
  clear hC
  refine lv_istore_n (lv' := [(3, .int u2.1), (2, .int v1), (0, .ref (q0 0)), (1, .int x1)]) hx hb dX0_coordinate_16 rfl hl (by decide) rfl (fun ls hl => ?_)
  refine lv_iload_n hx hb dX0_coordinate_17 rfl (lv_at hl 0 rfl) ?_
  refine lv_iload_n hx hb dX0_coordinate_18 rfl (lv_at hl 3 rfl) ?_
  refine lv_icmp_le (tgt := 34) hx hb dX0_coordinate_19 (by decide) (fun c3 => ?_) (fun c3 => ?_)
  · have h := it_t h c3
    refine lv_iload_n hx hb dX0_coordinate_34 rfl (lv_at hl 0 rfl) ?_
    exact RT u2.1 u2.2 _ _ _ _ h rfl hP hD hS dX0_coordinate_35
  · have h := it_f h c3
    refine lv_aload_n hx hb dX0_coordinate_22 rfl (lv_at hl 2 rfl) ?_
    refine va_get (D := E.1) (ci := 0) (v := .ref (q1 0)) (C := RX0) (T := TX0) (N := 1) hx hb hg in_X0 hown X.1 hP 0 rfl rfl 0 (by decide) (hg _ wf_X0_12) (fun _ h9 => h9) rfl dX0_coordinate_23 ?_
    refine lv_iconst (v := 3) hx hb dX0_coordinate_26 (by decide) ?_
    refine lv_iload_n hx hb dX0_coordinate_27 rfl (lv_at hl 1 rfl) ?_
    obtain ⟨u4, hc, h⟩ := bd_el h
    have hC : ([1, 2] : List Nat).map (fun i => (cw_X0 E q0 (q1 0) ++ (cw_X9 E q1 u2.2))[i]?) = (cw_X9 E q1 u2.2).map some := rfl
    refine ct_i (ws' := cw_X0 E q0 (q1 0) ++ (cw_X9 E q1 u4.2)) X hP hD hS [1, 2] (va_runV (C := RX9) (As := [.int 3, .int v1]) (rest := []) ⟨hx, hb, hml, hown, hg⟩ (c_X9_failAt l E q1 H.size u2.2 3 v1 u4 hc) (cwV 2 hg (gwV wm_X0_77 wi_X9_failAt wsl_X9_failAt wini_X9 wco_X9_failAt) rfl rfl rfl (by decide +kernel) ⟨Nat.le_of_ble_eq_true rfl, Nat.le_of_ble_eq_true rfl⟩) ⟨ct_blind, ct_rv X.1 hP 1 rfl rfl, ct_pre X hP hD hS [1, 2] (by decide) hC _⟩ rfl rfl hl.1 rfl (lv_room (Nat.le_of_ble_eq_true rfl)) dX0_coordinate_28 ⟨Nat.zero_le _, Nat.zero_le _⟩) hC rfl rfl (fun H locs hP hD hS => ?_)
    clear hC
    refine lv_pop hx hb dX0_coordinate_31 rfl ?_
    refine lv_iconst (v := (-1)) hx hb dX0_coordinate_32 (by decide) ?_
    exact RT (-1) u4.2 _ _ _ _ h rfl hP hD hS dX0_coordinate_33
theorem dX0_fleet_0 : decode cX0_fleet 0 = .ok (.aload_n 0, 1) := by decide +kernel
theorem dX0_fleet_1 : decode cX0_fleet 1 = .ok (.getfield 12, 3) := by decide +kernel
theorem dX0_fleet_4 : decode cX0_fleet 4 = .ok (.bipush 58, 2) := by decide +kernel
theorem dX0_fleet_6 : decode cX0_fleet 6 = .ok (.invokevirtual 39, 3) := by decide +kernel
theorem dX0_fleet_9 : decode cX0_fleet 9 = .ok (.ifCond .ne 5, 3) := by decide +kernel
theorem dX0_fleet_12 : decode cX0_fleet 12 = .ok (.iconst 0, 1) := by decide +kernel
theorem dX0_fleet_13 : decode cX0_fleet 13 = .ok (.ireturn, 1) := by decide +kernel
theorem dX0_fleet_14 : decode cX0_fleet 14 = .ok (.aload_n 0, 1) := by decide +kernel
theorem dX0_fleet_15 : decode cX0_fleet 15 = .ok (.getfield 12, 3) := by decide +kernel
theorem dX0_fleet_18 : decode cX0_fleet 18 = .ok (.iconst 2, 1) := by decide +kernel
theorem dX0_fleet_19 : decode cX0_fleet 19 = .ok (.invokevirtual 74, 3) := by decide +kernel
theorem dX0_fleet_22 : decode cX0_fleet 22 = .ok (.istore 5, 2) := by decide +kernel
theorem dX0_fleet_24 : decode cX0_fleet 24 = .ok (.iload 5, 2) := by decide +kernel
theorem dX0_fleet_26 : decode cX0_fleet 26 = .ok (.iconst (-1), 1) := by decide +kernel
theorem dX0_fleet_27 : decode cX0_fleet 27 = .ok (.if_icmp .ne 5, 3) := by decide +kernel
theorem dX0_fleet_30 : decode cX0_fleet 30 = .ok (.iconst 0, 1) := by decide +kernel
theorem dX0_fleet_31 : decode cX0_fleet 31 = .ok (.ireturn, 1) := by decide +kernel
theorem dX0_fleet_32 : decode cX0_fleet 32 = .ok (.bipush 8, 2) := by decide +kernel
theorem dX0_fleet_34 : decode cX0_fleet 34 = .ok (.istore 6, 2) := by decide +kernel
theorem dX0_fleet_36 : decode cX0_fleet 36 = .ok (.aload_n 0, 1) := by decide +kernel
theorem dX0_fleet_37 : decode cX0_fleet 37 = .ok (.getfield 12, 3) := by decide +kernel
theorem dX0_fleet_40 : decode cX0_fleet 40 = .ok (.invokevirtual 35, 3) := by decide +kernel
theorem dX0_fleet_43 : decode cX0_fleet 43 = .ok (.bipush 62, 2) := by decide +kernel
theorem dX0_fleet_45 : decode cX0_fleet 45 = .ok (.if_icmp .ne 52, 3) := by decide +kernel
theorem dX0_fleet_48 : decode cX0_fleet 48 = .ok (.aload_n 0, 1) := by decide +kernel
theorem dX0_fleet_49 : decode cX0_fleet 49 = .ok (.getfield 12, 3) := by decide +kernel
theorem dX0_fleet_52 : decode cX0_fleet 52 = .ok (.invokevirtual 56, 3) := by decide +kernel
theorem dX0_fleet_55 : decode cX0_fleet 55 = .ok (.aload_n 0, 1) := by decide +kernel
theorem dX0_fleet_56 : decode cX0_fleet 56 = .ok (.getfield 12, 3) := by decide +kernel
theorem dX0_fleet_59 : decode cX0_fleet 59 = .ok (.bipush 48, 2) := by decide +kernel
theorem dX0_fleet_61 : decode cX0_fleet 61 = .ok (.bipush 55, 2) := by decide +kernel
theorem dX0_fleet_63 : decode cX0_fleet 63 = .ok (.invokevirtual 43, 3) := by decide +kernel
theorem dX0_fleet_66 : decode cX0_fleet 66 = .ok (.ifCond .ne 12, 3) := by decide +kernel
theorem dX0_fleet_69 : decode cX0_fleet 69 = .ok (.aload_n 0, 1) := by decide +kernel
theorem dX0_fleet_70 : decode cX0_fleet 70 = .ok (.getfield 12, 3) := by decide +kernel
theorem dX0_fleet_73 : decode cX0_fleet 73 = .ok (.iconst 1, 1) := by decide +kernel
theorem dX0_fleet_74 : decode cX0_fleet 74 = .ok (.invokevirtual 47, 3) := by decide +kernel
theorem dX0_fleet_77 : decode cX0_fleet 77 = .ok (.ireturn, 1) := by decide +kernel
theorem dX0_fleet_78 : decode cX0_fleet 78 = .ok (.aload_n 0, 1) := by decide +kernel
theorem dX0_fleet_79 : decode cX0_fleet 79 = .ok (.getfield 12, 3) := by decide +kernel
theorem dX0_fleet_82 : decode cX0_fleet 82 = .ok (.invokevirtual 35, 3) := by decide +kernel
theorem dX0_fleet_85 : decode cX0_fleet 85 = .ok (.bipush 48, 2) := by decide +kernel
theorem dX0_fleet_87 : decode cX0_fleet 87 = .ok (.isub, 1) := by decide +kernel
theorem dX0_fleet_88 : decode cX0_fleet 88 = .ok (.istore 6, 2) := by decide +kernel
theorem dX0_fleet_90 : decode cX0_fleet 90 = .ok (.aload_n 0, 1) := by decide +kernel
theorem dX0_fleet_91 : decode cX0_fleet 91 = .ok (.getfield 12, 3) := by decide +kernel
theorem dX0_fleet_94 : decode cX0_fleet 94 = .ok (.invokevirtual 56, 3) := by decide +kernel
theorem dX0_fleet_97 : decode cX0_fleet 97 = .ok (.aload_n 1, 1) := by decide +kernel
theorem dX0_fleet_98 : decode cX0_fleet 98 = .ok (.iload_n 2, 1) := by decide +kernel
theorem dX0_fleet_99 : decode cX0_fleet 99 = .ok (.iload_n 3, 1) := by decide +kernel
theorem dX0_fleet_100 : decode cX0_fleet 100 = .ok (.iload 4, 2) := by decide +kernel
theorem dX0_fleet_102 : decode cX0_fleet 102 = .ok (.iload 5, 2) := by decide +kernel
theorem dX0_fleet_104 : decode cX0_fleet 104 = .ok (.iload 6, 2) := by decide +kernel
theorem dX0_fleet_106 : decode cX0_fleet 106 = .ok (.invokevirtual 80, 3) := by decide +kernel
theorem dX0_fleet_109 : decode cX0_fleet 109 = .ok (.iconst 1, 1) := by decide +kernel
theorem dX0_fleet_110 : decode cX0_fleet 110 = .ok (.ireturn, 1) := by decide +kernel
def f_X0_fleet (S1 : Gr) (S2 : Gr) (x2 : Int32) (x3 : Int32) (x4 : Int32) : Option (Int32 × Gr × Gr) := (f_X9_stepOver S1 58).bind fun u1 => if u1.1 = 0 then (some (0, u1.2, S2)) else ((f_X9_number u1.2 2).bind fun u3 => if u3.1 = (-1) then (some (0, u3.2, S2)) else ((f_X9_peek u3.2).bind fun u5 => if u5 = 62 then ((f_X9_step u3.2).bind fun u8 => (f_X9_isAt u8 48 55).bind fun u9 => if u9 = 0 then ((f_X9_fail u8 1).bind fun u15 => zb' u15.1 (some (u15.1, u15.2, S2))) else ((f_X9_peek u8).bind fun u11 => lt' ((u11 - 48)) fun v12 => (f_X9_step u8).bind fun u13 => (f_X7_tellFleet S2 x2 x3 x4 u3.1 v12).bind fun u14 => some (1, u13, u14))) else ((f_X7_tellFleet S2 x2 x3 x4 u3.1 8).bind fun u7 => some (1, u3.2, u7))))
set_option maxHeartbeats 4000000 in
set_option maxRecDepth 100000 in
theorem c_X0_fleet (l : Launch) (E : Ec) (q0 q1 q2 : Nat → Nat) (sz : Nat) (S1 : Gr) (S2 : Gr) (x2 : Int32) (x3 : Int32) (x4 : Int32) (Rv : Int32 × Gr × Gr) (h : f_X0_fleet S1 S2 x2 x3 x4 = some Rv) : Met l yX0_fleet (wsM (.code yX0_fleet cX0_fleet 7 (some .boolean))) ({ frames := 2, cells := 0, slots := 0, locals := 47 } : Room) (va_Pc [.ref (q0 0), .ref (q2 0), .int x2, .int x3, .int x4] (ctP E (cw_X0 E q0 (q1 0) ++ (cw_X9 E q1 S1 ++ (cw_X7 E q2 S2))) sz)) (ctI E (cw_X0 E q0 (q1 0) ++ (cw_X9 E q1 S1 ++ (cw_X7 E q2 S2))) (cw_X0 E q0 (q1 0) ++ (cw_X9 E q1 Rv.2.1 ++ (cw_X7 E q2 Rv.2.2))) sz Rv.1) 0 0 (va_A (cw_X0 E q0 (q1 0) ++ (cw_X9 E q1 S1 ++ (cw_X7 E q2 S2))) sz) := by
  refine ct_metI (by decide) (Nat.le_of_ble_eq_true rfl) ?_
  intro p e s m ar below meth c A QM hx hb hml hown hg X hP hD hS RET ls hl
  have hown : s.vm.findClass RX0 = some m.cls := hown
  have hl : lv_has ls 7 [(0, .ref (q0 0)), (1, .ref (q2 0)), (2, .int x2), (3, .int x3), (4, .int x4)] := hl
  have RT : ∀ (v : Int32) (S1 : Gr) (S2 : Gr) (H : Heap) (locs : List Loc) (ls : Array Slot) (pc : Nat), some (v, S1, S2) = some Rv → narrow .boolean (.int v) = .int v → va_P E.1 vwCl (cw_X0 E q0 (q1 0) ++ (cw_X9 E q1 S1 ++ (cw_X7 E q2 S2))) H → va_D A (cw_X0 E q0 (q1 0) ++ (cw_X9 E q1 S1 ++ (cw_X7 E q2 S2))) → va_S A s.heap H locs → decode cX0_fleet pc = .ok (.ireturn, 1) → W p l e ({ frames := 2, cells := 0, slots := 0, locals := 47 } : Room) s m ar below meth c H locs 0 0 QM (F0 m pc ls [.int v]) := by
    intro v S1 S2 H locs ls pc e hn hP hD hS d
    obtain rfl := sm_e e
    exact RET H locs pc ls hn hP hD hS d
  clear RET
  obtain ⟨H, eH⟩ : ∃ z, z = s.heap := ⟨_, rfl⟩
  rw [← eH]
  have hP : va_P E.1 vwCl (cw_X0 E q0 (q1 0) ++ (cw_X9 E q1 S1 ++ (cw_X7 E q2 S2))) H := by rw [eH]; exact hP
  have hS : va_S A s.heap H [] := by rw [eH]; exact hS
  clear eH
  obtain ⟨locs, el⟩ : ∃ z : List Loc, z = [] := ⟨_, rfl⟩
  rw [← el] at hS ⊢
  clear el
  refine lv_aload_n hx hb dX0_fleet_0 rfl (lv_at hl 0 rfl) ?_
  refine va_get (D := E.1) (ci := 0) (v := .ref (q1 0)) (C := RX0) (T := TX0) (N := 1) hx hb hg in_X0 hown X.1 hP 0 rfl rfl 0 (by decide) (hg _ wf_X0_12) (fun _ h9 => h9) rfl dX0_fleet_1 ?_
  refine lv_bipush (v := 58) hx hb dX0_fleet_4 (by decide) ?_
  obtain ⟨u1, hc, h⟩ := bd_el h
  have hC : ([1, 2] : List Nat).map (fun i => (cw_X0 E q0 (q1 0) ++ (cw_X9 E q1 S1 ++ (cw_X7 E q2 S2)))[i]?) = (cw_X9 E q1 S1).map some := rfl
  refine ct_i (ws' := cw_X0 E q0 (q1 0) ++ (cw_X9 E q1 u1.2 ++ (cw_X7 E q2 S2))) X hP hD hS [1, 2] (va_runV (C := RX9) (As := [.int 58]) (rest := []) ⟨hx, hb, hml, hown, hg⟩ (c_X9_stepOver l E q1 H.size S1 58 u1 hc) (cwV 1 hg (gwV wm_X0_39 wi_X9_stepOver wsl_X9_stepOver wini_X9 wco_X9_stepOver) rfl rfl rfl (by decide +kernel) ⟨Nat.le_of_ble_eq_true rfl, Nat.le_of_ble_eq_true rfl⟩) ⟨ct_blind, ct_rv X.1 hP 1 rfl rfl, ct_pre X hP hD hS [1, 2] (by decide) hC _⟩ rfl rfl hl.1 rfl (lv_room (Nat.le_of_ble_eq_true rfl)) dX0_fleet_6 ⟨Nat.zero_le _, Nat.zero_le _⟩) hC rfl rfl (fun H locs hP hD hS => ?_)
  clear hC
  refine lv_if_ne (tgt := 14) hx hb dX0_fleet_9 (by decide) (fun c2 => ?_) (fun c2 => ?_)
  · have h := it_f h c2
    refine lv_aload_n hx hb dX0_fleet_14 rfl (lv_at hl 0 rfl) ?_
    refine va_get (D := E.1) (ci := 0) (v := .ref (q1 0)) (C := RX0) (T := TX0) (N := 1) hx hb hg in_X0 hown X.1 hP 0 rfl rfl 0 (by decide) (hg _ wf_X0_12) (fun _ h9 => h9) rfl dX0_fleet_15 ?_
    refine lv_iconst (v := 2) hx hb dX0_fleet_18 (by decide) ?_
    obtain ⟨u3, hc, h⟩ := bd_el h
    have hC : ([1, 2] : List Nat).map (fun i => (cw_X0 E q0 (q1 0) ++ (cw_X9 E q1 u1.2 ++ (cw_X7 E q2 S2)))[i]?) = (cw_X9 E q1 u1.2).map some := rfl
    refine ct_i (ws' := cw_X0 E q0 (q1 0) ++ (cw_X9 E q1 u3.2 ++ (cw_X7 E q2 S2))) X hP hD hS [1, 2] (va_runV (C := RX9) (As := [.int 2]) (rest := []) ⟨hx, hb, hml, hown, hg⟩ (c_X9_number l E q1 H.size u1.2 2 u3 hc) (cwV 1 hg (gwV wm_X0_74 wi_X9_number wsl_X9_number wini_X9 wco_X9_number) rfl rfl rfl (by decide +kernel) ⟨Nat.le_of_ble_eq_true rfl, Nat.le_of_ble_eq_true rfl⟩) ⟨ct_blind, ct_rv X.1 hP 1 rfl rfl, ct_pre X hP hD hS [1, 2] (by decide) hC _⟩ rfl rfl hl.1 rfl (lv_room (Nat.le_of_ble_eq_true rfl)) dX0_fleet_19 ⟨Nat.zero_le _, Nat.zero_le _⟩) hC rfl rfl (fun H locs hP hD hS => ?_)
    clear hC
    refine lv_istore (lv' := [(5, .int u3.1), (0, .ref (q0 0)), (1, .ref (q2 0)), (2, .int x2), (3, .int x3), (4, .int x4)]) hx hb dX0_fleet_22 hl (by decide) rfl (fun ls hl => ?_)
    refine lv_iload hx hb dX0_fleet_24 (lv_at hl 0 rfl) ?_
    refine lv_iconst (v := (-1)) hx hb dX0_fleet_26 (by decide) ?_
    refine lv_icmp_ne (tgt := 32) hx hb dX0_fleet_27 (by decide) (fun c4 => ?_) (fun c4 => ?_)
    · have h := it_f h c4
      refine lv_bipush (v := 8) hx hb dX0_fleet_32 (by decide) ?_
      refine lv_istore (lv' := [(6, .int 8), (5, .int u3.1), (0, .ref (q0 0)), (1, .ref (q2 0)), (2, .int x2), (3, .int x3), (4, .int x4)]) hx hb dX0_fleet_34 hl (by decide) rfl (fun ls hl => ?_)
      refine lv_aload_n hx hb dX0_fleet_36 rfl (lv_at hl 2 rfl) ?_
      refine va_get (D := E.1) (ci := 0) (v := .ref (q1 0)) (C := RX0) (T := TX0) (N := 1) hx hb hg in_X0 hown X.1 hP 0 rfl rfl 0 (by decide) (hg _ wf_X0_12) (fun _ h9 => h9) rfl dX0_fleet_37 ?_
      obtain ⟨u5, hc, h⟩ := bd_el h
      have hC : ([1, 2] : List Nat).map (fun i => (cw_X0 E q0 (q1 0) ++ (cw_X9 E q1 u3.2 ++ (cw_X7 E q2 S2)))[i]?) = (cw_X9 E q1 u3.2).map some := rfl
      refine ct_iR X hP hD hS [1, 2] hC (va_runV (C := RX9) (As := []) (rest := []) ⟨hx, hb, hml, hown, hg⟩ (c_X9_peek l E q1 H.size u3.2 u5 hc) (cwV 0 hg (gwV wm_X0_35 wi_X9_peek wsl_X9_peek wini_X9 wco_X9_peek) rfl rfl rfl (by decide +kernel) ⟨Nat.le_of_ble_eq_true rfl, Nat.le_of_ble_eq_true rfl⟩) ⟨ct_blind, ct_rv X.1 hP 1 rfl rfl, ct_pre X hP hD hS [1, 2] (by decide) hC _⟩ rfl rfl hl.1 rfl (lv_room (Nat.le_of_ble_eq_true rfl)) dX0_fleet_40 ⟨Nat.zero_le _, Nat.zero_le _⟩) (fun H locs hP hD hS => ?_)
      clear hC
      refine lv_bipush (v := 62) hx hb dX0_fleet_43 (by decide) ?_
      refine lv_icmp_ne (tgt := 97) hx hb dX0_fleet_45 (by decide) (fun c6 => ?_) (fun c6 => ?_)
      · have h := it_f h c6
        refine lv_aload_n hx hb dX0_fleet_97 rfl (lv_at hl 3 rfl) ?_
        refine lv_iload_n hx hb dX0_fleet_98 rfl (lv_at hl 4 rfl) ?_
        refine lv_iload_n hx hb dX0_fleet_99 rfl (lv_at hl 5 rfl) ?_
        refine lv_iload hx hb dX0_fleet_100 (lv_at hl 6 rfl) ?_
        refine lv_iload hx hb dX0_fleet_102 (lv_at hl 1 rfl) ?_
        refine lv_iload hx hb dX0_fleet_104 (lv_at hl 0 rfl) ?_
        obtain ⟨u7, hc, h⟩ := bd_el h
        have hC : ([3, 4, 5, 6, 7, 8, 9, 10] : List Nat).map (fun i => (cw_X0 E q0 (q1 0) ++ (cw_X9 E q1 u3.2 ++ (cw_X7 E q2 S2)))[i]?) = (cw_X7 E q2 S2).map some := rfl
        refine ct_v (ws' := cw_X0 E q0 (q1 0) ++ (cw_X9 E q1 u3.2 ++ (cw_X7 E q2 u7))) X hP hD hS [3, 4, 5, 6, 7, 8, 9, 10] (va_runV (C := RX7) (As := [.int x2, .int x3, .int x4, .int u3.1, .int 8]) (rest := []) ⟨hx, hb, hml, hown, hg⟩ (c_X7_tellFleet l E q2 H.size S2 x2 x3 x4 u3.1 8 u7 hc) (cwV 5 hg (gwV wm_X0_80 wi_X7_tellFleet wsl_X7_tellFleet wini_X7 wco_X7_tellFleet) rfl rfl rfl (by decide +kernel) ⟨Nat.le_of_ble_eq_true rfl, Nat.le_of_ble_eq_true rfl⟩) ⟨ct_blind, ct_rv X.1 hP 3 rfl rfl, ct_pre X hP hD hS [3, 4, 5, 6, 7, 8, 9, 10] (by decide) hC _⟩ rfl rfl hl.1 rfl (lv_room (Nat.le_of_ble_eq_true rfl)) dX0_fleet_106 ⟨Nat.zero_le _, Nat.zero_le _⟩) hC rfl rfl (fun H locs hP hD hS => ?_)
        clear hC
        refine lv_iconst (v := 1) hx hb dX0_fleet_109 (by decide) ?_
        exact RT 1 u3.2 u7 _ _ _ _ h (by decide +kernel) hP hD hS dX0_fleet_110
      · have h := it_t h c6
        refine lv_aload_n hx hb dX0_fleet_48 rfl (lv_at hl 2 rfl) ?_
        refine va_get (D := E.1) (ci := 0) (v := .ref (q1 0)) (C := RX0) (T := TX0) (N := 1) hx hb hg in_X0 hown X.1 hP 0 rfl rfl 0 (by decide) (hg _ wf_X0_12) (fun _ h9 => h9) rfl dX0_fleet_49 ?_
        obtain ⟨u8, hc, h⟩ := bd_el h
        have hC : ([1, 2] : List Nat).map (fun i => (cw_X0 E q0 (q1 0) ++ (cw_X9 E q1 u3.2 ++ (cw_X7 E q2 S2)))[i]?) = (cw_X9 E q1 u3.2).map some := rfl
        refine ct_v (ws' := cw_X0 E q0 (q1 0) ++ (cw_X9 E q1 u8 ++ (cw_X7 E q2 S2))) X hP hD hS [1, 2] (va_runV (C := RX9) (As := []) (rest := []) ⟨hx, hb, hml, hown, hg⟩ (c_X9_step l E q1 H.size u3.2 u8 hc) (cwV 0 hg (gwV wm_X0_56 wi_X9_step wsl_X9_step wini_X9 wco_X9_step) rfl rfl rfl (by decide +kernel) ⟨Nat.le_of_ble_eq_true rfl, Nat.le_of_ble_eq_true rfl⟩) ⟨ct_blind, ct_rv X.1 hP 1 rfl rfl, ct_pre X hP hD hS [1, 2] (by decide) hC _⟩ rfl rfl hl.1 rfl (lv_room (Nat.le_of_ble_eq_true rfl)) dX0_fleet_52 ⟨Nat.zero_le _, Nat.zero_le _⟩) hC rfl rfl (fun H locs hP hD hS => ?_)
        clear hC
        refine lv_aload_n hx hb dX0_fleet_55 rfl (lv_at hl 2 rfl) ?_
        refine va_get (D := E.1) (ci := 0) (v := .ref (q1 0)) (C := RX0) (T := TX0) (N := 1) hx hb hg in_X0 hown X.1 hP 0 rfl rfl 0 (by decide) (hg _ wf_X0_12) (fun _ h9 => h9) rfl dX0_fleet_56 ?_
        refine lv_bipush (v := 48) hx hb dX0_fleet_59 (by decide) ?_
        refine lv_bipush (v := 55) hx hb dX0_fleet_61 (by decide) ?_
        obtain ⟨u9, hc, h⟩ := bd_el h
        have hC : ([1, 2] : List Nat).map (fun i => (cw_X0 E q0 (q1 0) ++ (cw_X9 E q1 u8 ++ (cw_X7 E q2 S2)))[i]?) = (cw_X9 E q1 u8).map some := rfl
        refine ct_iR X hP hD hS [1, 2] hC (va_runV (C := RX9) (As := [.int 48, .int 55]) (rest := []) ⟨hx, hb, hml, hown, hg⟩ (c_X9_isAt l E q1 H.size u8 48 55 u9 hc) (cwV 2 hg (gwV wm_X0_43 wi_X9_isAt wsl_X9_isAt wini_X9 wco_X9_isAt) rfl rfl rfl (by decide +kernel) ⟨Nat.le_of_ble_eq_true rfl, Nat.le_of_ble_eq_true rfl⟩) ⟨ct_blind, ct_rv X.1 hP 1 rfl rfl, ct_pre X hP hD hS [1, 2] (by decide) hC _⟩ rfl rfl hl.1 rfl (lv_room (Nat.le_of_ble_eq_true rfl)) dX0_fleet_63 ⟨Nat.zero_le _, Nat.zero_le _⟩) (fun H locs hP hD hS => ?_)
        clear hC
        refine lv_if_ne (tgt := 78) hx hb dX0_fleet_66 (by decide) (fun c10 => ?_) (fun c10 => ?_)
        · have h := it_f h c10
          refine lv_aload_n hx hb dX0_fleet_78 rfl (lv_at hl 2 rfl) ?_
          refine va_get (D := E.1) (ci := 0) (v := .ref (q1 0)) (C := RX0) (T := TX0) (N := 1) hx hb hg in_X0 hown X.1 hP 0 rfl rfl 0 (by decide) (hg _ wf_X0_12) (fun _ h9 => h9) rfl dX0_fleet_79 ?_
          obtain ⟨u11, hc, h⟩ := bd_el h
          have hC : ([1, 2] : List Nat).map (fun i => (cw_X0 E q0 (q1 0) ++ (cw_X9 E q1 u8 ++ (cw_X7 E q2 S2)))[i]?) = (cw_X9 E q1 u8).map some := rfl
          refine ct_iR X hP hD hS [1, 2] hC (va_runV (C := RX9) (As := []) (rest := []) ⟨hx, hb, hml, hown, hg⟩ (c_X9_peek l E q1 H.size u8 u11 hc) (cwV 0 hg (gwV wm_X0_35 wi_X9_peek wsl_X9_peek wini_X9 wco_X9_peek) rfl rfl rfl (by decide +kernel) ⟨Nat.le_of_ble_eq_true rfl, Nat.le_of_ble_eq_true rfl⟩) ⟨ct_blind, ct_rv X.1 hP 1 rfl rfl, ct_pre X hP hD hS [1, 2] (by decide) hC _⟩ rfl rfl hl.1 rfl (lv_room (Nat.le_of_ble_eq_true rfl)) dX0_fleet_82 ⟨Nat.zero_le _, Nat.zero_le _⟩) (fun H locs hP hD hS => ?_)
          clear hC
          refine lv_bipush (v := 48) hx hb dX0_fleet_85 (by decide) ?_
          refine lv_isub hx hb dX0_fleet_87 ?_
          obtain ⟨v12, ev12, h⟩ := lt_el h
          refine lv_top' ev12 ?_
          refine lv_istore (lv' := [(6, .int v12), (5, .int u3.1), (0, .ref (q0 0)), (1, .ref (q2 0)), (2, .int x2), (3, .int x3), (4, .int x4)]) hx hb dX0_fleet_88 hl (by decide) rfl (fun ls hl => ?_)
          refine lv_aload_n hx hb dX0_fleet_90 rfl (lv_at hl 2 rfl) ?_
          refine va_get (D := E.1) (ci := 0) (v := .ref (q1 0)) (C := RX0) (T := TX0) (N := 1) hx hb hg in_X0 hown X.1 hP 0 rfl rfl 0 (by decide) (hg _ wf_X0_12) (fun _ h9 => h9) rfl dX0_fleet_91 ?_
          obtain ⟨u13, hc, h⟩ := bd_el h
          have hC : ([1, 2] : List Nat).map (fun i => (cw_X0 E q0 (q1 0) ++ (cw_X9 E q1 u8 ++ (cw_X7 E q2 S2)))[i]?) = (cw_X9 E q1 u8).map some := rfl
          refine ct_v (ws' := cw_X0 E q0 (q1 0) ++ (cw_X9 E q1 u13 ++ (cw_X7 E q2 S2))) X hP hD hS [1, 2] (va_runV (C := RX9) (As := []) (rest := []) ⟨hx, hb, hml, hown, hg⟩ (c_X9_step l E q1 H.size u8 u13 hc) (cwV 0 hg (gwV wm_X0_56 wi_X9_step wsl_X9_step wini_X9 wco_X9_step) rfl rfl rfl (by decide +kernel) ⟨Nat.le_of_ble_eq_true rfl, Nat.le_of_ble_eq_true rfl⟩) ⟨ct_blind, ct_rv X.1 hP 1 rfl rfl, ct_pre X hP hD hS [1, 2] (by decide) hC _⟩ rfl rfl hl.1 rfl (lv_room (Nat.le_of_ble_eq_true rfl)) dX0_fleet_94 ⟨Nat.zero_le _, Nat.zero_le _⟩) hC rfl rfl (fun H locs hP hD hS => ?_)
          clear hC
          refine lv_aload_n hx hb dX0_fleet_97 rfl (lv_at hl 3 rfl) ?_
          refine lv_iload_n hx hb dX0_fleet_98 rfl (lv_at hl 4 rfl) ?_
          refine lv_iload_n hx hb dX0_fleet_99 rfl (lv_at hl 5 rfl) ?_
          refine lv_iload hx hb dX0_fleet_100 (lv_at hl 6 rfl) ?_
          refine lv_iload hx hb dX0_fleet_102 (lv_at hl 1 rfl) ?_
          refine lv_iload hx hb dX0_fleet_104 (lv_at hl 0 rfl) ?_
          obtain ⟨u14, hc, h⟩ := bd_el h
          have hC : ([3, 4, 5, 6, 7, 8, 9, 10] : List Nat).map (fun i => (cw_X0 E q0 (q1 0) ++ (cw_X9 E q1 u13 ++ (cw_X7 E q2 S2)))[i]?) = (cw_X7 E q2 S2).map some := rfl
          refine ct_v (ws' := cw_X0 E q0 (q1 0) ++ (cw_X9 E q1 u13 ++ (cw_X7 E q2 u14))) X hP hD hS [3, 4, 5, 6, 7, 8, 9, 10] (va_runV (C := RX7) (As := [.int x2, .int x3, .int x4, .int u3.1, .int v12]) (rest := []) ⟨hx, hb, hml, hown, hg⟩ (c_X7_tellFleet l E q2 H.size S2 x2 x3 x4 u3.1 v12 u14 hc) (cwV 5 hg (gwV wm_X0_80 wi_X7_tellFleet wsl_X7_tellFleet wini_X7 wco_X7_tellFleet) rfl rfl rfl (by decide +kernel) ⟨Nat.le_of_ble_eq_true rfl, Nat.le_of_ble_eq_true rfl⟩) ⟨ct_blind, ct_rv X.1 hP 3 rfl rfl, ct_pre X hP hD hS [3, 4, 5, 6, 7, 8, 9, 10] (by decide) hC _⟩ rfl rfl hl.1 rfl (lv_room (Nat.le_of_ble_eq_true rfl)) dX0_fleet_106 ⟨Nat.zero_le _, Nat.zero_le _⟩) hC rfl rfl (fun H locs hP hD hS => ?_)
          clear hC
          refine lv_iconst (v := 1) hx hb dX0_fleet_109 (by decide) ?_
          exact RT 1 u13 u14 _ _ _ _ h (by decide +kernel) hP hD hS dX0_fleet_110
        · have h := it_t h c10
          refine lv_aload_n hx hb dX0_fleet_69 rfl (lv_at hl 2 rfl) ?_
          refine va_get (D := E.1) (ci := 0) (v := .ref (q1 0)) (C := RX0) (T := TX0) (N := 1) hx hb hg in_X0 hown X.1 hP 0 rfl rfl 0 (by decide) (hg _ wf_X0_12) (fun _ h9 => h9) rfl dX0_fleet_70 ?_
          refine lv_iconst (v := 1) hx hb dX0_fleet_73 (by decide) ?_
          obtain ⟨u15, hc, h⟩ := bd_el h
          have hC : ([1, 2] : List Nat).map (fun i => (cw_X0 E q0 (q1 0) ++ (cw_X9 E q1 u8 ++ (cw_X7 E q2 S2)))[i]?) = (cw_X9 E q1 u8).map some := rfl
          refine ct_i (ws' := cw_X0 E q0 (q1 0) ++ (cw_X9 E q1 u15.2 ++ (cw_X7 E q2 S2))) X hP hD hS [1, 2] (va_runV (C := RX9) (As := [.int 1]) (rest := []) ⟨hx, hb, hml, hown, hg⟩ (c_X9_fail l E q1 H.size u8 1 u15 hc) (cwV 1 hg (gwV wm_X0_47 wi_X9_fail wsl_X9_fail wini_X9 wco_X9_fail) rfl rfl rfl (by decide +kernel) ⟨Nat.le_of_ble_eq_true rfl, Nat.le_of_ble_eq_true rfl⟩) ⟨ct_blind, ct_rv X.1 hP 1 rfl rfl, ct_pre X hP hD hS [1, 2] (by decide) hC _⟩ rfl rfl hl.1 rfl (lv_room (Nat.le_of_ble_eq_true rfl)) dX0_fleet_74 ⟨Nat.zero_le _, Nat.zero_le _⟩) hC rfl rfl (fun H locs hP hD hS => ?_)
          clear hC
          obtain ⟨hn1, -, h⟩ := zb_el h
          exact RT u15.1 u15.2 S2 _ _ _ _ h hn1 hP hD hS dX0_fleet_77
    · have h := it_t h c4
      refine lv_iconst (v := 0) hx hb dX0_fleet_30 (by decide) ?_
      exact RT 0 u3.2 S2 _ _ _ _ h (by decide +kernel) hP hD hS dX0_fleet_31
  · have h := it_t h c2
    refine lv_iconst (v := 0) hx hb dX0_fleet_12 (by decide) ?_
    exact RT 0 u1.2 S2 _ _ _ _ h (by decide +kernel) hP hD hS dX0_fleet_13
theorem dX0_line_0 : decode cX0_line 0 = .ok (.aload_n 0, 1) := by decide +kernel
theorem dX0_line_1 : decode cX0_line 1 = .ok (.getfield 12, 3) := by decide +kernel
theorem dX0_line_4 : decode cX0_line 4 = .ok (.bipush 97, 2) := by decide +kernel
theorem dX0_line_6 : decode cX0_line 6 = .ok (.bipush 104, 2) := by decide +kernel
theorem dX0_line_8 : decode cX0_line 8 = .ok (.invokevirtual 43, 3) := by decide +kernel
theorem dX0_line_11 : decode cX0_line 11 = .ok (.istore_n 3, 1) := by decide +kernel
theorem dX0_line_12 : decode cX0_line 12 = .ok (.iload_n 3, 1) := by decide +kernel
theorem dX0_line_13 : decode cX0_line 13 = .ok (.ifCond .ne 26, 3) := by decide +kernel
theorem dX0_line_16 : decode cX0_line 16 = .ok (.aload_n 0, 1) := by decide +kernel
theorem dX0_line_17 : decode cX0_line 17 = .ok (.getfield 12, 3) := by decide +kernel
theorem dX0_line_20 : decode cX0_line 20 = .ok (.bipush 65, 2) := by decide +kernel
theorem dX0_line_22 : decode cX0_line 22 = .ok (.bipush 72, 2) := by decide +kernel
theorem dX0_line_24 : decode cX0_line 24 = .ok (.invokevirtual 43, 3) := by decide +kernel
theorem dX0_line_27 : decode cX0_line 27 = .ok (.ifCond .ne 12, 3) := by decide +kernel
theorem dX0_line_30 : decode cX0_line 30 = .ok (.aload_n 0, 1) := by decide +kernel
theorem dX0_line_31 : decode cX0_line 31 = .ok (.getfield 12, 3) := by decide +kernel
theorem dX0_line_34 : decode cX0_line 34 = .ok (.iconst 1, 1) := by decide +kernel
theorem dX0_line_35 : decode cX0_line 35 = .ok (.invokevirtual 47, 3) := by decide +kernel
theorem dX0_line_38 : decode cX0_line 38 = .ok (.ireturn, 1) := by decide +kernel
theorem dX0_line_39 : decode cX0_line 39 = .ok (.iload_n 2, 1) := by decide +kernel
theorem dX0_line_40 : decode cX0_line 40 = .ok (.bipush 24, 2) := by decide +kernel
theorem dX0_line_42 : decode cX0_line 42 = .ok (.if_icmp .le 12, 3) := by decide +kernel
theorem dX0_line_45 : decode cX0_line 45 = .ok (.aload_n 0, 1) := by decide +kernel
theorem dX0_line_46 : decode cX0_line 46 = .ok (.getfield 12, 3) := by decide +kernel
theorem dX0_line_49 : decode cX0_line 49 = .ok (.iconst 4, 1) := by decide +kernel
theorem dX0_line_50 : decode cX0_line 50 = .ok (.invokevirtual 47, 3) := by decide +kernel
theorem dX0_line_53 : decode cX0_line 53 = .ok (.ireturn, 1) := by decide +kernel
theorem dX0_line_54 : decode cX0_line 54 = .ok (.aload_n 0, 1) := by decide +kernel
theorem dX0_line_55 : decode cX0_line 55 = .ok (.getfield 12, 3) := by decide +kernel
theorem dX0_line_58 : decode cX0_line 58 = .ok (.invokevirtual 35, 3) := by decide +kernel
theorem dX0_line_61 : decode cX0_line 61 = .ok (.iload_n 3, 1) := by decide +kernel
theorem dX0_line_62 : decode cX0_line 62 = .ok (.ifCond .eq 8, 3) := by decide +kernel
theorem dX0_line_65 : decode cX0_line 65 = .ok (.bipush 97, 2) := by decide +kernel
theorem dX0_line_67 : decode cX0_line 67 = .ok (.goto 5, 3) := by decide +kernel
theorem dX0_line_70 : decode cX0_line 70 = .ok (.bipush 65, 2) := by decide +kernel
theorem dX0_line_72 : decode cX0_line 72 = .ok (.isub, 1) := by decide +kernel
theorem dX0_line_73 : decode cX0_line 73 = .ok (.istore 4, 2) := by decide +kernel
theorem dX0_line_75 : decode cX0_line 75 = .ok (.iload_n 3, 1) := by decide +kernel
theorem dX0_line_76 : decode cX0_line 76 = .ok (.ifCond .eq 15, 3) := by decide +kernel
theorem dX0_line_79 : decode cX0_line 79 = .ok (.aload_n 1, 1) := by decide +kernel
theorem dX0_line_80 : decode cX0_line 80 = .ok (.iload 4, 2) := by decide +kernel
theorem dX0_line_82 : decode cX0_line 82 = .ok (.invokevirtual 50, 3) := by decide +kernel
theorem dX0_line_85 : decode cX0_line 85 = .ok (.ifCond .eq 25, 3) := by decide +kernel
theorem dX0_line_88 : decode cX0_line 88 = .ok (.goto 12, 3) := by decide +kernel
theorem dX0_line_91 : decode cX0_line 91 = .ok (.aload_n 1, 1) := by decide +kernel
theorem dX0_line_92 : decode cX0_line 92 = .ok (.iload 4, 2) := by decide +kernel
theorem dX0_line_94 : decode cX0_line 94 = .ok (.invokevirtual 53, 3) := by decide +kernel
theorem dX0_line_97 : decode cX0_line 97 = .ok (.ifCond .eq 13, 3) := by decide +kernel
theorem dX0_line_100 : decode cX0_line 100 = .ok (.aload_n 0, 1) := by decide +kernel
theorem dX0_line_101 : decode cX0_line 101 = .ok (.getfield 12, 3) := by decide +kernel
theorem dX0_line_104 : decode cX0_line 104 = .ok (.bipush 6, 2) := by decide +kernel
theorem dX0_line_106 : decode cX0_line 106 = .ok (.invokevirtual 47, 3) := by decide +kernel
theorem dX0_line_109 : decode cX0_line 109 = .ok (.ireturn, 1) := by decide +kernel
theorem dX0_line_110 : decode cX0_line 110 = .ok (.aload_n 0, 1) := by decide +kernel
theorem dX0_line_111 : decode cX0_line 111 = .ok (.getfield 12, 3) := by decide +kernel
theorem dX0_line_114 : decode cX0_line 114 = .ok (.invokevirtual 56, 3) := by decide +kernel
theorem dX0_line_117 : decode cX0_line 117 = .ok (.aload_n 0, 1) := by decide +kernel
theorem dX0_line_118 : decode cX0_line 118 = .ok (.getfield 12, 3) := by decide +kernel
theorem dX0_line_121 : decode cX0_line 121 = .ok (.bipush 64, 2) := by decide +kernel
theorem dX0_line_123 : decode cX0_line 123 = .ok (.invokevirtual 39, 3) := by decide +kernel
theorem dX0_line_126 : decode cX0_line 126 = .ok (.ifCond .ne 5, 3) := by decide +kernel
theorem dX0_line_129 : decode cX0_line 129 = .ok (.iconst 0, 1) := by decide +kernel
theorem dX0_line_130 : decode cX0_line 130 = .ok (.ireturn, 1) := by decide +kernel
theorem dX0_line_131 : decode cX0_line 131 = .ok (.aload_n 0, 1) := by decide +kernel
theorem dX0_line_132 : decode cX0_line 132 = .ok (.bipush 23, 2) := by decide +kernel
theorem dX0_line_134 : decode cX0_line 134 = .ok (.invokevirtual 59, 3) := by decide +kernel
theorem dX0_line_137 : decode cX0_line 137 = .ok (.istore 5, 2) := by decide +kernel
theorem dX0_line_139 : decode cX0_line 139 = .ok (.iload 5, 2) := by decide +kernel
theorem dX0_line_141 : decode cX0_line 141 = .ok (.iconst (-1), 1) := by decide +kernel
theorem dX0_line_142 : decode cX0_line 142 = .ok (.if_icmp .eq 15, 3) := by decide +kernel
theorem dX0_line_145 : decode cX0_line 145 = .ok (.aload_n 0, 1) := by decide +kernel
theorem dX0_line_146 : decode cX0_line 146 = .ok (.getfield 12, 3) := by decide +kernel
theorem dX0_line_149 : decode cX0_line 149 = .ok (.bipush 44, 2) := by decide +kernel
theorem dX0_line_151 : decode cX0_line 151 = .ok (.invokevirtual 39, 3) := by decide +kernel
theorem dX0_line_154 : decode cX0_line 154 = .ok (.ifCond .ne 5, 3) := by decide +kernel
theorem dX0_line_157 : decode cX0_line 157 = .ok (.iconst 0, 1) := by decide +kernel
theorem dX0_line_158 : decode cX0_line 158 = .ok (.ireturn, 1) := by decide +kernel
theorem dX0_line_159 : decode cX0_line 159 = .ok (.aload_n 0, 1) := by decide +kernel
theorem dX0_line_160 : decode cX0_line 160 = .ok (.bipush 15, 2) := by decide +kernel
theorem dX0_line_162 : decode cX0_line 162 = .ok (.invokevirtual 59, 3) := by decide +kernel
theorem dX0_line_165 : decode cX0_line 165 = .ok (.istore 6, 2) := by decide +kernel
theorem dX0_line_167 : decode cX0_line 167 = .ok (.iload 6, 2) := by decide +kernel
theorem dX0_line_169 : decode cX0_line 169 = .ok (.iconst (-1), 1) := by decide +kernel
theorem dX0_line_170 : decode cX0_line 170 = .ok (.if_icmp .ne 5, 3) := by decide +kernel
theorem dX0_line_173 : decode cX0_line 173 = .ok (.iconst 0, 1) := by decide +kernel
theorem dX0_line_174 : decode cX0_line 174 = .ok (.ireturn, 1) := by decide +kernel
theorem dX0_line_175 : decode cX0_line 175 = .ok (.iload_n 3, 1) := by decide +kernel
theorem dX0_line_176 : decode cX0_line 176 = .ok (.ifCond .eq 15, 3) := by decide +kernel
theorem dX0_line_179 : decode cX0_line 179 = .ok (.aload_n 1, 1) := by decide +kernel
theorem dX0_line_180 : decode cX0_line 180 = .ok (.iload 4, 2) := by decide +kernel
theorem dX0_line_182 : decode cX0_line 182 = .ok (.iload 5, 2) := by decide +kernel
theorem dX0_line_184 : decode cX0_line 184 = .ok (.iload 6, 2) := by decide +kernel
theorem dX0_line_186 : decode cX0_line 186 = .ok (.invokevirtual 63, 3) := by decide +kernel
theorem dX0_line_189 : decode cX0_line 189 = .ok (.iconst 1, 1) := by decide +kernel
theorem dX0_line_190 : decode cX0_line 190 = .ok (.ireturn, 1) := by decide +kernel
theorem dX0_line_191 : decode cX0_line 191 = .ok (.aload_n 0, 1) := by decide +kernel
theorem dX0_line_192 : decode cX0_line 192 = .ok (.aload_n 1, 1) := by decide +kernel
theorem dX0_line_193 : decode cX0_line 193 = .ok (.iload 4, 2) := by decide +kernel
theorem dX0_line_195 : decode cX0_line 195 = .ok (.iload 5, 2) := by decide +kernel
theorem dX0_line_197 : decode cX0_line 197 = .ok (.iload 6, 2) := by decide +kernel
theorem dX0_line_199 : decode cX0_line 199 = .ok (.invokevirtual 67, 3) := by decide +kernel
theorem dX0_line_202 : decode cX0_line 202 = .ok (.ireturn, 1) := by decide +kernel
def f_X0_line_n110 (x2 : Int32) (S1 : Gr) (S2 : Gr) (x3 : Int32) (x4 : Int32) : Option (Int32 × Gr × Gr) := (f_X9_step S1).bind fun u18 => (f_X9_stepOver u18 64).bind fun u19 => if u19.1 = 0 then (some (0, u19.2, S2)) else ((f_X0_coordinate u19.2 23).bind fun u21 => if u21.1 = (-1) then (some (0, u21.2, S2)) else ((f_X9_stepOver u21.2 44).bind fun u23 => if u23.1 = 0 then (some (0, u23.2, S2)) else ((f_X0_coordinate u23.2 15).bind fun u25 => if u25.1 = (-1) then (some (0, u25.2, S2)) else (if x3 = 0 then ((f_X0_fleet u25.2 S2 x4 u21.1 u25.1).bind fun u28 => zb' u28.1 (some (u28.1, u28.2.1, u28.2.2))) else ((f_X7_tellWeb S2 x4 u21.1 u25.1).bind fun u29 => some (1, u25.2, u29))))))
def f_X0_line_n72 (x2 : Int32) (S1 : Gr) (S2 : Gr) (x3 : Int32) (w0 : Int32) (w1 : Int32) : Option (Int32 × Gr × Gr) := lt' ((w1 - w0)) fun v10 => if x3 = 0 then ((f_X7_hasFleet S2 v10).bind fun u12 => if u12 = 0 then (f_X0_line_n110 x2 S1 S2 x3 v10) else ((f_X9_fail S1 6).bind fun u14 => zb' u14.1 (some (u14.1, u14.2, S2)))) else ((f_X7_hasWeb S2 v10).bind fun u15 => if u15 = 0 then (f_X0_line_n110 x2 S1 S2 x3 v10) else ((f_X9_fail S1 6).bind fun u17 => zb' u17.1 (some (u17.1, u17.2, S2))))
def f_X0_line_n39 (x2 : Int32) (S1 : Gr) (S2 : Gr) (x3 : Int32) : Option (Int32 × Gr × Gr) := if x2 ≤ 24 then ((f_X9_peek S1).bind fun u7 => if x3 = 0 then (f_X0_line_n72 x2 S1 S2 x3 65 u7) else (f_X0_line_n72 x2 S1 S2 x3 97 u7)) else ((f_X9_fail S1 4).bind fun u9 => zb' u9.1 (some (u9.1, u9.2, S2)))
def f_X0_line (S1 : Gr) (S2 : Gr) (x2 : Int32) : Option (Int32 × Gr × Gr) := (f_X9_isAt S1 97 104).bind fun u1 => if u1 = 0 then ((f_X9_isAt S1 65 72).bind fun u3 => if u3 = 0 then ((f_X9_fail S1 1).bind fun u5 => zb' u5.1 (some (u5.1, u5.2, S2))) else (f_X0_line_n39 x2 S1 S2 u1)) else (f_X0_line_n39 x2 S1 S2 u1)
set_option maxHeartbeats 4000000 in
set_option maxRecDepth 100000 in
theorem c_X0_line (l : Launch) (E : Ec) (q0 q1 q2 : Nat → Nat) (sz : Nat) (S1 : Gr) (S2 : Gr) (x2 : Int32) (Rv : Int32 × Gr × Gr) (h : f_X0_line S1 S2 x2 = some Rv) : Met l yX0_line (wsM (.code yX0_line cX0_line 7 (some .boolean))) ({ frames := 3, cells := 0, slots := 0, locals := 73 } : Room) (va_Pc [.ref (q0 0), .ref (q2 0), .int x2] (ctP E (cw_X0 E q0 (q1 0) ++ (cw_X9 E q1 S1 ++ (cw_X7 E q2 S2))) sz)) (ctI E (cw_X0 E q0 (q1 0) ++ (cw_X9 E q1 S1 ++ (cw_X7 E q2 S2))) (cw_X0 E q0 (q1 0) ++ (cw_X9 E q1 Rv.2.1 ++ (cw_X7 E q2 Rv.2.2))) sz Rv.1) 0 0 (va_A (cw_X0 E q0 (q1 0) ++ (cw_X9 E q1 S1 ++ (cw_X7 E q2 S2))) sz) := by
  refine ct_metI (by decide) (Nat.le_of_ble_eq_true rfl) ?_
  intro p e s m ar below meth c A QM hx hb hml hown hg X hP hD hS RET ls hl
  have hown : s.vm.findClass RX0 = some m.cls := hown
  have hl : lv_has ls 7 [(0, .ref (q0 0)), (1, .ref (q2 0)), (2, .int x2)] := hl
  have RT : ∀ (v : Int32) (S1 : Gr) (S2 : Gr) (H : Heap) (locs : List Loc) (ls : Array Slot) (pc : Nat), some (v, S1, S2) = some Rv → narrow .boolean (.int v) = .int v → va_P E.1 vwCl (cw_X0 E q0 (q1 0) ++ (cw_X9 E q1 S1 ++ (cw_X7 E q2 S2))) H → va_D A (cw_X0 E q0 (q1 0) ++ (cw_X9 E q1 S1 ++ (cw_X7 E q2 S2))) → va_S A s.heap H locs → decode cX0_line pc = .ok (.ireturn, 1) → W p l e ({ frames := 3, cells := 0, slots := 0, locals := 73 } : Room) s m ar below meth c H locs 0 0 QM (F0 m pc ls [.int v]) := by
    intro v S1 S2 H locs ls pc e hn hP hD hS d
    obtain rfl := sm_e e
    exact RET H locs pc ls hn hP hD hS d
  clear RET
  have N110 : ∀ (S1 : Gr) (S2 : Gr) (x3 : Int32) (x4 : Int32) (H : Heap) (locs : List Loc) (ls : Array Slot), f_X0_line_n110 x2 S1 S2 x3 x4 = some Rv → va_P E.1 vwCl (cw_X0 E q0 (q1 0) ++ (cw_X9 E q1 S1 ++ (cw_X7 E q2 S2))) H → va_D A (cw_X0 E q0 (q1 0) ++ (cw_X9 E q1 S1 ++ (cw_X7 E q2 S2))) → va_S A s.heap H locs → lv_has ls 7 [(0, .ref (q0 0)), (1, .ref (q2 0)), (3, .int x3), (4, .int x4)] → W p l e ({ frames := 3, cells := 0, slots := 0, locals := 73 } : Room) s m ar below meth c H locs 0 0 QM (F0 m 110 ls []) := by
    intro S1 S2 x3 x4 H locs ls h hP hD hS hl
    refine lv_aload_n hx hb dX0_line_110 rfl (lv_at hl 0 rfl) ?_
    refine va_get (D := E.1) (ci := 0) (v := .ref (q1 0)) (C := RX0) (T := TX0) (N := 1) hx hb hg in_X0 hown X.1 hP 0 rfl rfl 0 (by decide) (hg _ wf_X0_12) (fun _ h9 => h9) rfl dX0_line_111 ?_
    obtain ⟨u18, hc, h⟩ := bd_el h
    have hC : ([1, 2] : List Nat).map (fun i => (cw_X0 E q0 (q1 0) ++ (cw_X9 E q1 S1 ++ (cw_X7 E q2 S2)))[i]?) = (cw_X9 E q1 S1).map some := rfl
    refine ct_v (ws' := cw_X0 E q0 (q1 0) ++ (cw_X9 E q1 u18 ++ (cw_X7 E q2 S2))) X hP hD hS [1, 2] (va_runV (C := RX9) (As := []) (rest := []) ⟨hx, hb, hml, hown, hg⟩ (c_X9_step l E q1 H.size S1 u18 hc) (cwV 0 hg (gwV wm_X0_56 wi_X9_step wsl_X9_step wini_X9 wco_X9_step) rfl rfl rfl (by decide +kernel) ⟨Nat.le_of_ble_eq_true rfl, Nat.le_of_ble_eq_true rfl⟩) ⟨ct_blind, ct_rv X.1 hP 1 rfl rfl, ct_pre X hP hD hS [1, 2] (by decide) hC _⟩ rfl rfl hl.1 rfl (lv_room (Nat.le_of_ble_eq_true rfl)) dX0_line_114 ⟨Nat.zero_le _, Nat.zero_le _⟩) hC rfl rfl (fun H locs hP hD hS => ?_)
    clear hC
    refine lv_aload_n hx hb dX0_line_117 rfl (lv_at hl 0 rfl) ?_
    refine va_get (D := E.1) (ci := 0) (v := .ref (q1 0)) (C := RX0) (T := TX0) (N := 1) hx hb hg in_X0 hown X.1 hP 0 rfl rfl 0 (by decide) (hg _ wf_X0_12) (fun _ h9 => h9) rfl dX0_line_118 ?_
    refine lv_bipush (v := 64) hx hb dX0_line_121 (by decide) ?_
    obtain ⟨u19, hc, h⟩ := bd_el h
    have hC : ([1, 2] : List Nat).map (fun i => (cw_X0 E q0 (q1 0) ++ (cw_X9 E q1 u18 ++ (cw_X7 E q2 S2)))[i]?) = (cw_X9 E q1 u18).map some := rfl
    refine ct_i (ws' := cw_X0 E q0 (q1 0) ++ (cw_X9 E q1 u19.2 ++ (cw_X7 E q2 S2))) X hP hD hS [1, 2] (va_runV (C := RX9) (As := [.int 64]) (rest := []) ⟨hx, hb, hml, hown, hg⟩ (c_X9_stepOver l E q1 H.size u18 64 u19 hc) (cwV 1 hg (gwV wm_X0_39 wi_X9_stepOver wsl_X9_stepOver wini_X9 wco_X9_stepOver) rfl rfl rfl (by decide +kernel) ⟨Nat.le_of_ble_eq_true rfl, Nat.le_of_ble_eq_true rfl⟩) ⟨ct_blind, ct_rv X.1 hP 1 rfl rfl, ct_pre X hP hD hS [1, 2] (by decide) hC _⟩ rfl rfl hl.1 rfl (lv_room (Nat.le_of_ble_eq_true rfl)) dX0_line_123 ⟨Nat.zero_le _, Nat.zero_le _⟩) hC rfl rfl (fun H locs hP hD hS => ?_)
    clear hC
    refine lv_if_ne (tgt := 131) hx hb dX0_line_126 (by decide) (fun c20 => ?_) (fun c20 => ?_)
    · have h := it_f h c20
      refine lv_aload_n hx hb dX0_line_131 rfl (lv_at hl 0 rfl) ?_
      refine lv_bipush (v := 23) hx hb dX0_line_132 (by decide) ?_
      obtain ⟨u21, hc, h⟩ := bd_el h
      have hC : ([0, 1, 2] : List Nat).map (fun i => (cw_X0 E q0 (q1 0) ++ (cw_X9 E q1 u19.2 ++ (cw_X7 E q2 S2)))[i]?) = (cw_X0 E q0 (q1 0) ++ (cw_X9 E q1 u19.2)).map some := rfl
      refine ct_i (ws' := cw_X0 E q0 (q1 0) ++ (cw_X9 E q1 u21.2 ++ (cw_X7 E q2 S2))) X hP hD hS [0, 1, 2] (va_runV (C := RX0) (As := [.int 23]) (rest := []) ⟨hx, hb, hml, hown, hg⟩ (c_X0_coordinate l E q0 q1 H.size u19.2 23 u21 hc) (cwV 1 hg (gwV wm_X0_59 wi_X0_coordinate wsl_X0_coordinate wini_X0 wco_X0_coordinate) rfl rfl rfl (by decide +kernel) ⟨Nat.le_of_ble_eq_true rfl, Nat.le_of_ble_eq_true rfl⟩) ⟨ct_blind, ct_rv X.1 hP 0 rfl rfl, ct_pre X hP hD hS [0, 1, 2] (by decide) hC _⟩ rfl rfl hl.1 rfl (lv_room (Nat.le_of_ble_eq_true rfl)) dX0_line_134 ⟨Nat.zero_le _, Nat.zero_le _⟩) hC rfl rfl (fun H locs hP hD hS => ?_)
      clear hC
      refine lv_istore (lv' := [(5, .int u21.1), (0, .ref (q0 0)), (1, .ref (q2 0)), (3, .int x3), (4, .int x4)]) hx hb dX0_line_137 hl (by decide) rfl (fun ls hl => ?_)
      refine lv_iload hx hb dX0_line_139 (lv_at hl 0 rfl) ?_
      refine lv_iconst (v := (-1)) hx hb dX0_line_141 (by decide) ?_
      refine lv_icmp_eq (tgt := 157) hx hb dX0_line_142 (by decide) (fun c22 => ?_) (fun c22 => ?_)
      · have h := it_t h c22
        refine lv_iconst (v := 0) hx hb dX0_line_157 (by decide) ?_
        exact RT 0 u21.2 S2 _ _ _ _ h (by decide +kernel) hP hD hS dX0_line_158
      · have h := it_f h c22
        refine lv_aload_n hx hb dX0_line_145 rfl (lv_at hl 1 rfl) ?_
        refine va_get (D := E.1) (ci := 0) (v := .ref (q1 0)) (C := RX0) (T := TX0) (N := 1) hx hb hg in_X0 hown X.1 hP 0 rfl rfl 0 (by decide) (hg _ wf_X0_12) (fun _ h9 => h9) rfl dX0_line_146 ?_
        refine lv_bipush (v := 44) hx hb dX0_line_149 (by decide) ?_
        obtain ⟨u23, hc, h⟩ := bd_el h
        have hC : ([1, 2] : List Nat).map (fun i => (cw_X0 E q0 (q1 0) ++ (cw_X9 E q1 u21.2 ++ (cw_X7 E q2 S2)))[i]?) = (cw_X9 E q1 u21.2).map some := rfl
        refine ct_i (ws' := cw_X0 E q0 (q1 0) ++ (cw_X9 E q1 u23.2 ++ (cw_X7 E q2 S2))) X hP hD hS [1, 2] (va_runV (C := RX9) (As := [.int 44]) (rest := []) ⟨hx, hb, hml, hown, hg⟩ (c_X9_stepOver l E q1 H.size u21.2 44 u23 hc) (cwV 1 hg (gwV wm_X0_39 wi_X9_stepOver wsl_X9_stepOver wini_X9 wco_X9_stepOver) rfl rfl rfl (by decide +kernel) ⟨Nat.le_of_ble_eq_true rfl, Nat.le_of_ble_eq_true rfl⟩) ⟨ct_blind, ct_rv X.1 hP 1 rfl rfl, ct_pre X hP hD hS [1, 2] (by decide) hC _⟩ rfl rfl hl.1 rfl (lv_room (Nat.le_of_ble_eq_true rfl)) dX0_line_151 ⟨Nat.zero_le _, Nat.zero_le _⟩) hC rfl rfl (fun H locs hP hD hS => ?_)
        clear hC
        refine lv_if_ne (tgt := 159) hx hb dX0_line_154 (by decide) (fun c24 => ?_) (fun c24 => ?_)
        · have h := it_f h c24
          refine lv_aload_n hx hb dX0_line_159 rfl (lv_at hl 1 rfl) ?_
          refine lv_bipush (v := 15) hx hb dX0_line_160 (by decide) ?_
          obtain ⟨u25, hc, h⟩ := bd_el h
          have hC : ([0, 1, 2] : List Nat).map (fun i => (cw_X0 E q0 (q1 0) ++ (cw_X9 E q1 u23.2 ++ (cw_X7 E q2 S2)))[i]?) = (cw_X0 E q0 (q1 0) ++ (cw_X9 E q1 u23.2)).map some := rfl
          refine ct_i (ws' := cw_X0 E q0 (q1 0) ++ (cw_X9 E q1 u25.2 ++ (cw_X7 E q2 S2))) X hP hD hS [0, 1, 2] (va_runV (C := RX0) (As := [.int 15]) (rest := []) ⟨hx, hb, hml, hown, hg⟩ (c_X0_coordinate l E q0 q1 H.size u23.2 15 u25 hc) (cwV 1 hg (gwV wm_X0_59 wi_X0_coordinate wsl_X0_coordinate wini_X0 wco_X0_coordinate) rfl rfl rfl (by decide +kernel) ⟨Nat.le_of_ble_eq_true rfl, Nat.le_of_ble_eq_true rfl⟩) ⟨ct_blind, ct_rv X.1 hP 0 rfl rfl, ct_pre X hP hD hS [0, 1, 2] (by decide) hC _⟩ rfl rfl hl.1 rfl (lv_room (Nat.le_of_ble_eq_true rfl)) dX0_line_162 ⟨Nat.zero_le _, Nat.zero_le _⟩) hC rfl rfl (fun H locs hP hD hS => ?_)
          clear hC
          refine lv_istore (lv' := [(6, .int u25.1), (5, .int u21.1), (0, .ref (q0 0)), (1, .ref (q2 0)), (3, .int x3), (4, .int x4)]) hx hb dX0_line_165 hl (by decide) rfl (fun ls hl => ?_)
          refine lv_iload hx hb dX0_line_167 (lv_at hl 0 rfl) ?_
          refine lv_iconst (v := (-1)) hx hb dX0_line_169 (by decide) ?_
          refine lv_icmp_ne (tgt := 175) hx hb dX0_line_170 (by decide) (fun c26 => ?_) (fun c26 => ?_)
          · have h := it_f h c26
            refine lv_iload_n hx hb dX0_line_175 rfl (lv_at hl 4 rfl) ?_
            refine lv_if_eq (tgt := 191) hx hb dX0_line_176 (by decide) (fun c27 => ?_) (fun c27 => ?_)
            · have h := it_t h c27
              refine lv_aload_n hx hb dX0_line_191 rfl (lv_at hl 2 rfl) ?_
              refine lv_aload_n hx hb dX0_line_192 rfl (lv_at hl 3 rfl) ?_
              refine lv_iload hx hb dX0_line_193 (lv_at hl 5 rfl) ?_
              refine lv_iload hx hb dX0_line_195 (lv_at hl 1 rfl) ?_
              refine lv_iload hx hb dX0_line_197 (lv_at hl 0 rfl) ?_
              obtain ⟨u28, hc, h⟩ := bd_el h
              refine ct_iA (w1 := cw_X0 E q0 (q1 0) ++ (cw_X9 E q1 u28.2.1 ++ (cw_X7 E q2 u28.2.2))) X hP hD hS (va_runV (C := RX0) (As := [.ref (q2 0), .int x4, .int u21.1, .int u25.1]) (rest := []) ⟨hx, hb, hml, hown, hg⟩ (c_X0_fleet l E q0 q1 q2 H.size u25.2 S2 x4 u21.1 u25.1 u28 hc) (cwV 4 hg (gwV wm_X0_67 wi_X0_fleet wsl_X0_fleet wini_X0 wco_X0_fleet) rfl rfl rfl (by decide +kernel) ⟨Nat.le_of_ble_eq_true rfl, Nat.le_of_ble_eq_true rfl⟩) ⟨ct_blind, ct_rv X.1 hP 0 rfl rfl, ct_preA X hP hD hS _⟩ rfl rfl hl.1 rfl (lv_room (Nat.le_of_ble_eq_true rfl)) dX0_line_199 ⟨Nat.zero_le _, Nat.zero_le _⟩) (fun H locs hP hD hS => ?_)
              obtain ⟨hn1, -, h⟩ := zb_el h
              exact RT u28.1 u28.2.1 u28.2.2 _ _ _ _ h hn1 hP hD hS dX0_line_202
            · have h := it_f h c27
              refine lv_aload_n hx hb dX0_line_179 rfl (lv_at hl 3 rfl) ?_
              refine lv_iload hx hb dX0_line_180 (lv_at hl 5 rfl) ?_
              refine lv_iload hx hb dX0_line_182 (lv_at hl 1 rfl) ?_
              refine lv_iload hx hb dX0_line_184 (lv_at hl 0 rfl) ?_
              obtain ⟨u29, hc, h⟩ := bd_el h
              have hC : ([3, 4, 5, 6, 7, 8, 9, 10] : List Nat).map (fun i => (cw_X0 E q0 (q1 0) ++ (cw_X9 E q1 u25.2 ++ (cw_X7 E q2 S2)))[i]?) = (cw_X7 E q2 S2).map some := rfl
              refine ct_v (ws' := cw_X0 E q0 (q1 0) ++ (cw_X9 E q1 u25.2 ++ (cw_X7 E q2 u29))) X hP hD hS [3, 4, 5, 6, 7, 8, 9, 10] (va_runV (C := RX7) (As := [.int x4, .int u21.1, .int u25.1]) (rest := []) ⟨hx, hb, hml, hown, hg⟩ (c_X7_tellWeb l E q2 H.size S2 x4 u21.1 u25.1 u29 hc) (cwV 3 hg (gwV wm_X0_63 wi_X7_tellWeb wsl_X7_tellWeb wini_X7 wco_X7_tellWeb) rfl rfl rfl (by decide +kernel) ⟨Nat.le_of_ble_eq_true rfl, Nat.le_of_ble_eq_true rfl⟩) ⟨ct_blind, ct_rv X.1 hP 3 rfl rfl, ct_pre X hP hD hS [3, 4, 5, 6, 7, 8, 9, 10] (by decide) hC _⟩ rfl rfl hl.1 rfl (lv_room (Nat.le_of_ble_eq_true rfl)) dX0_line_186 ⟨Nat.zero_le _, Nat.zero_le _⟩) hC rfl rfl (fun H locs hP hD hS => ?_)
              clear hC
              refine lv_iconst (v := 1) hx hb dX0_line_189 (by decide) ?_
              exact RT 1 u25.2 u29 _ _ _ _ h (by decide +kernel) hP hD hS dX0_line_190
          · have h := it_t h c26
            refine lv_iconst (v := 0) hx hb dX0_line_173 (by decide) ?_
            exact RT 0 u25.2 S2 _ _ _ _ h (by decide +kernel) hP hD hS dX0_line_174
        · have h := it_t h c24
          refine lv_iconst (v := 0) hx hb dX0_line_157 (by decide) ?_
          exact RT 0 u23.2 S2 _ _ _ _ h (by decide +kernel) hP hD hS dX0_line_158
    · have h := it_t h c20
      refine lv_iconst (v := 0) hx hb dX0_line_129 (by decide) ?_
      exact RT 0 u19.2 S2 _ _ _ _ h (by decide +kernel) hP hD hS dX0_line_130
  have N72 : ∀ (S1 : Gr) (S2 : Gr) (x3 : Int32) (w0 : Int32) (w1 : Int32) (H : Heap) (locs : List Loc) (ls : Array Slot), f_X0_line_n72 x2 S1 S2 x3 w0 w1 = some Rv → va_P E.1 vwCl (cw_X0 E q0 (q1 0) ++ (cw_X9 E q1 S1 ++ (cw_X7 E q2 S2))) H → va_D A (cw_X0 E q0 (q1 0) ++ (cw_X9 E q1 S1 ++ (cw_X7 E q2 S2))) → va_S A s.heap H locs → lv_has ls 7 [(0, .ref (q0 0)), (1, .ref (q2 0)), (3, .int x3)] → W p l e ({ frames := 3, cells := 0, slots := 0, locals := 73 } : Room) s m ar below meth c H locs 0 0 QM (F0 m 72 ls [.int w0, .int w1]) := by
    intro S1 S2 x3 w0 w1 H locs ls h hP hD hS hl
    refine lv_isub hx hb dX0_line_72 ?_
    obtain ⟨v10, ev10, h⟩ := lt_el h
    refine lv_top' ev10 ?_
    refine lv_istore (lv' := [(4, .int v10), (0, .ref (q0 0)), (1, .ref (q2 0)), (3, .int x3)]) hx hb dX0_line_73 hl (by decide) rfl (fun ls hl => ?_)
    refine lv_iload_n hx hb dX0_line_75 rfl (lv_at hl 3 rfl) ?_
    refine lv_if_eq (tgt := 91) hx hb dX0_line_76 (by decide) (fun c11 => ?_) (fun c11 => ?_)
    · have h := it_t h c11
      refine lv_aload_n hx hb dX0_line_91 rfl (lv_at hl 2 rfl) ?_
      refine lv_iload hx hb dX0_line_92 (lv_at hl 0 rfl) ?_
      obtain ⟨u12, hc, h⟩ := bd_el h
      have hC : ([3, 4, 5, 6, 7, 8, 9, 10] : List Nat).map (fun i => (cw_X0 E q0 (q1 0) ++ (cw_X9 E q1 S1 ++ (cw_X7 E q2 S2)))[i]?) = (cw_X7 E q2 S2).map some := rfl
      refine ct_iR X hP hD hS [3, 4, 5, 6, 7, 8, 9, 10] hC (va_runV (C := RX7) (As := [.int v10]) (rest := []) ⟨hx, hb, hml, hown, hg⟩ (c_X7_hasFleet l E q2 H.size S2 v10 u12 hc) (cwV 1 hg (gwV wm_X0_53 wi_X7_hasFleet wsl_X7_hasFleet wini_X7 wco_X7_hasFleet) rfl rfl rfl (by decide +kernel) ⟨Nat.le_of_ble_eq_true rfl, Nat.le_of_ble_eq_true rfl⟩) ⟨ct_blind, ct_rv X.1 hP 3 rfl rfl, ct_pre X hP hD hS [3, 4, 5, 6, 7, 8, 9, 10] (by decide) hC _⟩ rfl rfl hl.1 rfl (lv_room (Nat.le_of_ble_eq_true rfl)) dX0_line_94 ⟨Nat.zero_le _, Nat.zero_le _⟩) (fun H locs hP hD hS => ?_)
      clear hC
      refine lv_if_eq (tgt := 110) hx hb dX0_line_97 (by decide) (fun c13 => ?_) (fun c13 => ?_)
      · have h := it_t h c13
        exact N110  S1 S2 x3 v10 _ _ _ h hP hD hS (lv_sub hl [1, 2, 3, 0] rfl)
      · have h := it_f h c13
        refine lv_aload_n hx hb dX0_line_100 rfl (lv_at hl 1 rfl) ?_
        refine va_get (D := E.1) (ci := 0) (v := .ref (q1 0)) (C := RX0) (T := TX0) (N := 1) hx hb hg in_X0 hown X.1 hP 0 rfl rfl 0 (by decide) (hg _ wf_X0_12) (fun _ h9 => h9) rfl dX0_line_101 ?_
        refine lv_bipush (v := 6) hx hb dX0_line_104 (by decide) ?_
        obtain ⟨u14, hc, h⟩ := bd_el h
        have hC : ([1, 2] : List Nat).map (fun i => (cw_X0 E q0 (q1 0) ++ (cw_X9 E q1 S1 ++ (cw_X7 E q2 S2)))[i]?) = (cw_X9 E q1 S1).map some := rfl
        refine ct_i (ws' := cw_X0 E q0 (q1 0) ++ (cw_X9 E q1 u14.2 ++ (cw_X7 E q2 S2))) X hP hD hS [1, 2] (va_runV (C := RX9) (As := [.int 6]) (rest := []) ⟨hx, hb, hml, hown, hg⟩ (c_X9_fail l E q1 H.size S1 6 u14 hc) (cwV 1 hg (gwV wm_X0_47 wi_X9_fail wsl_X9_fail wini_X9 wco_X9_fail) rfl rfl rfl (by decide +kernel) ⟨Nat.le_of_ble_eq_true rfl, Nat.le_of_ble_eq_true rfl⟩) ⟨ct_blind, ct_rv X.1 hP 1 rfl rfl, ct_pre X hP hD hS [1, 2] (by decide) hC _⟩ rfl rfl hl.1 rfl (lv_room (Nat.le_of_ble_eq_true rfl)) dX0_line_106 ⟨Nat.zero_le _, Nat.zero_le _⟩) hC rfl rfl (fun H locs hP hD hS => ?_)
        clear hC
        obtain ⟨hn1, -, h⟩ := zb_el h
        exact RT u14.1 u14.2 S2 _ _ _ _ h hn1 hP hD hS dX0_line_109
    · have h := it_f h c11
      refine lv_aload_n hx hb dX0_line_79 rfl (lv_at hl 2 rfl) ?_
      refine lv_iload hx hb dX0_line_80 (lv_at hl 0 rfl) ?_
      obtain ⟨u15, hc, h⟩ := bd_el h
      have hC : ([3, 4, 5, 6, 7, 8, 9, 10] : List Nat).map (fun i => (cw_X0 E q0 (q1 0) ++ (cw_X9 E q1 S1 ++ (cw_X7 E q2 S2)))[i]?) = (cw_X7 E q2 S2).map some := rfl
      refine ct_iR X hP hD hS [3, 4, 5, 6, 7, 8, 9, 10] hC (va_runV (C := RX7) (As := [.int v10]) (rest := []) ⟨hx, hb, hml, hown, hg⟩ (c_X7_hasWeb l E q2 H.size S2 v10 u15 hc) (cwV 1 hg (gwV wm_X0_50 wi_X7_hasWeb wsl_X7_hasWeb wini_X7 wco_X7_hasWeb) rfl rfl rfl (by decide +kernel) ⟨Nat.le_of_ble_eq_true rfl, Nat.le_of_ble_eq_true rfl⟩) ⟨ct_blind, ct_rv X.1 hP 3 rfl rfl, ct_pre X hP hD hS [3, 4, 5, 6, 7, 8, 9, 10] (by decide) hC _⟩ rfl rfl hl.1 rfl (lv_room (Nat.le_of_ble_eq_true rfl)) dX0_line_82 ⟨Nat.zero_le _, Nat.zero_le _⟩) (fun H locs hP hD hS => ?_)
      clear hC
      refine lv_if_eq (tgt := 110) hx hb dX0_line_85 (by decide) (fun c16 => ?_) (fun c16 => ?_)
      · have h := it_t h c16
        exact N110  S1 S2 x3 v10 _ _ _ h hP hD hS (lv_sub hl [1, 2, 3, 0] rfl)
      · have h := it_f h c16
        refine lv_goto (tgt := 100) hx hb dX0_line_88 (by decide) ?_
        refine lv_aload_n hx hb dX0_line_100 rfl (lv_at hl 1 rfl) ?_
        refine va_get (D := E.1) (ci := 0) (v := .ref (q1 0)) (C := RX0) (T := TX0) (N := 1) hx hb hg in_X0 hown X.1 hP 0 rfl rfl 0 (by decide) (hg _ wf_X0_12) (fun _ h9 => h9) rfl dX0_line_101 ?_
        refine lv_bipush (v := 6) hx hb dX0_line_104 (by decide) ?_
        obtain ⟨u17, hc, h⟩ := bd_el h
        have hC : ([1, 2] : List Nat).map (fun i => (cw_X0 E q0 (q1 0) ++ (cw_X9 E q1 S1 ++ (cw_X7 E q2 S2)))[i]?) = (cw_X9 E q1 S1).map some := rfl
        refine ct_i (ws' := cw_X0 E q0 (q1 0) ++ (cw_X9 E q1 u17.2 ++ (cw_X7 E q2 S2))) X hP hD hS [1, 2] (va_runV (C := RX9) (As := [.int 6]) (rest := []) ⟨hx, hb, hml, hown, hg⟩ (c_X9_fail l E q1 H.size S1 6 u17 hc) (cwV 1 hg (gwV wm_X0_47 wi_X9_fail wsl_X9_fail wini_X9 wco_X9_fail) rfl rfl rfl (by decide +kernel) ⟨Nat.le_of_ble_eq_true rfl, Nat.le_of_ble_eq_true rfl⟩) ⟨ct_blind, ct_rv X.1 hP 1 rfl rfl, ct_pre X hP hD hS [1, 2] (by decide) hC _⟩ rfl rfl hl.1 rfl (lv_room (Nat.le_of_ble_eq_true rfl)) dX0_line_106 ⟨Nat.zero_le _, Nat.zero_le _⟩) hC rfl rfl (fun H locs hP hD hS => ?_)
        clear hC
        obtain ⟨hn1, -, h⟩ := zb_el h
        exact RT u17.1 u17.2 S2 _ _ _ _ h hn1 hP hD hS dX0_line_109
  have N39 : ∀ (S1 : Gr) (S2 : Gr) (x3 : Int32) (H : Heap) (locs : List Loc) (ls : Array Slot), f_X0_line_n39 x2 S1 S2 x3 = some Rv → va_P E.1 vwCl (cw_X0 E q0 (q1 0) ++ (cw_X9 E q1 S1 ++ (cw_X7 E q2 S2))) H → va_D A (cw_X0 E q0 (q1 0) ++ (cw_X9 E q1 S1 ++ (cw_X7 E q2 S2))) → va_S A s.heap H locs → lv_has ls 7 [(0, .ref (q0 0)), (1, .ref (q2 0)), (2, .int x2), (3, .int x3)] → W p l e ({ frames := 3, cells := 0, slots := 0, locals := 73 } : Room) s m ar below meth c H locs 0 0 QM (F0 m 39 ls []) := by
    intro S1 S2 x3 H locs ls h hP hD hS hl
    refine lv_iload_n hx hb dX0_line_39 rfl (lv_at hl 2 rfl) ?_
    refine lv_bipush (v := 24) hx hb dX0_line_40 (by decide) ?_
    refine lv_icmp_le (tgt := 54) hx hb dX0_line_42 (by decide) (fun c6 => ?_) (fun c6 => ?_)
    · have h := it_t h c6
      refine lv_aload_n hx hb dX0_line_54 rfl (lv_at hl 0 rfl) ?_
      refine va_get (D := E.1) (ci := 0) (v := .ref (q1 0)) (C := RX0) (T := TX0) (N := 1) hx hb hg in_X0 hown X.1 hP 0 rfl rfl 0 (by decide) (hg _ wf_X0_12) (fun _ h9 => h9) rfl dX0_line_55 ?_
      obtain ⟨u7, hc, h⟩ := bd_el h
      have hC : ([1, 2] : List Nat).map (fun i => (cw_X0 E q0 (q1 0) ++ (cw_X9 E q1 S1 ++ (cw_X7 E q2 S2)))[i]?) = (cw_X9 E q1 S1).map some := rfl
      refine ct_iR X hP hD hS [1, 2] hC (va_runV (C := RX9) (As := []) (rest := []) ⟨hx, hb, hml, hown, hg⟩ (c_X9_peek l E q1 H.size S1 u7 hc) (cwV 0 hg (gwV wm_X0_35 wi_X9_peek wsl_X9_peek wini_X9 wco_X9_peek) rfl rfl rfl (by decide +kernel) ⟨Nat.le_of_ble_eq_true rfl, Nat.le_of_ble_eq_true rfl⟩) ⟨ct_blind, ct_rv X.1 hP 1 rfl rfl, ct_pre X hP hD hS [1, 2] (by decide) hC _⟩ rfl rfl hl.1 rfl (lv_room (Nat.le_of_ble_eq_true rfl)) dX0_line_58 ⟨Nat.zero_le _, Nat.zero_le _⟩) (fun H locs hP hD hS => ?_)
      clear hC
      refine lv_iload_n hx hb dX0_line_61 rfl (lv_at hl 3 rfl) ?_
      refine lv_if_eq (tgt := 70) hx hb dX0_line_62 (by decide) (fun c8 => ?_) (fun c8 => ?_)
      · have h := it_t h c8
        refine lv_bipush (v := 65) hx hb dX0_line_70 (by decide) ?_
        exact N72  S1 S2 x3 65 u7 _ _ _ h hP hD hS (lv_sub hl [0, 1, 3] rfl)
      · have h := it_f h c8
        refine lv_bipush (v := 97) hx hb dX0_line_65 (by decide) ?_
        refine lv_goto (tgt := 72) hx hb dX0_line_67 (by decide) ?_
        exact N72  S1 S2 x3 97 u7 _ _ _ h hP hD hS (lv_sub hl [0, 1, 3] rfl)
    · have h := it_f h c6
      refine lv_aload_n hx hb dX0_line_45 rfl (lv_at hl 0 rfl) ?_
      refine va_get (D := E.1) (ci := 0) (v := .ref (q1 0)) (C := RX0) (T := TX0) (N := 1) hx hb hg in_X0 hown X.1 hP 0 rfl rfl 0 (by decide) (hg _ wf_X0_12) (fun _ h9 => h9) rfl dX0_line_46 ?_
      refine lv_iconst (v := 4) hx hb dX0_line_49 (by decide) ?_
      obtain ⟨u9, hc, h⟩ := bd_el h
      have hC : ([1, 2] : List Nat).map (fun i => (cw_X0 E q0 (q1 0) ++ (cw_X9 E q1 S1 ++ (cw_X7 E q2 S2)))[i]?) = (cw_X9 E q1 S1).map some := rfl
      refine ct_i (ws' := cw_X0 E q0 (q1 0) ++ (cw_X9 E q1 u9.2 ++ (cw_X7 E q2 S2))) X hP hD hS [1, 2] (va_runV (C := RX9) (As := [.int 4]) (rest := []) ⟨hx, hb, hml, hown, hg⟩ (c_X9_fail l E q1 H.size S1 4 u9 hc) (cwV 1 hg (gwV wm_X0_47 wi_X9_fail wsl_X9_fail wini_X9 wco_X9_fail) rfl rfl rfl (by decide +kernel) ⟨Nat.le_of_ble_eq_true rfl, Nat.le_of_ble_eq_true rfl⟩) ⟨ct_blind, ct_rv X.1 hP 1 rfl rfl, ct_pre X hP hD hS [1, 2] (by decide) hC _⟩ rfl rfl hl.1 rfl (lv_room (Nat.le_of_ble_eq_true rfl)) dX0_line_50 ⟨Nat.zero_le _, Nat.zero_le _⟩) hC rfl rfl (fun H locs hP hD hS => ?_)
      clear hC
      obtain ⟨hn1, -, h⟩ := zb_el h
      exact RT u9.1 u9.2 S2 _ _ _ _ h hn1 hP hD hS dX0_line_53
  obtain ⟨H, eH⟩ : ∃ z, z = s.heap := ⟨_, rfl⟩
  rw [← eH]
  have hP : va_P E.1 vwCl (cw_X0 E q0 (q1 0) ++ (cw_X9 E q1 S1 ++ (cw_X7 E q2 S2))) H := by rw [eH]; exact hP
  have hS : va_S A s.heap H [] := by rw [eH]; exact hS
  clear eH
  obtain ⟨locs, el⟩ : ∃ z : List Loc, z = [] := ⟨_, rfl⟩
  rw [← el] at hS ⊢
  clear el
  refine lv_aload_n hx hb dX0_line_0 rfl (lv_at hl 0 rfl) ?_
  refine va_get (D := E.1) (ci := 0) (v := .ref (q1 0)) (C := RX0) (T := TX0) (N := 1) hx hb hg in_X0 hown X.1 hP 0 rfl rfl 0 (by decide) (hg _ wf_X0_12) (fun _ h9 => h9) rfl dX0_line_1 ?_
  refine lv_bipush (v := 97) hx hb dX0_line_4 (by decide) ?_
  refine lv_bipush (v := 104) hx hb dX0_line_6 (by decide) ?_
  obtain ⟨u1, hc, h⟩ := bd_el h
  have hC : ([1, 2] : List Nat).map (fun i => (cw_X0 E q0 (q1 0) ++ (cw_X9 E q1 S1 ++ (cw_X7 E q2 S2)))[i]?) = (cw_X9 E q1 S1).map some := rfl
  refine ct_iR X hP hD hS [1, 2] hC (va_runV (C := RX9) (As := [.int 97, .int 104]) (rest := []) ⟨hx, hb, hml, hown, hg⟩ (c_X9_isAt l E q1 H.size S1 97 104 u1 hc) (cwV 2 hg (gwV wm_X0_43 wi_X9_isAt wsl_X9_isAt wini_X9 wco_X9_isAt) rfl rfl rfl (by decide +kernel) ⟨Nat.le_of_ble_eq_true rfl, Nat.le_of_ble_eq_true rfl⟩) ⟨ct_blind, ct_rv X.1 hP 1 rfl rfl, ct_pre X hP hD hS [1, 2] (by decide) hC _⟩ rfl rfl hl.1 rfl (lv_room (Nat.le_of_ble_eq_true rfl)) dX0_line_8 ⟨Nat.zero_le _, Nat.zero_le _⟩) (fun H locs hP hD hS => ?_)
  clear hC
  refine lv_istore_n (lv' := [(3, .int u1), (0, .ref (q0 0)), (1, .ref (q2 0)), (2, .int x2)]) hx hb dX0_line_11 rfl hl (by decide) rfl (fun ls hl => ?_)
  refine lv_iload_n hx hb dX0_line_12 rfl (lv_at hl 0 rfl) ?_
  refine lv_if_ne (tgt := 39) hx hb dX0_line_13 (by decide) (fun c2 => ?_) (fun c2 => ?_)
  · have h := it_f h c2
    exact N39  S1 S2 u1 _ _ _ h hP hD hS (lv_sub hl [1, 2, 3, 0] rfl)
  · have h := it_t h c2
    refine lv_aload_n hx hb dX0_line_16 rfl (lv_at hl 1 rfl) ?_
    refine va_get (D := E.1) (ci := 0) (v := .ref (q1 0)) (C := RX0) (T := TX0) (N := 1) hx hb hg in_X0 hown X.1 hP 0 rfl rfl 0 (by decide) (hg _ wf_X0_12) (fun _ h9 => h9) rfl dX0_line_17 ?_
    refine lv_bipush (v := 65) hx hb dX0_line_20 (by decide) ?_
    refine lv_bipush (v := 72) hx hb dX0_line_22 (by decide) ?_
    obtain ⟨u3, hc, h⟩ := bd_el h
    have hC : ([1, 2] : List Nat).map (fun i => (cw_X0 E q0 (q1 0) ++ (cw_X9 E q1 S1 ++ (cw_X7 E q2 S2)))[i]?) = (cw_X9 E q1 S1).map some := rfl
    refine ct_iR X hP hD hS [1, 2] hC (va_runV (C := RX9) (As := [.int 65, .int 72]) (rest := []) ⟨hx, hb, hml, hown, hg⟩ (c_X9_isAt l E q1 H.size S1 65 72 u3 hc) (cwV 2 hg (gwV wm_X0_43 wi_X9_isAt wsl_X9_isAt wini_X9 wco_X9_isAt) rfl rfl rfl (by decide +kernel) ⟨Nat.le_of_ble_eq_true rfl, Nat.le_of_ble_eq_true rfl⟩) ⟨ct_blind, ct_rv X.1 hP 1 rfl rfl, ct_pre X hP hD hS [1, 2] (by decide) hC _⟩ rfl rfl hl.1 rfl (lv_room (Nat.le_of_ble_eq_true rfl)) dX0_line_24 ⟨Nat.zero_le _, Nat.zero_le _⟩) (fun H locs hP hD hS => ?_)
    clear hC
    refine lv_if_ne (tgt := 39) hx hb dX0_line_27 (by decide) (fun c4 => ?_) (fun c4 => ?_)
    · have h := it_f h c4
      exact N39  S1 S2 u1 _ _ _ h hP hD hS (lv_sub hl [1, 2, 3, 0] rfl)
    · have h := it_t h c4
      refine lv_aload_n hx hb dX0_line_30 rfl (lv_at hl 1 rfl) ?_
      refine va_get (D := E.1) (ci := 0) (v := .ref (q1 0)) (C := RX0) (T := TX0) (N := 1) hx hb hg in_X0 hown X.1 hP 0 rfl rfl 0 (by decide) (hg _ wf_X0_12) (fun _ h9 => h9) rfl dX0_line_31 ?_
      refine lv_iconst (v := 1) hx hb dX0_line_34 (by decide) ?_
      obtain ⟨u5, hc, h⟩ := bd_el h
      have hC : ([1, 2] : List Nat).map (fun i => (cw_X0 E q0 (q1 0) ++ (cw_X9 E q1 S1 ++ (cw_X7 E q2 S2)))[i]?) = (cw_X9 E q1 S1).map some := rfl
      refine ct_i (ws' := cw_X0 E q0 (q1 0) ++ (cw_X9 E q1 u5.2 ++ (cw_X7 E q2 S2))) X hP hD hS [1, 2] (va_runV (C := RX9) (As := [.int 1]) (rest := []) ⟨hx, hb, hml, hown, hg⟩ (c_X9_fail l E q1 H.size S1 1 u5 hc) (cwV 1 hg (gwV wm_X0_47 wi_X9_fail wsl_X9_fail wini_X9 wco_X9_fail) rfl rfl rfl (by decide +kernel) ⟨Nat.le_of_ble_eq_true rfl, Nat.le_of_ble_eq_true rfl⟩) ⟨ct_blind, ct_rv X.1 hP 1 rfl rfl, ct_pre X hP hD hS [1, 2] (by decide) hC _⟩ rfl rfl hl.1 rfl (lv_room (Nat.le_of_ble_eq_true rfl)) dX0_line_35 ⟨Nat.zero_le _, Nat.zero_le _⟩) hC rfl rfl (fun H locs hP hD hS => ?_)
      clear hC
      obtain ⟨hn1, -, h⟩ := zb_el h
      exact RT u5.1 u5.2 S2 _ _ _ _ h hn1 hP hD hS dX0_line_38
theorem dX0_read_0 : decode cX0_read 0 = .ok (.aload_n 0, 1) := by decide +kernel
theorem dX0_read_1 : decode cX0_read 1 = .ok (.getfield 12, 3) := by decide +kernel
theorem dX0_read_4 : decode cX0_read 4 = .ok (.aload_n 1, 1) := by decide +kernel
theorem dX0_read_5 : decode cX0_read 5 = .ok (.iload_n 2, 1) := by decide +kernel
theorem dX0_read_6 : decode cX0_read 6 = .ok (.invokevirtual 18, 3) := by decide +kernel
theorem dX0_read_9 : decode cX0_read 9 = .ok (.aload_n 3, 1) := by decide +kernel
theorem dX0_read_10 : decode cX0_read 10 = .ok (.invokevirtual 22, 3) := by decide +kernel
theorem dX0_read_13 : decode cX0_read 13 = .ok (.iconst 1, 1) := by decide +kernel
theorem dX0_read_14 : decode cX0_read 14 = .ok (.istore 4, 2) := by decide +kernel
theorem dX0_read_16 : decode cX0_read 16 = .ok (.iload 4, 2) := by decide +kernel
theorem dX0_read_18 : decode cX0_read 18 = .ok (.sipush 160, 3) := by decide +kernel
theorem dX0_read_21 : decode cX0_read 21 = .ok (.if_icmp .gt 61, 3) := by decide +kernel
theorem dX0_read_24 : decode cX0_read 24 = .ok (.aload_n 0, 1) := by decide +kernel
theorem dX0_read_25 : decode cX0_read 25 = .ok (.aload_n 3, 1) := by decide +kernel
theorem dX0_read_26 : decode cX0_read 26 = .ok (.iload 4, 2) := by decide +kernel
theorem dX0_read_28 : decode cX0_read 28 = .ok (.invokevirtual 27, 3) := by decide +kernel
theorem dX0_read_31 : decode cX0_read 31 = .ok (.ifCond .ne 11, 3) := by decide +kernel
theorem dX0_read_34 : decode cX0_read 34 = .ok (.aload_n 0, 1) := by decide +kernel
theorem dX0_read_35 : decode cX0_read 35 = .ok (.getfield 12, 3) := by decide +kernel
theorem dX0_read_38 : decode cX0_read 38 = .ok (.getfield 31, 3) := by decide +kernel
theorem dX0_read_41 : decode cX0_read 41 = .ok (.ireturn, 1) := by decide +kernel
theorem dX0_read_42 : decode cX0_read 42 = .ok (.aload_n 0, 1) := by decide +kernel
theorem dX0_read_43 : decode cX0_read 43 = .ok (.getfield 12, 3) := by decide +kernel
theorem dX0_read_46 : decode cX0_read 46 = .ok (.invokevirtual 35, 3) := by decide +kernel
theorem dX0_read_49 : decode cX0_read 49 = .ok (.iconst (-1), 1) := by decide +kernel
theorem dX0_read_50 : decode cX0_read 50 = .ok (.if_icmp .ne 6, 3) := by decide +kernel
theorem dX0_read_53 : decode cX0_read 53 = .ok (.iload 4, 2) := by decide +kernel
theorem dX0_read_55 : decode cX0_read 55 = .ok (.ireturn, 1) := by decide +kernel
theorem dX0_read_56 : decode cX0_read 56 = .ok (.aload_n 0, 1) := by decide +kernel
theorem dX0_read_57 : decode cX0_read 57 = .ok (.getfield 12, 3) := by decide +kernel
theorem dX0_read_60 : decode cX0_read 60 = .ok (.bipush 59, 2) := by decide +kernel
theorem dX0_read_62 : decode cX0_read 62 = .ok (.invokevirtual 39, 3) := by decide +kernel
theorem dX0_read_65 : decode cX0_read 65 = .ok (.ifCond .ne 11, 3) := by decide +kernel
theorem dX0_read_68 : decode cX0_read 68 = .ok (.aload_n 0, 1) := by decide +kernel
theorem dX0_read_69 : decode cX0_read 69 = .ok (.getfield 12, 3) := by decide +kernel
theorem dX0_read_72 : decode cX0_read 72 = .ok (.getfield 31, 3) := by decide +kernel
theorem dX0_read_75 : decode cX0_read 75 = .ok (.ireturn, 1) := by decide +kernel
theorem dX0_read_76 : decode cX0_read 76 = .ok (.iinc 4 1, 3) := by decide +kernel
theorem dX0_read_79 : decode cX0_read 79 = .ok (.goto (-63), 3) := by decide +kernel
theorem dX0_read_82 : decode cX0_read 82 = .ok (.aload_n 0, 1) := by decide +kernel
theorem dX0_read_83 : decode cX0_read 83 = .ok (.getfield 12, 3) := by decide +kernel
theorem dX0_read_86 : decode cX0_read 86 = .ok (.getfield 31, 3) := by decide +kernel
theorem dX0_read_89 : decode cX0_read 89 = .ok (.ireturn, 1) := by decide +kernel
def f_X0_read_n16 (S2 : Gr) (x2 : Int32) : Nat → Gr → Gr → Int32 → Option (Int32 × Gr × Gr)
  | 0, _, _, _ => none
  | n + 1, S1, S3, x4 => if 160 < x4 then (some ((S1.1 3), S1, S3)) else ((f_X0_line S1 S3 x4).bind fun u4 => if u4.1 = 0 then (some ((u4.2.1.1 3), u4.2.1, u4.2.2)) else ((f_X9_peek u4.2.1).bind fun u6 => if u6 = (-1) then (some (x4, u4.2.1, u4.2.2)) else ((f_X9_stepOver u4.2.1 59).bind fun u8 => if u8.1 = 0 then (some ((u8.2.1 3), u8.2, u4.2.2)) else (lt' (x4 + 1) fun v10 => f_X0_read_n16 S2 x2 n u8.2 u4.2.2 v10))))
def f_X0_read (S1 : Gr) (S2 : Gr) (S3 : Gr) (x2 : Int32) : Option (Int32 × Gr × Gr) := (f_X9_take S1 S2 x2).bind fun u1 => (f_X7_clearChart S3).bind fun u2 => f_X0_read_n16 S2 x2 fu u1 u2 1
set_option maxHeartbeats 4000000 in
set_option maxRecDepth 100000 in
theorem c_X0_read (l : Launch) (E : Ec) (q0 q1 q2 q3 : Nat → Nat) (sz : Nat) (S1 : Gr) (S2 : Gr) (S3 : Gr) (x2 : Int32) (Rv : Int32 × Gr × Gr) (h : f_X0_read S1 S2 S3 x2 = some Rv) : Met l yX0_read (wsM (.code yX0_read cX0_read 5 (some .int))) ({ frames := 4, cells := 0, slots := 0, locals := 99 } : Room) (va_Pc [.ref (q0 0), .ref (q2 0), .int x2, .ref (q3 0)] (ctP E (cw_X0 E q0 (q1 0) ++ (cw_X9 E q1 S1 ++ (cw_X8 E q2 S2 ++ (cw_X7 E q3 S3)))) sz)) (ctI E (cw_X0 E q0 (q1 0) ++ (cw_X9 E q1 S1 ++ (cw_X8 E q2 S2 ++ (cw_X7 E q3 S3)))) (cw_X0 E q0 (q1 0) ++ (cw_X9 E q1 Rv.2.1 ++ (cw_X8 E q2 S2 ++ (cw_X7 E q3 Rv.2.2)))) sz Rv.1) 0 0 (va_A (cw_X0 E q0 (q1 0) ++ (cw_X9 E q1 S1 ++ (cw_X8 E q2 S2 ++ (cw_X7 E q3 S3)))) sz) := by
  refine ct_metI (by decide) (Nat.le_of_ble_eq_true rfl) ?_
  intro p e s m ar below meth c A QM hx hb hml hown hg X hP hD hS RET ls hl
  have hown : s.vm.findClass RX0 = some m.cls := hown
  have hl : lv_has ls 5 [(0, .ref (q0 0)), (1, .ref (q2 0)), (2, .int x2), (3, .ref (q3 0))] := hl
  have RT : ∀ (v : Int32) (S1 : Gr) (S3 : Gr) (H : Heap) (locs : List Loc) (ls : Array Slot) (pc : Nat), some (v, S1, S3) = some Rv → narrow .int (.int v) = .int v → va_P E.1 vwCl (cw_X0 E q0 (q1 0) ++ (cw_X9 E q1 S1 ++ (cw_X8 E q2 S2 ++ (cw_X7 E q3 S3)))) H → va_D A (cw_X0 E q0 (q1 0) ++ (cw_X9 E q1 S1 ++ (cw_X8 E q2 S2 ++ (cw_X7 E q3 S3)))) → va_S A s.heap H locs → decode cX0_read pc = .ok (.ireturn, 1) → W p l e ({ frames := 4, cells := 0, slots := 0, locals := 99 } : Room) s m ar below meth c H locs 0 0 QM (F0 m pc ls [.int v]) := by
    intro v S1 S3 H locs ls pc e hn hP hD hS d
    obtain rfl := sm_e e
    exact RET H locs pc ls hn hP hD hS d
  clear RET
  have N16 : ∀ (n : Nat) (S1 : Gr) (S3 : Gr) (x4 : Int32) (H : Heap) (locs : List Loc) (ls : Array Slot), f_X0_read_n16 S2 x2 n S1 S3 x4 = some Rv → va_P E.1 vwCl (cw_X0 E q0 (q1 0) ++ (cw_X9 E q1 S1 ++ (cw_X8 E q2 S2 ++ (cw_X7 E q3 S3)))) H → va_D A (cw_X0 E q0 (q1 0) ++ (cw_X9 E q1 S1 ++ (cw_X8 E q2 S2 ++ (cw_X7 E q3 S3)))) → va_S A s.heap H locs → lv_has ls 5 [(0, .ref (q0 0)), (3, .ref (q3 0)), (4, .int x4)] → W p l e ({ frames := 4, cells := 0, slots := 0, locals := 99 } : Room) s m ar below meth c H locs 0 0 QM (F0 m 16 ls []) := by
    intro n
    induction n with
    | zero => intro S1 S3 x4 H locs ls h; exact nn_el h
    | succ n ih =>
      intro S1 S3 x4 H locs ls h hP hD hS hl
      refine lv_iload hx hb dX0_read_16 (lv_at hl 2 rfl) ?_
      refine lv_sipush (v := 160) hx hb dX0_read_18 (by decide) ?_
      refine lv_icmp_gt (tgt := 82) hx hb dX0_read_21 (by decide) (fun c3 => ?_) (fun c3 => ?_)
      · have h := it_t h c3
        refine lv_aload_n hx hb dX0_read_82 rfl (lv_at hl 0 rfl) ?_
        refine va_get (D := E.1) (ci := 0) (v := .ref (q1 0)) (C := RX0) (T := TX0) (N := 1) hx hb hg in_X0 hown X.1 hP 0 rfl rfl 0 (by decide) (hg _ wf_X0_12) (fun _ h9 => h9) rfl dX0_read_83 ?_
        refine va_getN (D := E.1) (ci := 8) (v := .int (S1.1 3)) (C := RX9) (T := TX9) (N := 4) hx hb hg in_X9 hown X.1 hP 1 rfl rfl 3 (by decide) (va_Nw.use rfl (nf_X0_31 X.2.1)) (fun _ h9 => h9) rfl dX0_read_86 ?_
        exact RT (S1.1 3) S1 S3 _ _ _ _ h rfl hP hD hS dX0_read_89
      · have h := it_f h c3
        refine lv_aload_n hx hb dX0_read_24 rfl (lv_at hl 0 rfl) ?_
        refine lv_aload_n hx hb dX0_read_25 rfl (lv_at hl 1 rfl) ?_
        refine lv_iload hx hb dX0_read_26 (lv_at hl 2 rfl) ?_
        obtain ⟨u4, hc, h⟩ := bd_el h
        have hC : ([0, 1, 2, 5, 6, 7, 8, 9, 10, 11, 12] : List Nat).map (fun i => (cw_X0 E q0 (q1 0) ++ (cw_X9 E q1 S1 ++ (cw_X8 E q2 S2 ++ (cw_X7 E q3 S3))))[i]?) = (cw_X0 E q0 (q1 0) ++ (cw_X9 E q1 S1 ++ (cw_X7 E q3 S3))).map some := rfl
        refine ct_i (ws' := cw_X0 E q0 (q1 0) ++ (cw_X9 E q1 u4.2.1 ++ (cw_X8 E q2 S2 ++ (cw_X7 E q3 u4.2.2)))) X hP hD hS [0, 1, 2, 5, 6, 7, 8, 9, 10, 11, 12] (va_runV (C := RX0) (As := [.ref (q3 0), .int x4]) (rest := []) ⟨hx, hb, hml, hown, hg⟩ (c_X0_line l E q0 q1 q3 H.size S1 S3 x4 u4 hc) (cwV 2 hg (gwV wm_X0_27 wi_X0_line wsl_X0_line wini_X0 wco_X0_line) rfl rfl rfl (by decide +kernel) ⟨Nat.le_of_ble_eq_true rfl, Nat.le_of_ble_eq_true rfl⟩) ⟨ct_blind, ct_rv X.1 hP 0 rfl rfl, ct_pre X hP hD hS [0, 1, 2, 5, 6, 7, 8, 9, 10, 11, 12] (by decide) hC _⟩ rfl rfl hl.1 rfl (lv_room (Nat.le_of_ble_eq_true rfl)) dX0_read_28 ⟨Nat.zero_le _, Nat.zero_le _⟩) hC rfl rfl (fun H locs hP hD hS => ?_)
        clear hC
        refine lv_if_ne (tgt := 42) hx hb dX0_read_31 (by decide) (fun c5 => ?_) (fun c5 => ?_)
        · have h := it_f h c5
          refine lv_aload_n hx hb dX0_read_42 rfl (lv_at hl 0 rfl) ?_
          refine va_get (D := E.1) (ci := 0) (v := .ref (q1 0)) (C := RX0) (T := TX0) (N := 1) hx hb hg in_X0 hown X.1 hP 0 rfl rfl 0 (by decide) (hg _ wf_X0_12) (fun _ h9 => h9) rfl dX0_read_43 ?_
          obtain ⟨u6, hc, h⟩ := bd_el h
          have hC : ([1, 2] : List Nat).map (fun i => (cw_X0 E q0 (q1 0) ++ (cw_X9 E q1 u4.2.1 ++ (cw_X8 E q2 S2 ++ (cw_X7 E q3 u4.2.2))))[i]?) = (cw_X9 E q1 u4.2.1).map some := rfl
          refine ct_iR X hP hD hS [1, 2] hC (va_runV (C := RX9) (As := []) (rest := []) ⟨hx, hb, hml, hown, hg⟩ (c_X9_peek l E q1 H.size u4.2.1 u6 hc) (cwV 0 hg (gwV wm_X0_35 wi_X9_peek wsl_X9_peek wini_X9 wco_X9_peek) rfl rfl rfl (by decide +kernel) ⟨Nat.le_of_ble_eq_true rfl, Nat.le_of_ble_eq_true rfl⟩) ⟨ct_blind, ct_rv X.1 hP 1 rfl rfl, ct_pre X hP hD hS [1, 2] (by decide) hC _⟩ rfl rfl hl.1 rfl (lv_room (Nat.le_of_ble_eq_true rfl)) dX0_read_46 ⟨Nat.zero_le _, Nat.zero_le _⟩) (fun H locs hP hD hS => ?_)
          clear hC
          refine lv_iconst (v := (-1)) hx hb dX0_read_49 (by decide) ?_
          refine lv_icmp_ne (tgt := 56) hx hb dX0_read_50 (by decide) (fun c7 => ?_) (fun c7 => ?_)
          · have h := it_f h c7
            refine lv_aload_n hx hb dX0_read_56 rfl (lv_at hl 0 rfl) ?_
            refine va_get (D := E.1) (ci := 0) (v := .ref (q1 0)) (C := RX0) (T := TX0) (N := 1) hx hb hg in_X0 hown X.1 hP 0 rfl rfl 0 (by decide) (hg _ wf_X0_12) (fun _ h9 => h9) rfl dX0_read_57 ?_
            refine lv_bipush (v := 59) hx hb dX0_read_60 (by decide) ?_
            obtain ⟨u8, hc, h⟩ := bd_el h
            have hC : ([1, 2] : List Nat).map (fun i => (cw_X0 E q0 (q1 0) ++ (cw_X9 E q1 u4.2.1 ++ (cw_X8 E q2 S2 ++ (cw_X7 E q3 u4.2.2))))[i]?) = (cw_X9 E q1 u4.2.1).map some := rfl
            refine ct_i (ws' := cw_X0 E q0 (q1 0) ++ (cw_X9 E q1 u8.2 ++ (cw_X8 E q2 S2 ++ (cw_X7 E q3 u4.2.2)))) X hP hD hS [1, 2] (va_runV (C := RX9) (As := [.int 59]) (rest := []) ⟨hx, hb, hml, hown, hg⟩ (c_X9_stepOver l E q1 H.size u4.2.1 59 u8 hc) (cwV 1 hg (gwV wm_X0_39 wi_X9_stepOver wsl_X9_stepOver wini_X9 wco_X9_stepOver) rfl rfl rfl (by decide +kernel) ⟨Nat.le_of_ble_eq_true rfl, Nat.le_of_ble_eq_true rfl⟩) ⟨ct_blind, ct_rv X.1 hP 1 rfl rfl, ct_pre X hP hD hS [1, 2] (by decide) hC _⟩ rfl rfl hl.1 rfl (lv_room (Nat.le_of_ble_eq_true rfl)) dX0_read_62 ⟨Nat.zero_le _, Nat.zero_le _⟩) hC rfl rfl (fun H locs hP hD hS => ?_)
            clear hC
            refine lv_if_ne (tgt := 76) hx hb dX0_read_65 (by decide) (fun c9 => ?_) (fun c9 => ?_)
            · have h := it_f h c9
              obtain ⟨v10, ev10, h⟩ := lt_el h
              refine lv_iinc (v := v10) (lv' := [(4, .int v10), (0, .ref (q0 0)), (3, .ref (q3 0))]) hx hb dX0_read_76 hl (k := 2) rfl (by rw [ev10]; rfl) (by decide) rfl (fun ls hl => ?_)
              refine lv_goto (tgt := 16) hx hb dX0_read_79 (by decide) ?_
              exact ih u8.2 u4.2.2 v10 _ _ _ h hP hD hS (lv_sub hl [1, 2, 0] rfl)
            · have h := it_t h c9
              refine lv_aload_n hx hb dX0_read_68 rfl (lv_at hl 0 rfl) ?_
              refine va_get (D := E.1) (ci := 0) (v := .ref (q1 0)) (C := RX0) (T := TX0) (N := 1) hx hb hg in_X0 hown X.1 hP 0 rfl rfl 0 (by decide) (hg _ wf_X0_12) (fun _ h9 => h9) rfl dX0_read_69 ?_
              refine va_getN (D := E.1) (ci := 8) (v := .int (u8.2.1 3)) (C := RX9) (T := TX9) (N := 4) hx hb hg in_X9 hown X.1 hP 1 rfl rfl 3 (by decide) (va_Nw.use rfl (nf_X0_31 X.2.1)) (fun _ h9 => h9) rfl dX0_read_72 ?_
              exact RT (u8.2.1 3) u8.2 u4.2.2 _ _ _ _ h rfl hP hD hS dX0_read_75
          · have h := it_t h c7
            refine lv_iload hx hb dX0_read_53 (lv_at hl 2 rfl) ?_
            exact RT x4 u4.2.1 u4.2.2 _ _ _ _ h rfl hP hD hS dX0_read_55
        · have h := it_t h c5
          refine lv_aload_n hx hb dX0_read_34 rfl (lv_at hl 0 rfl) ?_
          refine va_get (D := E.1) (ci := 0) (v := .ref (q1 0)) (C := RX0) (T := TX0) (N := 1) hx hb hg in_X0 hown X.1 hP 0 rfl rfl 0 (by decide) (hg _ wf_X0_12) (fun _ h9 => h9) rfl dX0_read_35 ?_
          refine va_getN (D := E.1) (ci := 8) (v := .int (u4.2.1.1 3)) (C := RX9) (T := TX9) (N := 4) hx hb hg in_X9 hown X.1 hP 1 rfl rfl 3 (by decide) (va_Nw.use rfl (nf_X0_31 X.2.1)) (fun _ h9 => h9) rfl dX0_read_38 ?_
          exact RT (u4.2.1.1 3) u4.2.1 u4.2.2 _ _ _ _ h rfl hP hD hS dX0_read_41
  obtain ⟨H, eH⟩ : ∃ z, z = s.heap := ⟨_, rfl⟩
  rw [← eH]
  have hP : va_P E.1 vwCl (cw_X0 E q0 (q1 0) ++ (cw_X9 E q1 S1 ++ (cw_X8 E q2 S2 ++ (cw_X7 E q3 S3)))) H := by rw [eH]; exact hP
  have hS : va_S A s.heap H [] := by rw [eH]; exact hS
  clear eH
  obtain ⟨locs, el⟩ : ∃ z : List Loc, z = [] := ⟨_, rfl⟩
  rw [← el] at hS ⊢
  clear el
  refine lv_aload_n hx hb dX0_read_0 rfl (lv_at hl 0 rfl) ?_
  refine va_get (D := E.1) (ci := 0) (v := .ref (q1 0)) (C := RX0) (T := TX0) (N := 1) hx hb hg in_X0 hown X.1 hP 0 rfl rfl 0 (by decide) (hg _ wf_X0_12) (fun _ h9 => h9) rfl dX0_read_1 ?_
  refine lv_aload_n hx hb dX0_read_4 rfl (lv_at hl 1 rfl) ?_
  refine lv_iload_n hx hb dX0_read_5 rfl (lv_at hl 2 rfl) ?_
  obtain ⟨u1, hc, h⟩ := bd_el h
  have hC : ([1, 2, 3, 4] : List Nat).map (fun i => (cw_X0 E q0 (q1 0) ++ (cw_X9 E q1 S1 ++ (cw_X8 E q2 S2 ++ (cw_X7 E q3 S3))))[i]?) = (cw_X9 E q1 S1 ++ (cw_X8 E q2 S2)).map some := rfl
  refine ct_v (ws' := cw_X0 E q0 (q1 0) ++ (cw_X9 E q1 u1 ++ (cw_X8 E q2 S2 ++ (cw_X7 E q3 S3)))) X hP hD hS [1, 2, 3, 4] (va_runV (C := RX9) (As := [.ref (q2 0), .int x2]) (rest := []) ⟨hx, hb, hml, hown, hg⟩ (c_X9_take l E q1 q2 H.size S1 S2 x2 u1 hc) (cwV 2 hg (gwV wm_X0_18 wi_X9_take wsl_X9_take wini_X9 wco_X9_take) rfl rfl rfl (by decide +kernel) ⟨Nat.le_of_ble_eq_true rfl, Nat.le_of_ble_eq_true rfl⟩) ⟨ct_blind, ct_rv X.1 hP 1 rfl rfl, ct_pre X hP hD hS [1, 2, 3, 4] (by decide) hC _⟩ rfl rfl hl.1 rfl (lv_room (Nat.le_of_ble_eq_true rfl)) dX0_read_6 ⟨Nat.zero_le _, Nat.zero_le _⟩) hC rfl rfl (fun H locs hP hD hS => ?_)
  clear hC
  refine lv_aload_n hx hb dX0_read_9 rfl (lv_at hl 3 rfl) ?_
  obtain ⟨u2, hc, h⟩ := bd_el h
  have hC : ([5, 6, 7, 8, 9, 10, 11, 12] : List Nat).map (fun i => (cw_X0 E q0 (q1 0) ++ (cw_X9 E q1 u1 ++ (cw_X8 E q2 S2 ++ (cw_X7 E q3 S3))))[i]?) = (cw_X7 E q3 S3).map some := rfl
  refine ct_v (ws' := cw_X0 E q0 (q1 0) ++ (cw_X9 E q1 u1 ++ (cw_X8 E q2 S2 ++ (cw_X7 E q3 u2)))) X hP hD hS [5, 6, 7, 8, 9, 10, 11, 12] (va_runV (C := RX7) (As := []) (rest := []) ⟨hx, hb, hml, hown, hg⟩ (c_X7_clearChart l E q3 H.size S3 u2 hc) (cwV 0 hg (gwV wm_X0_22 wi_X7_clearChart wsl_X7_clearChart wini_X7 wco_X7_clearChart) rfl rfl rfl (by decide +kernel) ⟨Nat.le_of_ble_eq_true rfl, Nat.le_of_ble_eq_true rfl⟩) ⟨ct_blind, ct_rv X.1 hP 5 rfl rfl, ct_pre X hP hD hS [5, 6, 7, 8, 9, 10, 11, 12] (by decide) hC _⟩ rfl rfl hl.1 rfl (lv_room (Nat.le_of_ble_eq_true rfl)) dX0_read_10 ⟨Nat.zero_le _, Nat.zero_le _⟩) hC rfl rfl (fun H locs hP hD hS => ?_)
  clear hC
  refine lv_iconst (v := 1) hx hb dX0_read_13 (by decide) ?_
  refine lv_istore (lv' := [(4, .int 1), (0, .ref (q0 0)), (1, .ref (q2 0)), (2, .int x2), (3, .ref (q3 0))]) hx hb dX0_read_14 hl (by decide) rfl (fun ls hl => ?_)
  exact N16 fu u1 u2 1 _ _ _ h hP hD hS (lv_sub hl [1, 4, 0] rfl)
