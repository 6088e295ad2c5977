theorem dX11_allTheSea_0 : decode cX11_allTheSea 0 = .ok (.iload_n 1, 1) := by decide +kernel
theorem dX11_allTheSea_1 : decode cX11_allTheSea 1 = .ok (.iconst 0, 1) := by decide +kernel
theorem dX11_allTheSea_2 : decode cX11_allTheSea 2 = .ok (.bipush 23, 2) := by decide +kernel
theorem dX11_allTheSea_4 : decode cX11_allTheSea 4 = .ok (.invokestatic 89, 3) := by decide +kernel
theorem dX11_allTheSea_7 : decode cX11_allTheSea 7 = .ok (.ifCond .eq 12, 3) := by decide +kernel
theorem dX11_allTheSea_10 : decode cX11_allTheSea 10 = .ok (.iload_n 2, 1) := by decide +kernel
theorem dX11_allTheSea_11 : decode cX11_allTheSea 11 = .ok (.iconst 0, 1) := by decide +kernel
theorem dX11_allTheSea_12 : decode cX11_allTheSea 12 = .ok (.iconst 1, 1) := by decide +kernel
theorem dX11_allTheSea_13 : decode cX11_allTheSea 13 = .ok (.invokestatic 89, 3) := by decide +kernel
theorem dX11_allTheSea_16 : decode cX11_allTheSea 16 = .ok (.ifCond .ne 5, 3) := by decide +kernel
theorem dX11_allTheSea_19 : decode cX11_allTheSea 19 = .ok (.iconst (-1), 1) := by decide +kernel
theorem dX11_allTheSea_20 : decode cX11_allTheSea 20 = .ok (.ireturn, 1) := by decide +kernel
theorem dX11_allTheSea_21 : decode cX11_allTheSea 21 = .ok (.aload_n 0, 1) := by decide +kernel
theorem dX11_allTheSea_22 : decode cX11_allTheSea 22 = .ok (.getfield 40, 3) := by decide +kernel
theorem dX11_allTheSea_25 : decode cX11_allTheSea 25 = .ok (.aload_n 0, 1) := by decide +kernel
theorem dX11_allTheSea_26 : decode cX11_allTheSea 26 = .ok (.getfield 71, 3) := by decide +kernel
theorem dX11_allTheSea_29 : decode cX11_allTheSea 29 = .ok (.iload_n 1, 1) := by decide +kernel
theorem dX11_allTheSea_30 : decode cX11_allTheSea 30 = .ok (.invokevirtual 193, 3) := by decide +kernel
theorem dX11_allTheSea_33 : decode cX11_allTheSea 33 = .ok (.istore_n 3, 1) := by decide +kernel
theorem dX11_allTheSea_34 : decode cX11_allTheSea 34 = .ok (.iload_n 3, 1) := by decide +kernel
theorem dX11_allTheSea_35 : decode cX11_allTheSea 35 = .ok (.bipush (-2), 2) := by decide +kernel
theorem dX11_allTheSea_37 : decode cX11_allTheSea 37 = .ok (.if_icmp .eq 8, 3) := by decide +kernel
theorem dX11_allTheSea_40 : decode cX11_allTheSea 40 = .ok (.iload_n 2, 1) := by decide +kernel
theorem dX11_allTheSea_41 : decode cX11_allTheSea 41 = .ok (.iconst 1, 1) := by decide +kernel
theorem dX11_allTheSea_42 : decode cX11_allTheSea 42 = .ok (.if_icmp .ne 7, 3) := by decide +kernel
theorem dX11_allTheSea_45 : decode cX11_allTheSea 45 = .ok (.iload_n 3, 1) := by decide +kernel
theorem dX11_allTheSea_46 : decode cX11_allTheSea 46 = .ok (.goto 7, 3) := by decide +kernel
theorem dX11_allTheSea_49 : decode cX11_allTheSea 49 = .ok (.iload_n 3, 1) := by decide +kernel
theorem dX11_allTheSea_50 : decode cX11_allTheSea 50 = .ok (.invokestatic 197, 3) := by decide +kernel
theorem dX11_allTheSea_53 : decode cX11_allTheSea 53 = .ok (.ireturn, 1) := by decide +kernel
def f_X11_allTheSea (S0 : Gr) (S1 : Gr) (S2 : Gr) (x1 : Int32) (x2 : Int32) : Option (Int32 × Gr) := (f_X11_within x1 0 23).bind fun u1 => if u1 = 0 then (some ((-1), S1)) else ((f_X11_within x2 0 1).bind fun u3 => if u3 = 0 then (some ((-1), S1)) else ((f_X6_fewestWebs S1 S2 x1).bind fun u5 => if u5.1 = (-2) then (some (u5.1, u5.2)) else (if x2 = 1 then (some (u5.1, u5.2)) else ((f_J6_bitCount_0f7a4 u5.1).bind fun u8 => some (u8, u5.2)))))
set_option maxHeartbeats 4000000 in
set_option maxRecDepth 100000 in
theorem c_X11_allTheSea (l : Launch) (E : Ec) (q0 q1 q2 : Nat → Nat) (t0 t1 t2 t3 t5 t6 t7 t8 t10 t11 : Nat) (sz : Nat) (S0 : Gr) (S1 : Gr) (S2 : Gr) (x1 : Int32) (x2 : Int32) (Rv : Int32 × Gr) (h : f_X11_allTheSea S0 S1 S2 x1 x2 = some Rv) : Met l yX11_allTheSea (wsM (.code yX11_allTheSea cX11_allTheSea 4 (some .int))) ({ frames := 6, cells := 0, slots := 0, locals := 149 } : Room) (va_Pc [.ref (q0 0), .int x1, .int x2] (ctP E (cw_X11 E q0 t0 t1 t2 t3 (q1 0) t5 t6 t7 t8 (q2 0) t10 t11 S0 ++ (cw_X6 E q1 S1 ++ (cw_X7 E q2 S2))) sz)) (ctI E (cw_X11 E q0 t0 t1 t2 t3 (q1 0) t5 t6 t7 t8 (q2 0) t10 t11 S0 ++ (cw_X6 E q1 S1 ++ (cw_X7 E q2 S2))) (cw_X11 E q0 t0 t1 t2 t3 (q1 0) t5 t6 t7 t8 (q2 0) t10 t11 S0 ++ (cw_X6 E q1 Rv.2 ++ (cw_X7 E q2 S2))) sz Rv.1) 0 0 (va_A (cw_X11 E q0 t0 t1 t2 t3 (q1 0) t5 t6 t7 t8 (q2 0) t10 t11 S0 ++ (cw_X6 E q1 S1 ++ (cw_X7 E q2 S2))) sz) := by
  refine ct_metI (by decide) (Nat.le_of_ble_eq_true rfl) ?_
  intro p e s m ar below meth c A QM hx hb hml hown hg X hP hD hS RET ls hl
  have hown : s.vm.findClass RX11 = some m.cls := hown
  have hl : lv_has ls 4 [(0, .ref (q0 0)), (1, .int x1), (2, .int x2)] := hl
  have RT : ∀ (v : Int32) (S1 : Gr) (H : Heap) (locs : List Loc) (ls : Array Slot) (pc : Nat), some (v, S1) = some Rv → narrow .int (.int v) = .int v → va_P E.1 vwCl (cw_X11 E q0 t0 t1 t2 t3 (q1 0) t5 t6 t7 t8 (q2 0) t10 t11 S0 ++ (cw_X6 E q1 S1 ++ (cw_X7 E q2 S2))) H → va_D A (cw_X11 E q0 t0 t1 t2 t3 (q1 0) t5 t6 t7 t8 (q2 0) t10 t11 S0 ++ (cw_X6 E q1 S1 ++ (cw_X7 E q2 S2))) → va_S A s.heap H locs → decode cX11_allTheSea pc = .ok (.ireturn, 1) → W p l e ({ frames := 6, cells := 0, slots := 0, locals := 149 } : Room) s m ar below meth c H locs 0 0 QM (F0 m pc ls [.int v]) := by
    intro v S1 H locs ls pc e hn hP hD hS d
    obtain rfl := sm_e e
    exact RET H locs pc ls hn hP hD hS d
  clear RET
  obtain ⟨H, eH⟩ : ∃ z, z = s.heap := ⟨_, rfl⟩
  rw [← eH]
  have hP : va_P E.1 vwCl (cw_X11 E q0 t0 t1 t2 t3 (q1 0) t5 t6 t7 t8 (q2 0) t10 t11 S0 ++ (cw_X6 E q1 S1 ++ (cw_X7 E q2 S2))) H := by rw [eH]; exact hP
  have hS : va_S A s.heap H [] := by rw [eH]; exact hS
  clear eH
  obtain ⟨locs, el⟩ : ∃ z : List Loc, z = [] := ⟨_, rfl⟩
  rw [← el] at hS ⊢
  clear el
  refine lv_iload_n hx hb dX11_allTheSea_0 rfl (lv_at hl 1 rfl) ?_
  refine lv_iconst (v := 0) hx hb dX11_allTheSea_1 (by decide) ?_
  refine lv_bipush (v := 23) hx hb dX11_allTheSea_2 (by decide) ?_
  obtain ⟨u1, hc, h⟩ := bd_el h
  refine ct_iN X hP hD hS (va_runS (As := [.int x1, .int 0, .int 23]) (rest := []) ⟨hx, hb, hml, hown, hg⟩ (c_X11_within l E  H.size x1 0 23 u1 hc) (va_cwS 3 hg (gwS wm_X11_89 wst_X11_within wini_X11 wco_X11_within) rfl rfl rfl (by decide +kernel) ⟨Nat.le_of_ble_eq_true rfl, Nat.le_of_ble_eq_true rfl⟩) ⟨ct_blind, ct_preN X hS _⟩ rfl rfl hl.1 rfl (lv_room (Nat.le_of_ble_eq_true rfl)) dX11_allTheSea_4 ⟨Nat.zero_le _, Nat.zero_le _⟩) (fun H locs hP hD hS => ?_)
  refine lv_if_eq (tgt := 19) hx hb dX11_allTheSea_7 (by decide) (fun c2 => ?_) (fun c2 => ?_)
  · have h := it_t h c2
    refine lv_iconst (v := (-1)) hx hb dX11_allTheSea_19 (by decide) ?_
    exact RT (-1) S1 _ _ _ _ h rfl hP hD hS dX11_allTheSea_20
  · have h := it_f h c2
    refine lv_iload_n hx hb dX11_allTheSea_10 rfl (lv_at hl 2 rfl) ?_
    refine lv_iconst (v := 0) hx hb dX11_allTheSea_11 (by decide) ?_
    refine lv_iconst (v := 1) hx hb dX11_allTheSea_12 (by decide) ?_
    obtain ⟨u3, hc, h⟩ := bd_el h
    refine ct_iN X hP hD hS (va_runS (As := [.int x2, .int 0, .int 1]) (rest := []) ⟨hx, hb, hml, hown, hg⟩ (c_X11_within l E  H.size x2 0 1 u3 hc) (va_cwS 3 hg (gwS wm_X11_89 wst_X11_within wini_X11 wco_X11_within) rfl rfl rfl (by decide +kernel) ⟨Nat.le_of_ble_eq_true rfl, Nat.le_of_ble_eq_true rfl⟩) ⟨ct_blind, ct_preN X hS _⟩ rfl rfl hl.1 rfl (lv_room (Nat.le_of_ble_eq_true rfl)) dX11_allTheSea_13 ⟨Nat.zero_le _, Nat.zero_le _⟩) (fun H locs hP hD hS => ?_)
    refine lv_if_ne (tgt := 21) hx hb dX11_allTheSea_16 (by decide) (fun c4 => ?_) (fun c4 => ?_)
    · have h := it_f h c4
      refine lv_aload_n hx hb dX11_allTheSea_21 rfl (lv_at hl 0 rfl) ?_
      refine va_get (D := E.1) (ci := 10) (v := .ref (q1 0)) (C := RX11) (T := TX11) (N := 13) hx hb hg in_X11 hown X.1 hP 0 rfl rfl 4 (by decide) (hg _ wf_X11_40) (fun _ h9 => h9) rfl dX11_allTheSea_22 ?_
      refine lv_aload_n hx hb dX11_allTheSea_25 rfl (lv_at hl 0 rfl) ?_
      refine va_get (D := E.1) (ci := 10) (v := .ref (q2 0)) (C := RX11) (T := TX11) (N := 13) hx hb hg in_X11 hown X.1 hP 0 rfl rfl 9 (by decide) (hg _ wf_X11_71) (fun _ h9 => h9) rfl dX11_allTheSea_26 ?_
      refine lv_iload_n hx hb dX11_allTheSea_29 rfl (lv_at hl 1 rfl) ?_
      obtain ⟨u5, hc, h⟩ := bd_el h
      have hC : ([1, 2, 3, 4, 5, 6, 7, 8, 9, 10, 11] : List Nat).map (fun i => (cw_X11 E q0 t0 t1 t2 t3 (q1 0) t5 t6 t7 t8 (q2 0) t10 t11 S0 ++ (cw_X6 E q1 S1 ++ (cw_X7 E q2 S2)))[i]?) = (cw_X6 E q1 S1 ++ (cw_X7 E q2 S2)).map some := rfl
      refine ct_i (ws' := cw_X11 E q0 t0 t1 t2 t3 (q1 0) t5 t6 t7 t8 (q2 0) t10 t11 S0 ++ (cw_X6 E q1 u5.2 ++ (cw_X7 E q2 S2))) X hP hD hS [1, 2, 3, 4, 5, 6, 7, 8, 9, 10, 11] (va_runV (C := RX6) (As := [.ref (q2 0), .int x1]) (rest := []) ⟨hx, hb, hml, hown, hg⟩ (c_X6_fewestWebs l E q1 q2 H.size S1 S2 x1 u5 hc) (cwV 2 hg (gwV wm_X11_193 wi_X6_fewestWebs wsl_X6_fewestWebs wini_X6 wco_X6_fewestWebs) rfl rfl rfl (by decide +kernel) ⟨Nat.le_of_ble_eq_true rfl, Nat.le_of_ble_eq_true rfl⟩) ⟨ct_blind, ct_rv X.1 hP 1 rfl rfl, ct_pre X hP hD hS [1, 2, 3, 4, 5, 6, 7, 8, 9, 10, 11] (by decide) hC _⟩ rfl rfl hl.1 rfl (lv_room (Nat.le_of_ble_eq_true rfl)) dX11_allTheSea_30 ⟨Nat.zero_le _, Nat.zero_le _⟩) hC rfl rfl (fun H locs hP hD hS => ?_)
      clear hC
      refine lv_istore_n (lv' := [(3, .int u5.1), (0, .ref (q0 0)), (1, .int x1), (2, .int x2)]) hx hb dX11_allTheSea_33 rfl hl (by decide) rfl (fun ls hl => ?_)
      refine lv_iload_n hx hb dX11_allTheSea_34 rfl (lv_at hl 0 rfl) ?_
      refine lv_bipush (v := (-2)) hx hb dX11_allTheSea_35 (by decide) ?_
      refine lv_icmp_eq (tgt := 45) hx hb dX11_allTheSea_37 (by decide) (fun c6 => ?_) (fun c6 => ?_)
      · have h := it_t h c6
        refine lv_iload_n hx hb dX11_allTheSea_45 rfl (lv_at hl 0 rfl) ?_
        refine lv_goto (tgt := 53) hx hb dX11_allTheSea_46 (by decide) ?_
        exact RT u5.1 u5.2 _ _ _ _ h rfl hP hD hS dX11_allTheSea_53
      · have h := it_f h c6
        refine lv_iload_n hx hb dX11_allTheSea_40 rfl (lv_at hl 3 rfl) ?_
        refine lv_iconst (v := 1) hx hb dX11_allTheSea_41 (by decide) ?_
        refine lv_icmp_ne (tgt := 49) hx hb dX11_allTheSea_42 (by decide) (fun c7 => ?_) (fun c7 => ?_)
        · have h := it_f h c7
          refine lv_iload_n hx hb dX11_allTheSea_49 rfl (lv_at hl 0 rfl) ?_
          obtain ⟨u8, hc, h⟩ := bd_el h
          refine ct_iN X hP hD hS (va_runS (As := [.int u5.1]) (rest := []) ⟨hx, hb, hml, hown, hg⟩ (c_J6_bitCount_0f7a4 l E  H.size u5.1 u8 hc) (va_cwS 1 hg (gwS wm_X11_197 wst_J6_bitCount_0f7a4 wini_J6 wco_J6_bitCount_0f7a4) rfl rfl rfl (by decide +kernel) ⟨Nat.le_of_ble_eq_true rfl, Nat.le_of_ble_eq_true rfl⟩) ⟨ct_blind, ct_preN X hS _⟩ rfl rfl hl.1 rfl (lv_room (Nat.le_of_ble_eq_true rfl)) dX11_allTheSea_50 ⟨Nat.zero_le _, Nat.zero_le _⟩) (fun H locs hP hD hS => ?_)
          exact RT u8 u5.2 _ _ _ _ h rfl hP hD hS dX11_allTheSea_53
        · have h := it_t h c7
          refine lv_iload_n hx hb dX11_allTheSea_45 rfl (lv_at hl 0 rfl) ?_
          refine lv_goto (tgt := 53) hx hb dX11_allTheSea_46 (by decide) ?_
          exact RT u5.1 u5.2 _ _ _ _ h rfl hP hD hS dX11_allTheSea_53
    · have h := it_t h c4
      refine lv_iconst (v := (-1)) hx hb dX11_allTheSea_19 (by decide) ?_
      exact RT (-1) S1 _ _ _ _ h rfl hP hD hS dX11_allTheSea_20
theorem dX11_bearings_0 : decode cX11_bearings 0 = .ok (.aload_n 0, 1) := by decide +kernel
theorem dX11_bearings_1 : decode cX11_bearings 1 = .ok (.getfield 71, 3) := by decide +kernel
theorem dX11_bearings_4 : decode cX11_bearings 4 = .ok (.iload_n 1, 1) := by decide +kernel
theorem dX11_bearings_5 : decode cX11_bearings 5 = .ok (.invokevirtual 85, 3) := by decide +kernel
theorem dX11_bearings_8 : decode cX11_bearings 8 = .ok (.ifCond .eq 40, 3) := by decide +kernel
theorem dX11_bearings_11 : decode cX11_bearings 11 = .ok (.aload_n 0, 1) := by decide +kernel
theorem dX11_bearings_12 : decode cX11_bearings 12 = .ok (.getfield 71, 3) := by decide +kernel
theorem dX11_bearings_15 : decode cX11_bearings 15 = .ok (.iload_n 3, 1) := by decide +kernel
theorem dX11_bearings_16 : decode cX11_bearings 16 = .ok (.invokevirtual 85, 3) := by decide +kernel
theorem dX11_bearings_19 : decode cX11_bearings 19 = .ok (.ifCond .eq 29, 3) := by decide +kernel
theorem dX11_bearings_22 : decode cX11_bearings 22 = .ok (.iload_n 1, 1) := by decide +kernel
theorem dX11_bearings_23 : decode cX11_bearings 23 = .ok (.iload_n 3, 1) := by decide +kernel
theorem dX11_bearings_24 : decode cX11_bearings 24 = .ok (.if_icmp .eq 24, 3) := by decide +kernel
theorem dX11_bearings_27 : decode cX11_bearings 27 = .ok (.iload_n 2, 1) := by decide +kernel
theorem dX11_bearings_28 : decode cX11_bearings 28 = .ok (.iconst 0, 1) := by decide +kernel
theorem dX11_bearings_29 : decode cX11_bearings 29 = .ok (.bipush 7, 2) := by decide +kernel
theorem dX11_bearings_31 : decode cX11_bearings 31 = .ok (.invokestatic 89, 3) := by decide +kernel
theorem dX11_bearings_34 : decode cX11_bearings 34 = .ok (.ifCond .eq 14, 3) := by decide +kernel
theorem dX11_bearings_37 : decode cX11_bearings 37 = .ok (.iload 4, 2) := by decide +kernel
theorem dX11_bearings_39 : decode cX11_bearings 39 = .ok (.iconst 0, 1) := by decide +kernel
theorem dX11_bearings_40 : decode cX11_bearings 40 = .ok (.bipush 7, 2) := by decide +kernel
theorem dX11_bearings_42 : decode cX11_bearings 42 = .ok (.invokestatic 89, 3) := by decide +kernel
theorem dX11_bearings_45 : decode cX11_bearings 45 = .ok (.ifCond .ne 5, 3) := by decide +kernel
theorem dX11_bearings_48 : decode cX11_bearings 48 = .ok (.iconst (-1), 1) := by decide +kernel
theorem dX11_bearings_49 : decode cX11_bearings 49 = .ok (.ireturn, 1) := by decide +kernel
theorem dX11_bearings_50 : decode cX11_bearings 50 = .ok (.aload_n 0, 1) := by decide +kernel
theorem dX11_bearings_51 : decode cX11_bearings 51 = .ok (.getfield 40, 3) := by decide +kernel
theorem dX11_bearings_54 : decode cX11_bearings 54 = .ok (.aload_n 0, 1) := by decide +kernel
theorem dX11_bearings_55 : decode cX11_bearings 55 = .ok (.getfield 71, 3) := by decide +kernel
theorem dX11_bearings_58 : decode cX11_bearings 58 = .ok (.iload_n 1, 1) := by decide +kernel
theorem dX11_bearings_59 : decode cX11_bearings 59 = .ok (.iload_n 2, 1) := by decide +kernel
theorem dX11_bearings_60 : decode cX11_bearings 60 = .ok (.iload_n 3, 1) := by decide +kernel
theorem dX11_bearings_61 : decode cX11_bearings 61 = .ok (.iload 4, 2) := by decide +kernel
theorem dX11_bearings_63 : decode cX11_bearings 63 = .ok (.invokevirtual 189, 3) := by decide +kernel
theorem dX11_bearings_66 : decode cX11_bearings 66 = .ok (.ireturn, 1) := by decide +kernel
def f_X11_bearings (S0 : Gr) (S1 : Gr) (S2 : Gr) (x1 : Int32) (x2 : Int32) (x3 : Int32) (x4 : Int32) : Option (Int32) := (f_X7_hasWeb S1 x1).bind fun u1 => if u1 = 0 then (some (-1)) else ((f_X7_hasWeb S1 x3).bind fun u3 => if u3 = 0 then (some (-1)) else (if x1 = x3 then (some (-1)) else ((f_X11_within x2 0 7).bind fun u6 => if u6 = 0 then (some (-1)) else ((f_X11_within x4 0 7).bind fun u8 => if u8 = 0 then (some (-1)) else ((f_X6_crossing S2 S1 x1 x2 x3 x4).bind fun u10 => some u10)))))
set_option maxHeartbeats 4000000 in
set_option maxRecDepth 100000 in
theorem c_X11_bearings (l : Launch) (E : Ec) (q0 q1 q2 : Nat → Nat) (t0 t1 t2 t3 t5 t6 t7 t8 t10 t11 : Nat) (sz : Nat) (S0 : Gr) (S1 : Gr) (S2 : Gr) (x1 : Int32) (x2 : Int32) (x3 : Int32) (x4 : Int32) (Rv : Int32) (h : f_X11_bearings S0 S1 S2 x1 x2 x3 x4 = some Rv) : Met l yX11_bearings (wsM (.code yX11_bearings cX11_bearings 5 (some .int))) ({ frames := 4, cells := 0, slots := 0, locals := 102 } : Room) (va_Pc [.ref (q0 0), .int x1, .int x2, .int x3, .int x4] (ctP E (cw_X11 E q0 t0 t1 t2 t3 (q2 0) t5 t6 t7 t8 (q1 0) t10 t11 S0 ++ (cw_X7 E q1 S1 ++ (cw_X6 E q2 S2))) sz)) (ctI E (cw_X11 E q0 t0 t1 t2 t3 (q2 0) t5 t6 t7 t8 (q1 0) t10 t11 S0 ++ (cw_X7 E q1 S1 ++ (cw_X6 E q2 S2))) (cw_X11 E q0 t0 t1 t2 t3 (q2 0) t5 t6 t7 t8 (q1 0) t10 t11 S0 ++ (cw_X7 E q1 S1 ++ (cw_X6 E q2 S2))) sz Rv) 0 0 (va_A (cw_X11 E q0 t0 t1 t2 t3 (q2 0) t5 t6 t7 t8 (q1 0) t10 t11 S0 ++ (cw_X7 E q1 S1 ++ (cw_X6 E q2 S2))) sz) := by
  refine ct_metI (by decide) (Nat.le_of_ble_eq_true rfl) ?_
  intro p e s m ar below meth c A QM hx hb hml hown hg X hP hD hS RET ls hl
  have hown : s.vm.findClass RX11 = some m.cls := hown
  have hl : lv_has ls 5 [(0, .ref (q0 0)), (1, .int x1), (2, .int x2), (3, .int x3), (4, .int x4)] := hl
  have RT : ∀ (v : Int32) (H : Heap) (locs : List Loc) (ls : Array Slot) (pc : Nat), some v = some Rv → narrow .int (.int v) = .int v → va_P E.1 vwCl (cw_X11 E q0 t0 t1 t2 t3 (q2 0) t5 t6 t7 t8 (q1 0) t10 t11 S0 ++ (cw_X7 E q1 S1 ++ (cw_X6 E q2 S2))) H → va_D A (cw_X11 E q0 t0 t1 t2 t3 (q2 0) t5 t6 t7 t8 (q1 0) t10 t11 S0 ++ (cw_X7 E q1 S1 ++ (cw_X6 E q2 S2))) → va_S A s.heap H locs → decode cX11_bearings pc = .ok (.ireturn, 1) → W p l e ({ frames := 4, cells := 0, slots := 0, locals := 102 } : Room) s m ar below meth c H locs 0 0 QM (F0 m pc ls [.int v]) := by
    intro v H locs ls pc e hn hP hD hS d
    obtain rfl := sm_e e
    exact RET H locs pc ls hn hP hD hS d
  clear RET
  obtain ⟨H, eH⟩ : ∃ z, z = s.heap := ⟨_, rfl⟩
  rw [← eH]
  have hP : va_P E.1 vwCl (cw_X11 E q0 t0 t1 t2 t3 (q2 0) t5 t6 t7 t8 (q1 0) t10 t11 S0 ++ (cw_X7 E q1 S1 ++ (cw_X6 E q2 S2))) H := by rw [eH]; exact hP
  have hS : va_S A s.heap H [] := by rw [eH]; exact hS
  clear eH
  obtain ⟨locs, el⟩ : ∃ z : List Loc, z = [] := ⟨_, rfl⟩
  rw [← el] at hS ⊢
  clear el
  refine lv_aload_n hx hb dX11_bearings_0 rfl (lv_at hl 0 rfl) ?_
  refine va_get (D := E.1) (ci := 10) (v := .ref (q1 0)) (C := RX11) (T := TX11) (N := 13) hx hb hg in_X11 hown X.1 hP 0 rfl rfl 9 (by decide) (hg _ wf_X11_71) (fun _ h9 => h9) rfl dX11_bearings_1 ?_
  refine lv_iload_n hx hb dX11_bearings_4 rfl (lv_at hl 1 rfl) ?_
  obtain ⟨u1, hc, h⟩ := bd_el h
  have hC : ([1, 2, 3, 4, 5, 6, 7, 8] : List Nat).map (fun i => (cw_X11 E q0 t0 t1 t2 t3 (q2 0) t5 t6 t7 t8 (q1 0) t10 t11 S0 ++ (cw_X7 E q1 S1 ++ (cw_X6 E q2 S2)))[i]?) = (cw_X7 E q1 S1).map some := rfl
  refine ct_iR X hP hD hS [1, 2, 3, 4, 5, 6, 7, 8] hC (va_runV (C := RX7) (As := [.int x1]) (rest := []) ⟨hx, hb, hml, hown, hg⟩ (c_X7_hasWeb l E q1 H.size S1 x1 u1 hc) (cwV 1 hg (gwV wm_X11_85 wi_X7_hasWeb wsl_X7_hasWeb wini_X7 wco_X7_hasWeb) rfl rfl rfl (by decide +kernel) ⟨Nat.le_of_ble_eq_true rfl, Nat.le_of_ble_eq_true rfl⟩) ⟨ct_blind, ct_rv X.1 hP 1 rfl rfl, ct_pre X hP hD hS [1, 2, 3, 4, 5, 6, 7, 8] (by decide) hC _⟩ rfl rfl hl.1 rfl (lv_room (Nat.le_of_ble_eq_true rfl)) dX11_bearings_5 ⟨Nat.zero_le _, Nat.zero_le _⟩) (fun H locs hP hD hS => ?_)
  clear hC
  refine lv_if_eq (tgt := 48) hx hb dX11_bearings_8 (by decide) (fun c2 => ?_) (fun c2 => ?_)
  · have h := it_t h c2
    refine lv_iconst (v := (-1)) hx hb dX11_bearings_48 (by decide) ?_
    exact RT (-1) _ _ _ _ h rfl hP hD hS dX11_bearings_49
  · have h := it_f h c2
    refine lv_aload_n hx hb dX11_bearings_11 rfl (lv_at hl 0 rfl) ?_
    refine va_get (D := E.1) (ci := 10) (v := .ref (q1 0)) (C := RX11) (T := TX11) (N := 13) hx hb hg in_X11 hown X.1 hP 0 rfl rfl 9 (by decide) (hg _ wf_X11_71) (fun _ h9 => h9) rfl dX11_bearings_12 ?_
    refine lv_iload_n hx hb dX11_bearings_15 rfl (lv_at hl 3 rfl) ?_
    obtain ⟨u3, hc, h⟩ := bd_el h
    have hC : ([1, 2, 3, 4, 5, 6, 7, 8] : List Nat).map (fun i => (cw_X11 E q0 t0 t1 t2 t3 (q2 0) t5 t6 t7 t8 (q1 0) t10 t11 S0 ++ (cw_X7 E q1 S1 ++ (cw_X6 E q2 S2)))[i]?) = (cw_X7 E q1 S1).map some := rfl
    refine ct_iR X hP hD hS [1, 2, 3, 4, 5, 6, 7, 8] hC (va_runV (C := RX7) (As := [.int x3]) (rest := []) ⟨hx, hb, hml, hown, hg⟩ (c_X7_hasWeb l E q1 H.size S1 x3 u3 hc) (cwV 1 hg (gwV wm_X11_85 wi_X7_hasWeb wsl_X7_hasWeb wini_X7 wco_X7_hasWeb) rfl rfl rfl (by decide +kernel) ⟨Nat.le_of_ble_eq_true rfl, Nat.le_of_ble_eq_true rfl⟩) ⟨ct_blind, ct_rv X.1 hP 1 rfl rfl, ct_pre X hP hD hS [1, 2, 3, 4, 5, 6, 7, 8] (by decide) hC _⟩ rfl rfl hl.1 rfl (lv_room (Nat.le_of_ble_eq_true rfl)) dX11_bearings_16 ⟨Nat.zero_le _, Nat.zero_le _⟩) (fun H locs hP hD hS => ?_)
    clear hC
    refine lv_if_eq (tgt := 48) hx hb dX11_bearings_19 (by decide) (fun c4 => ?_) (fun c4 => ?_)
    · have h := it_t h c4
      refine lv_iconst (v := (-1)) hx hb dX11_bearings_48 (by decide) ?_
      exact RT (-1) _ _ _ _ h rfl hP hD hS dX11_bearings_49
    · have h := it_f h c4
      refine lv_iload_n hx hb dX11_bearings_22 rfl (lv_at hl 1 rfl) ?_
      refine lv_iload_n hx hb dX11_bearings_23 rfl (lv_at hl 3 rfl) ?_
      refine lv_icmp_eq (tgt := 48) hx hb dX11_bearings_24 (by decide) (fun c5 => ?_) (fun c5 => ?_)
      · have h := it_t h c5
        refine lv_iconst (v := (-1)) hx hb dX11_bearings_48 (by decide) ?_
        exact RT (-1) _ _ _ _ h rfl hP hD hS dX11_bearings_49
      · have h := it_f h c5
        refine lv_iload_n hx hb dX11_bearings_27 rfl (lv_at hl 2 rfl) ?_
        refine lv_iconst (v := 0) hx hb dX11_bearings_28 (by decide) ?_
        refine lv_bipush (v := 7) hx hb dX11_bearings_29 (by decide) ?_
        obtain ⟨u6, hc, h⟩ := bd_el h
        refine ct_iN X hP hD hS (va_runS (As := [.int x2, .int 0, .int 7]) (rest := []) ⟨hx, hb, hml, hown, hg⟩ (c_X11_within l E  H.size x2 0 7 u6 hc) (va_cwS 3 hg (gwS wm_X11_89 wst_X11_within wini_X11 wco_X11_within) rfl rfl rfl (by decide +kernel) ⟨Nat.le_of_ble_eq_true rfl, Nat.le_of_ble_eq_true rfl⟩) ⟨ct_blind, ct_preN X hS _⟩ rfl rfl hl.1 rfl (lv_room (Nat.le_of_ble_eq_true rfl)) dX11_bearings_31 ⟨Nat.zero_le _, Nat.zero_le _⟩) (fun H locs hP hD hS => ?_)
        refine lv_if_eq (tgt := 48) hx hb dX11_bearings_34 (by decide) (fun c7 => ?_) (fun c7 => ?_)
        · have h := it_t h c7
          refine lv_iconst (v := (-1)) hx hb dX11_bearings_48 (by decide) ?_
          exact RT (-1) _ _ _ _ h rfl hP hD hS dX11_bearings_49
        · have h := it_f h c7
          refine lv_iload hx hb dX11_bearings_37 (lv_at hl 4 rfl) ?_
          refine lv_iconst (v := 0) hx hb dX11_bearings_39 (by decide) ?_
          refine lv_bipush (v := 7) hx hb dX11_bearings_40 (by decide) ?_
          obtain ⟨u8, hc, h⟩ := bd_el h
          refine ct_iN X hP hD hS (va_runS (As := [.int x4, .int 0, .int 7]) (rest := []) ⟨hx, hb, hml, hown, hg⟩ (c_X11_within l E  H.size x4 0 7 u8 hc) (va_cwS 3 hg (gwS wm_X11_89 wst_X11_within wini_X11 wco_X11_within) rfl rfl rfl (by decide +kernel) ⟨Nat.le_of_ble_eq_true rfl, Nat.le_of_ble_eq_true rfl⟩) ⟨ct_blind, ct_preN X hS _⟩ rfl rfl hl.1 rfl (lv_room (Nat.le_of_ble_eq_true rfl)) dX11_bearings_42 ⟨Nat.zero_le _, Nat.zero_le _⟩) (fun H locs hP hD hS => ?_)
          refine lv_if_ne (tgt := 50) hx hb dX11_bearings_45 (by decide) (fun c9 => ?_) (fun c9 => ?_)
          · have h := it_f h c9
            refine lv_aload_n hx hb dX11_bearings_50 rfl (lv_at hl 0 rfl) ?_
            refine va_get (D := E.1) (ci := 10) (v := .ref (q2 0)) (C := RX11) (T := TX11) (N := 13) hx hb hg in_X11 hown X.1 hP 0 rfl rfl 4 (by decide) (hg _ wf_X11_40) (fun _ h9 => h9) rfl dX11_bearings_51 ?_
            refine lv_aload_n hx hb dX11_bearings_54 rfl (lv_at hl 0 rfl) ?_
            refine va_get (D := E.1) (ci := 10) (v := .ref (q1 0)) (C := RX11) (T := TX11) (N := 13) hx hb hg in_X11 hown X.1 hP 0 rfl rfl 9 (by decide) (hg _ wf_X11_71) (fun _ h9 => h9) rfl dX11_bearings_55 ?_
            refine lv_iload_n hx hb dX11_bearings_58 rfl (lv_at hl 1 rfl) ?_
            refine lv_iload_n hx hb dX11_bearings_59 rfl (lv_at hl 2 rfl) ?_
            refine lv_iload_n hx hb dX11_bearings_60 rfl (lv_at hl 3 rfl) ?_
            refine lv_iload hx hb dX11_bearings_61 (lv_at hl 4 rfl) ?_
            obtain ⟨u10, hc, h⟩ := bd_el h
            have hC : ([9, 10, 11, 1, 2, 3, 4, 5, 6, 7, 8] : List Nat).map (fun i => (cw_X11 E q0 t0 t1 t2 t3 (q2 0) t5 t6 t7 t8 (q1 0) t10 t11 S0 ++ (cw_X7 E q1 S1 ++ (cw_X6 E q2 S2)))[i]?) = (cw_X6 E q2 S2 ++ (cw_X7 E q1 S1)).map some := rfl
            refine ct_iR X hP hD hS [9, 10, 11, 1, 2, 3, 4, 5, 6, 7, 8] hC (va_runV (C := RX6) (As := [.ref (q1 0), .int x1, .int x2, .int x3, .int x4]) (rest := []) ⟨hx, hb, hml, hown, hg⟩ (c_X6_crossing l E q2 q1 H.size S2 S1 x1 x2 x3 x4 u10 hc) (cwV 5 hg (gwV wm_X11_189 wi_X6_crossing wsl_X6_crossing wini_X6 wco_X6_crossing) rfl rfl rfl (by decide +kernel) ⟨Nat.le_of_ble_eq_true rfl, Nat.le_of_ble_eq_true rfl⟩) ⟨ct_blind, ct_rv X.1 hP 9 rfl rfl, ct_pre X hP hD hS [9, 10, 11, 1, 2, 3, 4, 5, 6, 7, 8] (by decide) hC _⟩ rfl rfl hl.1 rfl (lv_room (Nat.le_of_ble_eq_true rfl)) dX11_bearings_63 ⟨Nat.zero_le _, Nat.zero_le _⟩) (fun H locs hP hD hS => ?_)
            clear hC
            exact RT u10 _ _ _ _ h rfl hP hD hS dX11_bearings_66
          · have h := it_t h c9
            refine lv_iconst (v := (-1)) hx hb dX11_bearings_48 (by decide) ?_
            exact RT (-1) _ _ _ _ h rfl hP hD hS dX11_bearings_49
theorem dX11_canBeTried_0 : decode cX11_canBeTried 0 = .ok (.iload_n 1, 1) := by decide +kernel
theorem dX11_canBeTried_1 : decode cX11_canBeTried 1 = .ok (.ifCond .eq 50, 3) := by decide +kernel
theorem dX11_canBeTried_4 : decode cX11_canBeTried 4 = .ok (.iload_n 1, 1) := by decide +kernel
theorem dX11_canBeTried_5 : decode cX11_canBeTried 5 = .ok (.iconst 1, 1) := by decide +kernel
theorem dX11_canBeTried_6 : decode cX11_canBeTried 6 = .ok (.if_icmp .eq 45, 3) := by decide +kernel
theorem dX11_canBeTried_9 : decode cX11_canBeTried 9 = .ok (.aload_n 0, 1) := by decide +kernel
theorem dX11_canBeTried_10 : decode cX11_canBeTried 10 = .ok (.getfield 71, 3) := by decide +kernel
theorem dX11_canBeTried_13 : decode cX11_canBeTried 13 = .ok (.iload_n 1, 1) := by decide +kernel
theorem dX11_canBeTried_14 : decode cX11_canBeTried 14 = .ok (.bipush 10, 2) := by decide +kernel
theorem dX11_canBeTried_16 : decode cX11_canBeTried 16 = .ok (.isub, 1) := by decide +kernel
theorem dX11_canBeTried_17 : decode cX11_canBeTried 17 = .ok (.invokevirtual 85, 3) := by decide +kernel
theorem dX11_canBeTried_20 : decode cX11_canBeTried 20 = .ok (.ifCond .ne 31, 3) := by decide +kernel
theorem dX11_canBeTried_23 : decode cX11_canBeTried 23 = .ok (.aload_n 0, 1) := by decide +kernel
theorem dX11_canBeTried_24 : decode cX11_canBeTried 24 = .ok (.getfield 71, 3) := by decide +kernel
theorem dX11_canBeTried_27 : decode cX11_canBeTried 27 = .ok (.iload_n 1, 1) := by decide +kernel
theorem dX11_canBeTried_28 : decode cX11_canBeTried 28 = .ok (.bipush 20, 2) := by decide +kernel
theorem dX11_canBeTried_30 : decode cX11_canBeTried 30 = .ok (.isub, 1) := by decide +kernel
theorem dX11_canBeTried_31 : decode cX11_canBeTried 31 = .ok (.invokevirtual 152, 3) := by decide +kernel
theorem dX11_canBeTried_34 : decode cX11_canBeTried 34 = .ok (.ifCond .ne 17, 3) := by decide +kernel
theorem dX11_canBeTried_37 : decode cX11_canBeTried 37 = .ok (.aload_n 0, 1) := by decide +kernel
theorem dX11_canBeTried_38 : decode cX11_canBeTried 38 = .ok (.getfield 71, 3) := by decide +kernel
theorem dX11_canBeTried_41 : decode cX11_canBeTried 41 = .ok (.iload_n 1, 1) := by decide +kernel
theorem dX11_canBeTried_42 : decode cX11_canBeTried 42 = .ok (.bipush 30, 2) := by decide +kernel
theorem dX11_canBeTried_44 : decode cX11_canBeTried 44 = .ok (.isub, 1) := by decide +kernel
theorem dX11_canBeTried_45 : decode cX11_canBeTried 45 = .ok (.invokevirtual 152, 3) := by decide +kernel
theorem dX11_canBeTried_48 : decode cX11_canBeTried 48 = .ok (.ifCond .eq 7, 3) := by decide +kernel
theorem dX11_canBeTried_51 : decode cX11_canBeTried 51 = .ok (.iconst 1, 1) := by decide +kernel
theorem dX11_canBeTried_52 : decode cX11_canBeTried 52 = .ok (.goto 4, 3) := by decide +kernel
theorem dX11_canBeTried_55 : decode cX11_canBeTried 55 = .ok (.iconst 0, 1) := by decide +kernel
theorem dX11_canBeTried_56 : decode cX11_canBeTried 56 = .ok (.ireturn, 1) := by decide +kernel
def f_X11_canBeTried (S0 : Gr) (S1 : Gr) (x1 : Int32) : Option (Int32) := if x1 = 0 then (some 1) else (if x1 = 1 then (some 1) else ((f_X7_hasWeb S1 (x1 - 10)).bind fun u3 => if u3 = 0 then ((f_X7_hasFleet S1 (x1 - 20)).bind fun u5 => if u5 = 0 then ((f_X7_hasFleet S1 (x1 - 30)).bind fun u7 => if u7 = 0 then (some 0) else (some 1)) else (some 1)) else (some 1)))
set_option maxHeartbeats 4000000 in
set_option maxRecDepth 100000 in
theorem c_X11_canBeTried (l : Launch) (E : Ec) (q0 q1 : Nat → Nat) (t0 t1 t2 t3 t4 t5 t6 t7 t8 t10 t11 : Nat) (sz : Nat) (S0 : Gr) (S1 : Gr) (x1 : Int32) (Rv : Int32) (h : f_X11_canBeTried S0 S1 x1 = some Rv) : Met l yX11_canBeTried (wsM (.code yX11_canBeTried cX11_canBeTried 2 (some .boolean))) ({ frames := 1, cells := 0, slots := 0, locals := 21 } : Room) (va_Pc [.ref (q0 0), .int x1] (ctP E (cw_X11 E q0 t0 t1 t2 t3 t4 t5 t6 t7 t8 (q1 0) t10 t11 S0 ++ (cw_X7 E q1 S1)) sz)) (ctI E (cw_X11 E q0 t0 t1 t2 t3 t4 t5 t6 t7 t8 (q1 0) t10 t11 S0 ++ (cw_X7 E q1 S1)) (cw_X11 E q0 t0 t1 t2 t3 t4 t5 t6 t7 t8 (q1 0) t10 t11 S0 ++ (cw_X7 E q1 S1)) sz Rv) 0 0 (va_A (cw_X11 E q0 t0 t1 t2 t3 t4 t5 t6 t7 t8 (q1 0) t10 t11 S0 ++ (cw_X7 E q1 S1)) sz) := by
  refine ct_metI (by decide) (Nat.le_of_ble_eq_true rfl) ?_
  intro p e s m ar below meth c A QM hx hb hml hown hg X hP hD hS RET ls hl
  have hown : s.vm.findClass RX11 = some m.cls := hown
  have hl : lv_has ls 2 [(0, .ref (q0 0)), (1, .int x1)] := hl
  have RT : ∀ (v : Int32) (H : Heap) (locs : List Loc) (ls : Array Slot) (pc : Nat), some v = some Rv → narrow .boolean (.int v) = .int v → va_P E.1 vwCl (cw_X11 E q0 t0 t1 t2 t3 t4 t5 t6 t7 t8 (q1 0) t10 t11 S0 ++ (cw_X7 E q1 S1)) H → va_D A (cw_X11 E q0 t0 t1 t2 t3 t4 t5 t6 t7 t8 (q1 0) t10 t11 S0 ++ (cw_X7 E q1 S1)) → va_S A s.heap H locs → decode cX11_canBeTried pc = .ok (.ireturn, 1) → W p l e ({ frames := 1, cells := 0, slots := 0, locals := 21 } : Room) s m ar below meth c H locs 0 0 QM (F0 m pc ls [.int v]) := by
    intro v H locs ls pc e hn hP hD hS d
    obtain rfl := sm_e e
    exact RET H locs pc ls hn hP hD hS d
  clear RET
  obtain ⟨H, eH⟩ : ∃ z, z = s.heap := ⟨_, rfl⟩
  rw [← eH]
  have hP : va_P E.1 vwCl (cw_X11 E q0 t0 t1 t2 t3 t4 t5 t6 t7 t8 (q1 0) t10 t11 S0 ++ (cw_X7 E q1 S1)) H := by rw [eH]; exact hP
  have hS : va_S A s.heap H [] := by rw [eH]; exact hS
  clear eH
  obtain ⟨locs, el⟩ : ∃ z : List Loc, z = [] := ⟨_, rfl⟩
  rw [← el] at hS ⊢
  clear el
  refine lv_iload_n hx hb dX11_canBeTried_0 rfl (lv_at hl 1 rfl) ?_
  refine lv_if_eq (tgt := 51) hx hb dX11_canBeTried_1 (by decide) (fun c1 => ?_) (fun c1 => ?_)
  · have h := it_t h c1
    refine lv_iconst (v := 1) hx hb dX11_canBeTried_51 (by decide) ?_
    refine lv_goto (tgt := 56) hx hb dX11_canBeTried_52 (by decide) ?_
    exact RT 1 _ _ _ _ h (by decide +kernel) hP hD hS dX11_canBeTried_56
  · have h := it_f h c1
    refine lv_iload_n hx hb dX11_canBeTried_4 rfl (lv_at hl 1 rfl) ?_
    refine lv_iconst (v := 1) hx hb dX11_canBeTried_5 (by decide) ?_
    refine lv_icmp_eq (tgt := 51) hx hb dX11_canBeTried_6 (by decide) (fun c2 => ?_) (fun c2 => ?_)
    · have h := it_t h c2
      refine lv_iconst (v := 1) hx hb dX11_canBeTried_51 (by decide) ?_
      refine lv_goto (tgt := 56) hx hb dX11_canBeTried_52 (by decide) ?_
      exact RT 1 _ _ _ _ h (by decide +kernel) hP hD hS dX11_canBeTried_56
    · have h := it_f h c2
      refine lv_aload_n hx hb dX11_canBeTried_9 rfl (lv_at hl 0 rfl) ?_
      refine va_get (D := E.1) (ci := 10) (v := .ref (q1 0)) (C := RX11) (T := TX11) (N := 13) hx hb hg in_X11 hown X.1 hP 0 rfl rfl 9 (by decide) (hg _ wf_X11_71) (fun _ h9 => h9) rfl dX11_canBeTried_10 ?_
      refine lv_iload_n hx hb dX11_canBeTried_13 rfl (lv_at hl 1 rfl) ?_
      refine lv_bipush (v := 10) hx hb dX11_canBeTried_14 (by decide) ?_
      refine lv_isub hx hb dX11_canBeTried_16 ?_
      obtain ⟨u3, hc, h⟩ := bd_el h
      have hC : ([1, 2, 3, 4, 5, 6, 7, 8] : List Nat).map (fun i => (cw_X11 E q0 t0 t1 t2 t3 t4 t5 t6 t7 t8 (q1 0) t10 t11 S0 ++ (cw_X7 E q1 S1))[i]?) = (cw_X7 E q1 S1).map some := rfl
      refine ct_iR X hP hD hS [1, 2, 3, 4, 5, 6, 7, 8] hC (va_runV (C := RX7) (As := [.int (x1 - 10)]) (rest := []) ⟨hx, hb, hml, hown, hg⟩ (c_X7_hasWeb l E q1 H.size S1 (x1 - 10) u3 hc) (cwV 1 hg (gwV wm_X11_85 wi_X7_hasWeb wsl_X7_hasWeb wini_X7 wco_X7_hasWeb) rfl rfl rfl (by decide +kernel) ⟨Nat.le_of_ble_eq_true rfl, Nat.le_of_ble_eq_true rfl⟩) ⟨ct_blind, ct_rv X.1 hP 1 rfl rfl, ct_pre X hP hD hS [1, 2, 3, 4, 5, 6, 7, 8] (by decide) hC _⟩ rfl rfl hl.1 rfl (lv_room (Nat.le_of_ble_eq_true rfl)) dX11_canBeTried_17 ⟨Nat.zero_le _, Nat.zero_le _⟩) (fun H locs hP hD hS => ?_)
      clear hC
      refine lv_if_ne (tgt := 51) hx hb dX11_canBeTried_20 (by decide) (fun c4 => ?_) (fun c4 => ?_)
      · have h := it_f h c4
        refine lv_iconst (v := 1) hx hb dX11_canBeTried_51 (by decide) ?_
        refine lv_goto (tgt := 56) hx hb dX11_canBeTried_52 (by decide) ?_
        exact RT 1 _ _ _ _ h (by decide +kernel) hP hD hS dX11_canBeTried_56
      · have h := it_t h c4
        refine lv_aload_n hx hb dX11_canBeTried_23 rfl (lv_at hl 0 rfl) ?_
        refine va_get (D := E.1) (ci := 10) (v := .ref (q1 0)) (C := RX11) (T := TX11) (N := 13) hx hb hg in_X11 hown X.1 hP 0 rfl rfl 9 (by decide) (hg _ wf_X11_71) (fun _ h9 => h9) rfl dX11_canBeTried_24 ?_
        refine lv_iload_n hx hb dX11_canBeTried_27 rfl (lv_at hl 1 rfl) ?_
        refine lv_bipush (v := 20) hx hb dX11_canBeTried_28 (by decide) ?_
        refine lv_isub hx hb dX11_canBeTried_30 ?_
        obtain ⟨u5, hc, h⟩ := bd_el h
        have hC : ([1, 2, 3, 4, 5, 6, 7, 8] : List Nat).map (fun i => (cw_X11 E q0 t0 t1 t2 t3 t4 t5 t6 t7 t8 (q1 0) t10 t11 S0 ++ (cw_X7 E q1 S1))[i]?) = (cw_X7 E q1 S1).map some := rfl
        refine ct_iR X hP hD hS [1, 2, 3, 4, 5, 6, 7, 8] hC (va_runV (C := RX7) (As := [.int (x1 - 20)]) (rest := []) ⟨hx, hb, hml, hown, hg⟩ (c_X7_hasFleet l E q1 H.size S1 (x1 - 20) u5 hc) (cwV 1 hg (gwV wm_X11_152 wi_X7_hasFleet wsl_X7_hasFleet wini_X7 wco_X7_hasFleet) rfl rfl rfl (by decide +kernel) ⟨Nat.le_of_ble_eq_true rfl, Nat.le_of_ble_eq_true rfl⟩) ⟨ct_blind, ct_rv X.1 hP 1 rfl rfl, ct_pre X hP hD hS [1, 2, 3, 4, 5, 6, 7, 8] (by decide) hC _⟩ rfl rfl hl.1 rfl (lv_room (Nat.le_of_ble_eq_true rfl)) dX11_canBeTried_31 ⟨Nat.zero_le _, Nat.zero_le _⟩) (fun H locs hP hD hS => ?_)
        clear hC
        refine lv_if_ne (tgt := 51) hx hb dX11_canBeTried_34 (by decide) (fun c6 => ?_) (fun c6 => ?_)
        · have h := it_f h c6
          refine lv_iconst (v := 1) hx hb dX11_canBeTried_51 (by decide) ?_
          refine lv_goto (tgt := 56) hx hb dX11_canBeTried_52 (by decide) ?_
          exact RT 1 _ _ _ _ h (by decide +kernel) hP hD hS dX11_canBeTried_56
        · have h := it_t h c6
          refine lv_aload_n hx hb dX11_canBeTried_37 rfl (lv_at hl 0 rfl) ?_
          refine va_get (D := E.1) (ci := 10) (v := .ref (q1 0)) (C := RX11) (T := TX11) (N := 13) hx hb hg in_X11 hown X.1 hP 0 rfl rfl 9 (by decide) (hg _ wf_X11_71) (fun _ h9 => h9) rfl dX11_canBeTried_38 ?_
          refine lv_iload_n hx hb dX11_canBeTried_41 rfl (lv_at hl 1 rfl) ?_
          refine lv_bipush (v := 30) hx hb dX11_canBeTried_42 (by decide) ?_
          refine lv_isub hx hb dX11_canBeTried_44 ?_
          obtain ⟨u7, hc, h⟩ := bd_el h
          have hC : ([1, 2, 3, 4, 5, 6, 7, 8] : List Nat).map (fun i => (cw_X11 E q0 t0 t1 t2 t3 t4 t5 t6 t7 t8 (q1 0) t10 t11 S0 ++ (cw_X7 E q1 S1))[i]?) = (cw_X7 E q1 S1).map some := rfl
          refine ct_iR X hP hD hS [1, 2, 3, 4, 5, 6, 7, 8] hC (va_runV (C := RX7) (As := [.int (x1 - 30)]) (rest := []) ⟨hx, hb, hml, hown, hg⟩ (c_X7_hasFleet l E q1 H.size S1 (x1 - 30) u7 hc) (cwV 1 hg (gwV wm_X11_152 wi_X7_hasFleet wsl_X7_hasFleet wini_X7 wco_X7_hasFleet) rfl rfl rfl (by decide +kernel) ⟨Nat.le_of_ble_eq_true rfl, Nat.le_of_ble_eq_true rfl⟩) ⟨ct_blind, ct_rv X.1 hP 1 rfl rfl, ct_pre X hP hD hS [1, 2, 3, 4, 5, 6, 7, 8] (by decide) hC _⟩ rfl rfl hl.1 rfl (lv_room (Nat.le_of_ble_eq_true rfl)) dX11_canBeTried_45 ⟨Nat.zero_le _, Nat.zero_le _⟩) (fun H locs hP hD hS => ?_)
          clear hC
          refine lv_if_eq (tgt := 55) hx hb dX11_canBeTried_48 (by decide) (fun c8 => ?_) (fun c8 => ?_)
          · have h := it_t h c8
            refine lv_iconst (v := 0) hx hb dX11_canBeTried_55 (by decide) ?_
            exact RT 0 _ _ _ _ h (by decide +kernel) hP hD hS dX11_canBeTried_56
          · have h := it_f h c8
            refine lv_iconst (v := 1) hx hb dX11_canBeTried_51 (by decide) ?_
            refine lv_goto (tgt := 56) hx hb dX11_canBeTried_52 (by decide) ?_
            exact RT 1 _ _ _ _ h (by decide +kernel) hP hD hS dX11_canBeTried_56
theorem dX11_check_0 : decode cX11_check 0 = .ok (.iload_n 1, 1) := by decide +kernel
theorem dX11_check_1 : decode cX11_check 1 = .ok (.iconst 0, 1) := by decide +kernel
theorem dX11_check_2 : decode cX11_check 2 = .ok (.bipush 8, 2) := by decide +kernel
theorem dX11_check_4 : decode cX11_check 4 = .ok (.invokestatic 89, 3) := by decide +kernel
theorem dX11_check_7 : decode cX11_check 7 = .ok (.ifCond .eq 14, 3) := by decide +kernel
theorem dX11_check_10 : decode cX11_check 10 = .ok (.aload_n 0, 1) := by decide +kernel
theorem dX11_check_11 : decode cX11_check 11 = .ok (.getfield 10, 3) := by decide +kernel
theorem dX11_check_14 : decode cX11_check 14 = .ok (.iload_n 1, 1) := by decide +kernel
theorem dX11_check_15 : decode cX11_check 15 = .ok (.invokevirtual 108, 3) := by decide +kernel
theorem dX11_check_18 : decode cX11_check 18 = .ok (.ifCond .ne 6, 3) := by decide +kernel
theorem dX11_check_21 : decode cX11_check 21 = .ok (.bipush (-2), 2) := by decide +kernel
theorem dX11_check_23 : decode cX11_check 23 = .ok (.ireturn, 1) := by decide +kernel
theorem dX11_check_24 : decode cX11_check 24 = .ok (.iconst (-1), 1) := by decide +kernel
theorem dX11_check_25 : decode cX11_check 25 = .ok (.istore_n 2, 1) := by decide +kernel
theorem dX11_check_26 : decode cX11_check 26 = .ok (.iconst 0, 1) := by decide +kernel
theorem dX11_check_27 : decode cX11_check 27 = .ok (.istore_n 3, 1) := by decide +kernel
theorem dX11_check_28 : decode cX11_check 28 = .ok (.iload_n 3, 1) := by decide +kernel
theorem dX11_check_29 : decode cX11_check 29 = .ok (.iload_n 1, 1) := by decide +kernel
theorem dX11_check_30 : decode cX11_check 30 = .ok (.if_icmp .ge 56, 3) := by decide +kernel
theorem dX11_check_33 : decode cX11_check 33 = .ok (.iload_n 2, 1) := by decide +kernel
theorem dX11_check_34 : decode cX11_check 34 = .ok (.iconst (-1), 1) := by decide +kernel
theorem dX11_check_35 : decode cX11_check 35 = .ok (.if_icmp .ne 51, 3) := by decide +kernel
theorem dX11_check_38 : decode cX11_check 38 = .ok (.aload_n 0, 1) := by decide +kernel
theorem dX11_check_39 : decode cX11_check 39 = .ok (.getfield 71, 3) := by decide +kernel
theorem dX11_check_42 : decode cX11_check 42 = .ok (.iload_n 3, 1) := by decide +kernel
theorem dX11_check_43 : decode cX11_check 43 = .ok (.invokevirtual 85, 3) := by decide +kernel
theorem dX11_check_46 : decode cX11_check 46 = .ok (.ifCond .eq 14, 3) := by decide +kernel
theorem dX11_check_49 : decode cX11_check 49 = .ok (.aload_n 0, 1) := by decide +kernel
theorem dX11_check_50 : decode cX11_check 50 = .ok (.getfield 71, 3) := by decide +kernel
theorem dX11_check_53 : decode cX11_check 53 = .ok (.iload_n 3, 1) := by decide +kernel
theorem dX11_check_54 : decode cX11_check 54 = .ok (.invokevirtual 257, 3) := by decide +kernel
theorem dX11_check_57 : decode cX11_check 57 = .ok (.goto 6, 3) := by decide +kernel
theorem dX11_check_60 : decode cX11_check 60 = .ok (.sipush 255, 3) := by decide +kernel
theorem dX11_check_63 : decode cX11_check 63 = .ok (.istore 4, 2) := by decide +kernel
theorem dX11_check_65 : decode cX11_check 65 = .ok (.aload_n 0, 1) := by decide +kernel
theorem dX11_check_66 : decode cX11_check 66 = .ok (.getfield 10, 3) := by decide +kernel
theorem dX11_check_69 : decode cX11_check 69 = .ok (.iload_n 3, 1) := by decide +kernel
theorem dX11_check_70 : decode cX11_check 70 = .ok (.invokevirtual 260, 3) := by decide +kernel
theorem dX11_check_73 : decode cX11_check 73 = .ok (.iload 4, 2) := by decide +kernel
theorem dX11_check_75 : decode cX11_check 75 = .ok (.if_icmp .eq 5, 3) := by decide +kernel
theorem dX11_check_78 : decode cX11_check 78 = .ok (.iload_n 3, 1) := by decide +kernel
theorem dX11_check_79 : decode cX11_check 79 = .ok (.istore_n 2, 1) := by decide +kernel
theorem dX11_check_80 : decode cX11_check 80 = .ok (.iinc 3 1, 3) := by decide +kernel
theorem dX11_check_83 : decode cX11_check 83 = .ok (.goto (-55), 3) := by decide +kernel
theorem dX11_check_86 : decode cX11_check 86 = .ok (.aload_n 0, 1) := by decide +kernel
theorem dX11_check_87 : decode cX11_check 87 = .ok (.getfield 10, 3) := by decide +kernel
theorem dX11_check_90 : decode cX11_check 90 = .ok (.invokevirtual 115, 3) := by decide +kernel
theorem dX11_check_93 : decode cX11_check 93 = .ok (.iload_n 2, 1) := by decide +kernel
theorem dX11_check_94 : decode cX11_check 94 = .ok (.ireturn, 1) := by decide +kernel
def f_X11_check_n28 (S0 : Gr) (S2 : Gr) (x1 : Int32) : Nat → Gr → Int32 → Int32 → Option (Int32 × Gr)
  | 0, _, _, _ => none
  | n + 1, S1, x2, x3 => if x1 ≤ x3 then ((f_X8_empty S1).bind fun u6 => some (x2, u6)) else (if x2 = (-1) then ((f_X7_hasWeb S2 x3).bind fun u9 => if u9 = 0 then ((f_X8_at S1 x3).bind fun u11 => if u11 = 255 then (lt' (x3 + 1) fun v13 => f_X11_check_n28 S0 S2 x1 n S1 x2 v13) else (lt' (x3 + 1) fun v14 => f_X11_check_n28 S0 S2 x1 n S1 x3 v14)) else ((f_X7_slackSpokes S2 x3).bind fun u15 => (f_X8_at S1 x3).bind fun u16 => if u16 = u15 then (lt' (x3 + 1) fun v18 => f_X11_check_n28 S0 S2 x1 n S1 x2 v18) else (lt' (x3 + 1) fun v19 => f_X11_check_n28 S0 S2 x1 n S1 x3 v19))) else ((f_X8_empty S1).bind fun u8 => some (x2, u8)))
def f_X11_check (S0 : Gr) (S1 : Gr) (S2 : Gr) (x1 : Int32) : Option (Int32 × Gr) := (f_X11_within x1 0 8).bind fun u1 => if u1 = 0 then (some ((-2), S1)) else ((f_X8_has S1 x1).bind fun u3 => if u3 = 0 then (some ((-2), S1)) else (f_X11_check_n28 S0 S2 x1 fu S1 (-1) 0))
set_option maxHeartbeats 4000000 in
set_option maxRecDepth 100000 in
theorem c_X11_check (l : Launch) (E : Ec) (q0 q1 q2 : Nat → Nat) (t1 t2 t3 t4 t5 t6 t7 t8 t10 t11 : Nat) (sz : Nat) (S0 : Gr) (S1 : Gr) (S2 : Gr) (x1 : Int32) (Rv : Int32 × Gr) (h : f_X11_check S0 S1 S2 x1 = some Rv) : Met l yX11_check (wsM (.code yX11_check cX11_check 5 (some .int))) ({ frames := 3, cells := 0, slots := 0, locals := 65 } : Room) (va_Pc [.ref (q0 0), .int x1] (ctP E (cw_X11 E q0 (q1 0) t1 t2 t3 t4 t5 t6 t7 t8 (q2 0) t10 t11 S0 ++ (cw_X8 E q1 S1 ++ (cw_X7 E q2 S2))) sz)) (ctI E (cw_X11 E q0 (q1 0) t1 t2 t3 t4 t5 t6 t7 t8 (q2 0) t10 t11 S0 ++ (cw_X8 E q1 S1 ++ (cw_X7 E q2 S2))) (cw_X11 E q0 (q1 0) t1 t2 t3 t4 t5 t6 t7 t8 (q2 0) t10 t11 S0 ++ (cw_X8 E q1 Rv.2 ++ (cw_X7 E q2 S2))) sz Rv.1) 0 0 (va_A (cw_X11 E q0 (q1 0) t1 t2 t3 t4 t5 t6 t7 t8 (q2 0) t10 t11 S0 ++ (cw_X8 E q1 S1 ++ (cw_X7 E q2 S2))) sz) := by
  refine ct_metI (by decide) (Nat.le_of_ble_eq_true rfl) ?_
  intro p e s m ar below meth c A QM hx hb hml hown hg X hP hD hS RET ls hl
  have hown : s.vm.findClass RX11 = some m.cls := hown
  have hl : lv_has ls 5 [(0, .ref (q0 0)), (1, .int x1)] := hl
  have RT : ∀ (v : Int32) (S1 : Gr) (H : Heap) (locs : List Loc) (ls : Array Slot) (pc : Nat), some (v, S1) = some Rv → narrow .int (.int v) = .int v → va_P E.1 vwCl (cw_X11 E q0 (q1 0) t1 t2 t3 t4 t5 t6 t7 t8 (q2 0) t10 t11 S0 ++ (cw_X8 E q1 S1 ++ (cw_X7 E q2 S2))) H → va_D A (cw_X11 E q0 (q1 0) t1 t2 t3 t4 t5 t6 t7 t8 (q2 0) t10 t11 S0 ++ (cw_X8 E q1 S1 ++ (cw_X7 E q2 S2))) → va_S A s.heap H locs → decode cX11_check pc = .ok (.ireturn, 1) → W p l e ({ frames := 3, cells := 0, slots := 0, locals := 65 } : Room) s m ar below meth c H locs 0 0 QM (F0 m pc ls [.int v]) := by
    intro v S1 H locs ls pc e hn hP hD hS d
    obtain rfl := sm_e e
    exact RET H locs pc ls hn hP hD hS d
  clear RET
  have N28 : ∀ (n : Nat) (S1 : Gr) (x2 : Int32) (x3 : Int32) (H : Heap) (locs : List Loc) (ls : Array Slot), f_X11_check_n28 S0 S2 x1 n S1 x2 x3 = some Rv → va_P E.1 vwCl (cw_X11 E q0 (q1 0) t1 t2 t3 t4 t5 t6 t7 t8 (q2 0) t10 t11 S0 ++ (cw_X8 E q1 S1 ++ (cw_X7 E q2 S2))) H → va_D A (cw_X11 E q0 (q1 0) t1 t2 t3 t4 t5 t6 t7 t8 (q2 0) t10 t11 S0 ++ (cw_X8 E q1 S1 ++ (cw_X7 E q2 S2))) → va_S A s.heap H locs → lv_has ls 5 [(0, .ref (q0 0)), (1, .int x1), (2, .int x2), (3, .int x3)] → W p l e ({ frames := 3, cells := 0, slots := 0, locals := 65 } : Room) s m ar below meth c H locs 0 0 QM (F0 m 28 ls []) := by
    intro n
    induction n with
    | zero => intro S1 x2 x3 H locs ls h; exact nn_el h
    | succ n ih =>
      intro S1 x2 x3 H locs ls h hP hD hS hl
      refine lv_iload_n hx hb dX11_check_28 rfl (lv_at hl 3 rfl) ?_
      refine lv_iload_n hx hb dX11_check_29 rfl (lv_at hl 1 rfl) ?_
      refine lv_icmp_ge (tgt := 86) hx hb dX11_check_30 (by decide) (fun c5 => ?_) (fun c5 => ?_)
      · have h := it_t h c5
        refine lv_aload_n hx hb dX11_check_86 rfl (lv_at hl 0 rfl) ?_
        refine va_get (D := E.1) (ci := 10) (v := .ref (q1 0)) (C := RX11) (T := TX11) (N := 13) hx hb hg in_X11 hown X.1 hP 0 rfl rfl 0 (by decide) (hg _ wf_X11_10) (fun _ h9 => h9) rfl dX11_check_87 ?_
        obtain ⟨u6, hc, h⟩ := bd_el h
        have hC : ([1, 2] : List Nat).map (fun i => (cw_X11 E q0 (q1 0) t1 t2 t3 t4 t5 t6 t7 t8 (q2 0) t10 t11 S0 ++ (cw_X8 E q1 S1 ++ (cw_X7 E q2 S2)))[i]?) = (cw_X8 E q1 S1).map some := rfl
        refine ct_v (ws' := cw_X11 E q0 (q1 0) t1 t2 t3 t4 t5 t6 t7 t8 (q2 0) t10 t11 S0 ++ (cw_X8 E q1 u6 ++ (cw_X7 E q2 S2))) X hP hD hS [1, 2] (va_runV (C := RX8) (As := []) (rest := []) ⟨hx, hb, hml, hown, hg⟩ (c_X8_empty l E q1 H.size S1 u6 hc) (cwV 0 hg (gwV wm_X11_115 wi_X8_empty wsl_X8_empty wini_X8 wco_X8_empty) rfl rfl rfl (by decide +kernel) ⟨Nat.le_of_ble_eq_true rfl, Nat.le_of_ble_eq_true rfl⟩) ⟨ct_blind, ct_rv X.1 hP 1 rfl rfl, ct_pre X hP hD hS [1, 2] (by decide) hC _⟩ rfl rfl hl.1 rfl (lv_room (Nat.le_of_ble_eq_true rfl)) dX11_check_90 ⟨Nat.zero_le _, Nat.zero_le _⟩) hC rfl rfl (fun H locs hP hD hS => ?_)
        clear hC
        refine lv_iload_n hx hb dX11_check_93 rfl (lv_at hl 2 rfl) ?_
        exact RT x2 u6 _ _ _ _ h rfl hP hD hS dX11_check_94
      · have h := it_f h c5
        refine lv_iload_n hx hb dX11_check_33 rfl (lv_at hl 2 rfl) ?_
        refine lv_iconst (v := (-1)) hx hb dX11_check_34 (by decide) ?_
        refine lv_icmp_ne (tgt := 86) hx hb dX11_check_35 (by decide) (fun c7 => ?_) (fun c7 => ?_)
        · have h := it_f h c7
          refine lv_aload_n hx hb dX11_check_86 rfl (lv_at hl 0 rfl) ?_
          refine va_get (D := E.1) (ci := 10) (v := .ref (q1 0)) (C := RX11) (T := TX11) (N := 13) hx hb hg in_X11 hown X.1 hP 0 rfl rfl 0 (by decide) (hg _ wf_X11_10) (fun _ h9 => h9) rfl dX11_check_87 ?_
          obtain ⟨u8, hc, h⟩ := bd_el h
          have hC : ([1, 2] : List Nat).map (fun i => (cw_X11 E q0 (q1 0) t1 t2 t3 t4 t5 t6 t7 t8 (q2 0) t10 t11 S0 ++ (cw_X8 E q1 S1 ++ (cw_X7 E q2 S2)))[i]?) = (cw_X8 E q1 S1).map some := rfl
          refine ct_v (ws' := cw_X11 E q0 (q1 0) t1 t2 t3 t4 t5 t6 t7 t8 (q2 0) t10 t11 S0 ++ (cw_X8 E q1 u8 ++ (cw_X7 E q2 S2))) X hP hD hS [1, 2] (va_runV (C := RX8) (As := []) (rest := []) ⟨hx, hb, hml, hown, hg⟩ (c_X8_empty l E q1 H.size S1 u8 hc) (cwV 0 hg (gwV wm_X11_115 wi_X8_empty wsl_X8_empty wini_X8 wco_X8_empty) rfl rfl rfl (by decide +kernel) ⟨Nat.le_of_ble_eq_true rfl, Nat.le_of_ble_eq_true rfl⟩) ⟨ct_blind, ct_rv X.1 hP 1 rfl rfl, ct_pre X hP hD hS [1, 2] (by decide) hC _⟩ rfl rfl hl.1 rfl (lv_room (Nat.le_of_ble_eq_true rfl)) dX11_check_90 ⟨Nat.zero_le _, Nat.zero_le _⟩) hC rfl rfl (fun H locs hP hD hS => ?_)
          clear hC
          refine lv_iload_n hx hb dX11_check_93 rfl (lv_at hl 2 rfl) ?_
          exact RT x2 u8 _ _ _ _ h rfl hP hD hS dX11_check_94
        · have h := it_t h c7
          refine lv_aload_n hx hb dX11_check_38 rfl (lv_at hl 0 rfl) ?_
          refine va_get (D := E.1) (ci := 10) (v := .ref (q2 0)) (C := RX11) (T := TX11) (N := 13) hx hb hg in_X11 hown X.1 hP 0 rfl rfl 9 (by decide) (hg _ wf_X11_71) (fun _ h9 => h9) rfl dX11_check_39 ?_
          refine lv_iload_n hx hb dX11_check_42 rfl (lv_at hl 3 rfl) ?_
          obtain ⟨u9, hc, h⟩ := bd_el h
          have hC : ([3, 4, 5, 6, 7, 8, 9, 10] : List Nat).map (fun i => (cw_X11 E q0 (q1 0) t1 t2 t3 t4 t5 t6 t7 t8 (q2 0) t10 t11 S0 ++ (cw_X8 E q1 S1 ++ (cw_X7 E q2 S2)))[i]?) = (cw_X7 E q2 S2).map some := rfl
          refine ct_iR X hP hD hS [3, 4, 5, 6, 7, 8, 9, 10] hC (va_runV (C := RX7) (As := [.int x3]) (rest := []) ⟨hx, hb, hml, hown, hg⟩ (c_X7_hasWeb l E q2 H.size S2 x3 u9 hc) (cwV 1 hg (gwV wm_X11_85 wi_X7_hasWeb wsl_X7_hasWeb wini_X7 wco_X7_hasWeb) rfl rfl rfl (by decide +kernel) ⟨Nat.le_of_ble_eq_true rfl, Nat.le_of_ble_eq_true rfl⟩) ⟨ct_blind, ct_rv X.1 hP 3 rfl rfl, ct_pre X hP hD hS [3, 4, 5, 6, 7, 8, 9, 10] (by decide) hC _⟩ rfl rfl hl.1 rfl (lv_room (Nat.le_of_ble_eq_true rfl)) dX11_check_43 ⟨Nat.zero_le _, Nat.zero_le _⟩) (fun H locs hP hD hS => ?_)
          clear hC
          refine lv_if_eq (tgt := 60) hx hb dX11_check_46 (by decide) (fun c10 => ?_) (fun c10 => ?_)
          · have h := it_t h c10
            refine lv_sipush (v := 255) hx hb dX11_check_60 (by decide) ?_
            refine lv_istore (lv' := [(4, .int 255), (0, .ref (q0 0)), (1, .int x1), (2, .int x2), (3, .int x3)]) hx hb dX11_check_63 hl (by decide) rfl (fun ls hl => ?_)
            refine lv_aload_n hx hb dX11_check_65 rfl (lv_at hl 1 rfl) ?_
            refine va_get (D := E.1) (ci := 10) (v := .ref (q1 0)) (C := RX11) (T := TX11) (N := 13) hx hb hg in_X11 hown X.1 hP 0 rfl rfl 0 (by decide) (hg _ wf_X11_10) (fun _ h9 => h9) rfl dX11_check_66 ?_
            refine lv_iload_n hx hb dX11_check_69 rfl (lv_at hl 4 rfl) ?_
            obtain ⟨u11, hc, h⟩ := bd_el h
            have hC : ([1, 2] : List Nat).map (fun i => (cw_X11 E q0 (q1 0) t1 t2 t3 t4 t5 t6 t7 t8 (q2 0) t10 t11 S0 ++ (cw_X8 E q1 S1 ++ (cw_X7 E q2 S2)))[i]?) = (cw_X8 E q1 S1).map some := rfl
            refine ct_iR X hP hD hS [1, 2] hC (va_runV (C := RX8) (As := [.int x3]) (rest := []) ⟨hx, hb, hml, hown, hg⟩ (c_X8_at l E q1 H.size S1 x3 u11 hc) (cwV 1 hg (gwV wm_X11_260 wi_X8_at wsl_X8_at wini_X8 wco_X8_at) rfl rfl rfl (by decide +kernel) ⟨Nat.le_of_ble_eq_true rfl, Nat.le_of_ble_eq_true rfl⟩) ⟨ct_blind, ct_rv X.1 hP 1 rfl rfl, ct_pre X hP hD hS [1, 2] (by decide) hC _⟩ rfl rfl hl.1 rfl (lv_room (Nat.le_of_ble_eq_true rfl)) dX11_check_70 ⟨Nat.zero_le _, Nat.zero_le _⟩) (fun H locs hP hD hS => ?_)
            clear hC
            refine lv_iload hx hb dX11_check_73 (lv_at hl 0 rfl) ?_
            refine lv_icmp_eq (tgt := 80) hx hb dX11_check_75 (by decide) (fun c12 => ?_) (fun c12 => ?_)
            · have h := it_t h c12
              obtain ⟨v13, ev13, h⟩ := lt_el h
              refine lv_iinc (v := v13) (lv' := [(3, .int v13), (4, .int 255), (0, .ref (q0 0)), (1, .int x1), (2, .int x2)]) hx hb dX11_check_80 hl (k := 4) rfl (by rw [ev13]; rfl) (by decide) rfl (fun ls hl => ?_)
              refine lv_goto (tgt := 28) hx hb dX11_check_83 (by decide) ?_
              exact ih S1 x2 v13 _ _ _ h hP hD hS (lv_sub hl [2, 3, 4, 0] rfl)
            · have h := it_f h c12
              refine lv_iload_n hx hb dX11_check_78 rfl (lv_at hl 4 rfl) ?_
              refine lv_istore_n (lv' := [(2, .int x3), (4, .int 255), (0, .ref (q0 0)), (1, .int x1), (3, .int x3)]) hx hb dX11_check_79 rfl hl (by decide) rfl (fun ls hl => ?_)
              obtain ⟨v14, ev14, h⟩ := lt_el h
              refine lv_iinc (v := v14) (lv' := [(3, .int v14), (2, .int x3), (4, .int 255), (0, .ref (q0 0)), (1, .int x1)]) hx hb dX11_check_80 hl (k := 4) rfl (by rw [ev14]; rfl) (by decide) rfl (fun ls hl => ?_)
              refine lv_goto (tgt := 28) hx hb dX11_check_83 (by decide) ?_
              exact ih S1 x3 v14 _ _ _ h hP hD hS (lv_sub hl [3, 4, 1, 0] rfl)
          · have h := it_f h c10
            refine lv_aload_n hx hb dX11_check_49 rfl (lv_at hl 0 rfl) ?_
            refine va_get (D := E.1) (ci := 10) (v := .ref (q2 0)) (C := RX11) (T := TX11) (N := 13) hx hb hg in_X11 hown X.1 hP 0 rfl rfl 9 (by decide) (hg _ wf_X11_71) (fun _ h9 => h9) rfl dX11_check_50 ?_
            refine lv_iload_n hx hb dX11_check_53 rfl (lv_at hl 3 rfl) ?_
            obtain ⟨u15, hc, h⟩ := bd_el h
            have hC : ([3, 4, 5, 6, 7, 8, 9, 10] : List Nat).map (fun i => (cw_X11 E q0 (q1 0) t1 t2 t3 t4 t5 t6 t7 t8 (q2 0) t10 t11 S0 ++ (cw_X8 E q1 S1 ++ (cw_X7 E q2 S2)))[i]?) = (cw_X7 E q2 S2).map some := rfl
            refine ct_iR X hP hD hS [3, 4, 5, 6, 7, 8, 9, 10] hC (va_runV (C := RX7) (As := [.int x3]) (rest := []) ⟨hx, hb, hml, hown, hg⟩ (c_X7_slackSpokes l E q2 H.size S2 x3 u15 hc) (cwV 1 hg (gwV wm_X11_257 wi_X7_slackSpokes wsl_X7_slackSpokes wini_X7 wco_X7_slackSpokes) rfl rfl rfl (by decide +kernel) ⟨Nat.le_of_ble_eq_true rfl, Nat.le_of_ble_eq_true rfl⟩) ⟨ct_blind, ct_rv X.1 hP 3 rfl rfl, ct_pre X hP hD hS [3, 4, 5, 6, 7, 8, 9, 10] (by decide) hC _⟩ rfl rfl hl.1 rfl (lv_room (Nat.le_of_ble_eq_true rfl)) dX11_check_54 ⟨Nat.zero_le _, Nat.zero_le _⟩) (fun H locs hP hD hS => ?_)
            clear hC
            refine lv_goto (tgt := 63) hx hb dX11_check_57 (by decide) ?_
            refine lv_istore (lv' := [(4, .int u15), (0, .ref (q0 0)), (1, .int x1), (2, .int x2), (3, .int x3)]) hx hb dX11_check_63 hl (by decide) rfl (fun ls hl => ?_)
            refine lv_aload_n hx hb dX11_check_65 rfl (lv_at hl 1 rfl) ?_
            refine va_get (D := E.1) (ci := 10) (v := .ref (q1 0)) (C := RX11) (T := TX11) (N := 13) hx hb hg in_X11 hown X.1 hP 0 rfl rfl 0 (by decide) (hg _ wf_X11_10) (fun _ h9 => h9) rfl dX11_check_66 ?_
            refine lv_iload_n hx hb dX11_check_69 rfl (lv_at hl 4 rfl) ?_
            obtain ⟨u16, hc, h⟩ := bd_el h
            have hC : ([1, 2] : List Nat).map (fun i => (cw_X11 E q0 (q1 0) t1 t2 t3 t4 t5 t6 t7 t8 (q2 0) t10 t11 S0 ++ (cw_X8 E q1 S1 ++ (cw_X7 E q2 S2)))[i]?) = (cw_X8 E q1 S1).map some := rfl
            refine ct_iR X hP hD hS [1, 2] hC (va_runV (C := RX8) (As := [.int x3]) (rest := []) ⟨hx, hb, hml, hown, hg⟩ (c_X8_at l E q1 H.size S1 x3 u16 hc) (cwV 1 hg (gwV wm_X11_260 wi_X8_at wsl_X8_at wini_X8 wco_X8_at) rfl rfl rfl (by decide +kernel) ⟨Nat.le_of_ble_eq_true rfl, Nat.le_of_ble_eq_true rfl⟩) ⟨ct_blind, ct_rv X.1 hP 1 rfl rfl, ct_pre X hP hD hS [1, 2] (by decide) hC _⟩ rfl rfl hl.1 rfl (lv_room (Nat.le_of_ble_eq_true rfl)) dX11_check_70 ⟨Nat.zero_le _, Nat.zero_le _⟩) (fun H locs hP hD hS => ?_)
            clear hC
            refine lv_iload hx hb dX11_check_73 (lv_at hl 0 rfl) ?_
            refine lv_icmp_eq (tgt := 80) hx hb dX11_check_75 (by decide) (fun c17 => ?_) (fun c17 => ?_)
            · have h := it_t h c17
              obtain ⟨v18, ev18, h⟩ := lt_el h
              refine lv_iinc (v := v18) (lv' := [(3, .int v18), (4, .int u15), (0, .ref (q0 0)), (1, .int x1), (2, .int x2)]) hx hb dX11_check_80 hl (k := 4) rfl (by rw [ev18]; rfl) (by decide) rfl (fun ls hl => ?_)
              refine lv_goto (tgt := 28) hx hb dX11_check_83 (by decide) ?_
              exact ih S1 x2 v18 _ _ _ h hP hD hS (lv_sub hl [2, 3, 4, 0] rfl)
            · have h := it_f h c17
              refine lv_iload_n hx hb dX11_check_78 rfl (lv_at hl 4 rfl) ?_
              refine lv_istore_n (lv' := [(2, .int x3), (4, .int u15), (0, .ref (q0 0)), (1, .int x1), (3, .int x3)]) hx hb dX11_check_79 rfl hl (by decide) rfl (fun ls hl => ?_)
              obtain ⟨v19, ev19, h⟩ := lt_el h
              refine lv_iinc (v := v19) (lv' := [(3, .int v19), (2, .int x3), (4, .int u15), (0, .ref (q0 0)), (1, .int x1)]) hx hb dX11_check_80 hl (k := 4) rfl (by rw [ev19]; rfl) (by decide) rfl (fun ls hl => ?_)
              refine lv_goto (tgt := 28) hx hb dX11_check_83 (by decide) ?_
              exact ih S1 x3 v19 _ _ _ h hP hD hS (lv_sub hl [3, 4, 1, 0] rfl)
  obtain ⟨H, eH⟩ : ∃ z, z = s.heap := ⟨_, rfl⟩
  rw [← eH]
  have hP : va_P E.1 vwCl (cw_X11 E q0 (q1 0) t1 t2 t3 t4 t5 t6 t7 t8 (q2 0) t10 t11 S0 ++ (cw_X8 E q1 S1 ++ (cw_X7 E q2 S2))) H := by rw [eH]; exact hP
  have hS : va_S A s.heap H [] := by rw [eH]; exact hS
  clear eH
  obtain ⟨locs, el⟩ : ∃ z : List Loc, z = [] := ⟨_, rfl⟩
  rw [← el] at hS ⊢
  clear el
  refine lv_iload_n hx hb dX11_check_0 rfl (lv_at hl 1 rfl) ?_
  refine lv_iconst (v := 0) hx hb dX11_check_1 (by decide) ?_
  refine lv_bipush (v := 8) hx hb dX11_check_2 (by decide) ?_
  obtain ⟨u1, hc, h⟩ := bd_el h
  refine ct_iN X hP hD hS (va_runS (As := [.int x1, .int 0, .int 8]) (rest := []) ⟨hx, hb, hml, hown, hg⟩ (c_X11_within l E  H.size x1 0 8 u1 hc) (va_cwS 3 hg (gwS wm_X11_89 wst_X11_within wini_X11 wco_X11_within) rfl rfl rfl (by decide +kernel) ⟨Nat.le_of_ble_eq_true rfl, Nat.le_of_ble_eq_true rfl⟩) ⟨ct_blind, ct_preN X hS _⟩ rfl rfl hl.1 rfl (lv_room (Nat.le_of_ble_eq_true rfl)) dX11_check_4 ⟨Nat.zero_le _, Nat.zero_le _⟩) (fun H locs hP hD hS => ?_)
  refine lv_if_eq (tgt := 21) hx hb dX11_check_7 (by decide) (fun c2 => ?_) (fun c2 => ?_)
  · have h := it_t h c2
    refine lv_bipush (v := (-2)) hx hb dX11_check_21 (by decide) ?_
    exact RT (-2) S1 _ _ _ _ h rfl hP hD hS dX11_check_23
  · have h := it_f h c2
    refine lv_aload_n hx hb dX11_check_10 rfl (lv_at hl 0 rfl) ?_
    refine va_get (D := E.1) (ci := 10) (v := .ref (q1 0)) (C := RX11) (T := TX11) (N := 13) hx hb hg in_X11 hown X.1 hP 0 rfl rfl 0 (by decide) (hg _ wf_X11_10) (fun _ h9 => h9) rfl dX11_check_11 ?_
    refine lv_iload_n hx hb dX11_check_14 rfl (lv_at hl 1 rfl) ?_
    obtain ⟨u3, hc, h⟩ := bd_el h
    have hC : ([1, 2] : List Nat).map (fun i => (cw_X11 E q0 (q1 0) t1 t2 t3 t4 t5 t6 t7 t8 (q2 0) t10 t11 S0 ++ (cw_X8 E q1 S1 ++ (cw_X7 E q2 S2)))[i]?) = (cw_X8 E q1 S1).map some := rfl
    refine ct_iR X hP hD hS [1, 2] hC (va_runV (C := RX8) (As := [.int x1]) (rest := []) ⟨hx, hb, hml, hown, hg⟩ (c_X8_has l E q1 H.size S1 x1 u3 hc) (cwV 1 hg (gwV wm_X11_108 wi_X8_has wsl_X8_has wini_X8 wco_X8_has) rfl rfl rfl (by decide +kernel) ⟨Nat.le_of_ble_eq_true rfl, Nat.le_of_ble_eq_true rfl⟩) ⟨ct_blind, ct_rv X.1 hP 1 rfl rfl, ct_pre X hP hD hS [1, 2] (by decide) hC _⟩ rfl rfl hl.1 rfl (lv_room (Nat.le_of_ble_eq_true rfl)) dX11_check_15 ⟨Nat.zero_le _, Nat.zero_le _⟩) (fun H locs hP hD hS => ?_)
    clear hC
    refine lv_if_ne (tgt := 24) hx hb dX11_check_18 (by decide) (fun c4 => ?_) (fun c4 => ?_)
    · have h := it_f h c4
      refine lv_iconst (v := (-1)) hx hb dX11_check_24 (by decide) ?_
      refine lv_istore_n (lv' := [(2, .int (-1)), (0, .ref (q0 0)), (1, .int x1)]) hx hb dX11_check_25 rfl hl (by decide) rfl (fun ls hl => ?_)
      refine lv_iconst (v := 0) hx hb dX11_check_26 (by decide) ?_
      refine lv_istore_n (lv' := [(3, .int 0), (2, .int (-1)), (0, .ref (q0 0)), (1, .int x1)]) hx hb dX11_check_27 rfl hl (by decide) rfl (fun ls hl => ?_)
      exact N28 fu S1 (-1) 0 _ _ _ h hP hD hS (lv_sub hl [2, 3, 1, 0] rfl)
    · have h := it_t h c4
      refine lv_bipush (v := (-2)) hx hb dX11_check_21 (by decide) ?_
      exact RT (-2) S1 _ _ _ _ h rfl hP hD hS dX11_check_23
theorem dX11_code_0 : decode cX11_code 0 = .ok (.iload_n 1, 1) := by decide +kernel
theorem dX11_code_1 : decode cX11_code 1 = .ok (.iconst 2, 1) := by decide +kernel
theorem dX11_code_2 : decode cX11_code 2 = .ok (.bipush 12, 2) := by decide +kernel
theorem dX11_code_4 : decode cX11_code 4 = .ok (.invokestatic 89, 3) := by decide +kernel
theorem dX11_code_7 : decode cX11_code 7 = .ok (.ifCond .eq 23, 3) := by decide +kernel
theorem dX11_code_10 : decode cX11_code 10 = .ok (.iload_n 2, 1) := by decide +kernel
theorem dX11_code_11 : decode cX11_code 11 = .ok (.iconst 0, 1) := by decide +kernel
theorem dX11_code_12 : decode cX11_code 12 = .ok (.iconst 1, 1) := by decide +kernel
theorem dX11_code_13 : decode cX11_code 13 = .ok (.invokestatic 89, 3) := by decide +kernel
theorem dX11_code_16 : decode cX11_code 16 = .ok (.ifCond .eq 14, 3) := by decide +kernel
theorem dX11_code_19 : decode cX11_code 19 = .ok (.aload_n 0, 1) := by decide +kernel
theorem dX11_code_20 : decode cX11_code 20 = .ok (.getfield 10, 3) := by decide +kernel
theorem dX11_code_23 : decode cX11_code 23 = .ok (.iload_n 1, 1) := by decide +kernel
theorem dX11_code_24 : decode cX11_code 24 = .ok (.invokevirtual 108, 3) := by decide +kernel
theorem dX11_code_27 : decode cX11_code 27 = .ok (.ifCond .ne 5, 3) := by decide +kernel
theorem dX11_code_30 : decode cX11_code 30 = .ok (.iconst (-1), 1) := by decide +kernel
theorem dX11_code_31 : decode cX11_code 31 = .ok (.ireturn, 1) := by decide +kernel
theorem dX11_code_32 : decode cX11_code 32 = .ok (.aload_n 0, 1) := by decide +kernel
theorem dX11_code_33 : decode cX11_code 33 = .ok (.getfield 47, 3) := by decide +kernel
theorem dX11_code_36 : decode cX11_code 36 = .ok (.aload_n 0, 1) := by decide +kernel
theorem dX11_code_37 : decode cX11_code 37 = .ok (.getfield 10, 3) := by decide +kernel
theorem dX11_code_40 : decode cX11_code 40 = .ok (.iload_n 1, 1) := by decide +kernel
theorem dX11_code_41 : decode cX11_code 41 = .ok (.iload_n 2, 1) := by decide +kernel
theorem dX11_code_42 : decode cX11_code 42 = .ok (.invokevirtual 229, 3) := by decide +kernel
theorem dX11_code_45 : decode cX11_code 45 = .ok (.istore_n 3, 1) := by decide +kernel
theorem dX11_code_46 : decode cX11_code 46 = .ok (.aload_n 0, 1) := by decide +kernel
theorem dX11_code_47 : decode cX11_code 47 = .ok (.getfield 10, 3) := by decide +kernel
theorem dX11_code_50 : decode cX11_code 50 = .ok (.invokevirtual 115, 3) := by decide +kernel
theorem dX11_code_53 : decode cX11_code 53 = .ok (.iload_n 3, 1) := by decide +kernel
theorem dX11_code_54 : decode cX11_code 54 = .ok (.ireturn, 1) := by decide +kernel
def f_X11_code (S0 : Gr) (S1 : Gr) (S2 : Gr) (x1 : Int32) (x2 : Int32) : Option (Int32 × Gr × Gr) := (f_X11_within x1 2 12).bind fun u1 => if u1 = 0 then (some ((-1), S1, S2)) else ((f_X11_within x2 0 1).bind fun u3 => if u3 = 0 then (some ((-1), S1, S2)) else ((f_X8_has S1 x1).bind fun u5 => if u5 = 0 then (some ((-1), S1, S2)) else ((f_X2_shortestCode S2 S1 x1 x2).bind fun u7 => (f_X8_empty S1).bind fun u8 => some (u7.1, u8, u7.2))))
set_option maxHeartbeats 4000000 in
set_option maxRecDepth 100000 in
theorem c_X11_code (l : Launch) (E : Ec) (q0 q1 q2 : Nat → Nat) (t1 t2 t3 t4 t6 t7 t8 t9 t10 t11 : Nat) (sz : Nat) (S0 : Gr) (S1 : Gr) (S2 : Gr) (x1 : Int32) (x2 : Int32) (Rv : Int32 × Gr × Gr) (h : f_X11_code S0 S1 S2 x1 x2 = some Rv) : Met l yX11_code (wsM (.code yX11_code cX11_code 4 (some .int))) ({ frames := 3, cells := 0, slots := 0, locals := 71 } : Room) (va_Pc [.ref (q0 0), .int x1, .int x2] (ctP E (cw_X11 E q0 (q1 0) t1 t2 t3 t4 (q2 0) t6 t7 t8 t9 t10 t11 S0 ++ (cw_X8 E q1 S1 ++ (cw_X2 E q2 S2))) sz)) (ctI E (cw_X11 E q0 (q1 0) t1 t2 t3 t4 (q2 0) t6 t7 t8 t9 t10 t11 S0 ++ (cw_X8 E q1 S1 ++ (cw_X2 E q2 S2))) (cw_X11 E q0 (q1 0) t1 t2 t3 t4 (q2 0) t6 t7 t8 t9 t10 t11 S0 ++ (cw_X8 E q1 Rv.2.1 ++ (cw_X2 E q2 Rv.2.2))) sz Rv.1) 0 0 (va_A (cw_X11 E q0 (q1 0) t1 t2 t3 t4 (q2 0) t6 t7 t8 t9 t10 t11 S0 ++ (cw_X8 E q1 S1 ++ (cw_X2 E q2 S2))) sz) := by
  refine ct_metI (by decide) (Nat.le_of_ble_eq_true rfl) ?_
  intro p e s m ar below meth c A QM hx hb hml hown hg X hP hD hS RET ls hl
  have hown : s.vm.findClass RX11 = some m.cls := hown
  have hl : lv_has ls 4 [(0, .ref (q0 0)), (1, .int x1), (2, .int x2)] := hl
  have RT : ∀ (v : Int32) (S1 : Gr) (S2 : Gr) (H : Heap) (locs : List Loc) (ls : Array Slot) (pc : Nat), some (v, S1, S2) = some Rv → narrow .int (.int v) = .int v → va_P E.1 vwCl (cw_X11 E q0 (q1 0) t1 t2 t3 t4 (q2 0) t6 t7 t8 t9 t10 t11 S0 ++ (cw_X8 E q1 S1 ++ (cw_X2 E q2 S2))) H → va_D A (cw_X11 E q0 (q1 0) t1 t2 t3 t4 (q2 0) t6 t7 t8 t9 t10 t11 S0 ++ (cw_X8 E q1 S1 ++ (cw_X2 E q2 S2))) → va_S A s.heap H locs → decode cX11_code pc = .ok (.ireturn, 1) → W p l e ({ frames := 3, cells := 0, slots := 0, locals := 71 } : Room) s m ar below meth c H locs 0 0 QM (F0 m pc ls [.int v]) := by
    intro v S1 S2 H locs ls pc e hn hP hD hS d
    obtain rfl := sm_e e
    exact RET H locs pc ls hn hP hD hS d
  clear RET
  obtain ⟨H, eH⟩ : ∃ z, z = s.heap := ⟨_, rfl⟩
  rw [← eH]
  have hP : va_P E.1 vwCl (cw_X11 E q0 (q1 0) t1 t2 t3 t4 (q2 0) t6 t7 t8 t9 t10 t11 S0 ++ (cw_X8 E q1 S1 ++ (cw_X2 E q2 S2))) H := by rw [eH]; exact hP
  have hS : va_S A s.heap H [] := by rw [eH]; exact hS
  clear eH
  obtain ⟨locs, el⟩ : ∃ z : List Loc, z = [] := ⟨_, rfl⟩
  rw [← el] at hS ⊢
  clear el
  refine lv_iload_n hx hb dX11_code_0 rfl (lv_at hl 1 rfl) ?_
  refine lv_iconst (v := 2) hx hb dX11_code_1 (by decide) ?_
  refine lv_bipush (v := 12) hx hb dX11_code_2 (by decide) ?_
  obtain ⟨u1, hc, h⟩ := bd_el h
  refine ct_iN X hP hD hS (va_runS (As := [.int x1, .int 2, .int 12]) (rest := []) ⟨hx, hb, hml, hown, hg⟩ (c_X11_within l E  H.size x1 2 12 u1 hc) (va_cwS 3 hg (gwS wm_X11_89 wst_X11_within wini_X11 wco_X11_within) rfl rfl rfl (by decide +kernel) ⟨Nat.le_of_ble_eq_true rfl, Nat.le_of_ble_eq_true rfl⟩) ⟨ct_blind, ct_preN X hS _⟩ rfl rfl hl.1 rfl (lv_room (Nat.le_of_ble_eq_true rfl)) dX11_code_4 ⟨Nat.zero_le _, Nat.zero_le _⟩) (fun H locs hP hD hS => ?_)
  refine lv_if_eq (tgt := 30) hx hb dX11_code_7 (by decide) (fun c2 => ?_) (fun c2 => ?_)
  · have h := it_t h c2
    refine lv_iconst (v := (-1)) hx hb dX11_code_30 (by decide) ?_
    exact RT (-1) S1 S2 _ _ _ _ h rfl hP hD hS dX11_code_31
  · have h := it_f h c2
    refine lv_iload_n hx hb dX11_code_10 rfl (lv_at hl 2 rfl) ?_
    refine lv_iconst (v := 0) hx hb dX11_code_11 (by decide) ?_
    refine lv_iconst (v := 1) hx hb dX11_code_12 (by decide) ?_
    obtain ⟨u3, hc, h⟩ := bd_el h
    refine ct_iN X hP hD hS (va_runS (As := [.int x2, .int 0, .int 1]) (rest := []) ⟨hx, hb, hml, hown, hg⟩ (c_X11_within l E  H.size x2 0 1 u3 hc) (va_cwS 3 hg (gwS wm_X11_89 wst_X11_within wini_X11 wco_X11_within) rfl rfl rfl (by decide +kernel) ⟨Nat.le_of_ble_eq_true rfl, Nat.le_of_ble_eq_true rfl⟩) ⟨ct_blind, ct_preN X hS _⟩ rfl rfl hl.1 rfl (lv_room (Nat.le_of_ble_eq_true rfl)) dX11_code_13 ⟨Nat.zero_le _, Nat.zero_le _⟩) (fun H locs hP hD hS => ?_)
    refine lv_if_eq (tgt := 30) hx hb dX11_code_16 (by decide) (fun c4 => ?_) (fun c4 => ?_)
    · have h := it_t h c4
      refine lv_iconst (v := (-1)) hx hb dX11_code_30 (by decide) ?_
      exact RT (-1) S1 S2 _ _ _ _ h rfl hP hD hS dX11_code_31
    · have h := it_f h c4
      refine lv_aload_n hx hb dX11_code_19 rfl (lv_at hl 0 rfl) ?_
      refine va_get (D := E.1) (ci := 10) (v := .ref (q1 0)) (C := RX11) (T := TX11) (N := 13) hx hb hg in_X11 hown X.1 hP 0 rfl rfl 0 (by decide) (hg _ wf_X11_10) (fun _ h9 => h9) rfl dX11_code_20 ?_
      refine lv_iload_n hx hb dX11_code_23 rfl (lv_at hl 1 rfl) ?_
      obtain ⟨u5, hc, h⟩ := bd_el h
      have hC : ([1, 2] : List Nat).map (fun i => (cw_X11 E q0 (q1 0) t1 t2 t3 t4 (q2 0) t6 t7 t8 t9 t10 t11 S0 ++ (cw_X8 E q1 S1 ++ (cw_X2 E q2 S2)))[i]?) = (cw_X8 E q1 S1).map some := rfl
      refine ct_iR X hP hD hS [1, 2] hC (va_runV (C := RX8) (As := [.int x1]) (rest := []) ⟨hx, hb, hml, hown, hg⟩ (c_X8_has l E q1 H.size S1 x1 u5 hc) (cwV 1 hg (gwV wm_X11_108 wi_X8_has wsl_X8_has wini_X8 wco_X8_has) rfl rfl rfl (by decide +kernel) ⟨Nat.le_of_ble_eq_true rfl, Nat.le_of_ble_eq_true rfl⟩) ⟨ct_blind, ct_rv X.1 hP 1 rfl rfl, ct_pre X hP hD hS [1, 2] (by decide) hC _⟩ rfl rfl hl.1 rfl (lv_room (Nat.le_of_ble_eq_true rfl)) dX11_code_24 ⟨Nat.zero_le _, Nat.zero_le _⟩) (fun H locs hP hD hS => ?_)
      clear hC
      refine lv_if_ne (tgt := 32) hx hb dX11_code_27 (by decide) (fun c6 => ?_) (fun c6 => ?_)
      · have h := it_f h c6
        refine lv_aload_n hx hb dX11_code_32 rfl (lv_at hl 0 rfl) ?_
        refine va_get (D := E.1) (ci := 10) (v := .ref (q2 0)) (C := RX11) (T := TX11) (N := 13) hx hb hg in_X11 hown X.1 hP 0 rfl rfl 5 (by decide) (hg _ wf_X11_47) (fun _ h9 => h9) rfl dX11_code_33 ?_
        refine lv_aload_n hx hb dX11_code_36 rfl (lv_at hl 0 rfl) ?_
        refine va_get (D := E.1) (ci := 10) (v := .ref (q1 0)) (C := RX11) (T := TX11) (N := 13) hx hb hg in_X11 hown X.1 hP 0 rfl rfl 0 (by decide) (hg _ wf_X11_10) (fun _ h9 => h9) rfl dX11_code_37 ?_
        refine lv_iload_n hx hb dX11_code_40 rfl (lv_at hl 1 rfl) ?_
        refine lv_iload_n hx hb dX11_code_41 rfl (lv_at hl 2 rfl) ?_
        obtain ⟨u7, hc, h⟩ := bd_el h
        have hC : ([3, 4, 5, 6, 7, 8, 9, 1, 2] : List Nat).map (fun i => (cw_X11 E q0 (q1 0) t1 t2 t3 t4 (q2 0) t6 t7 t8 t9 t10 t11 S0 ++ (cw_X8 E q1 S1 ++ (cw_X2 E q2 S2)))[i]?) = (cw_X2 E q2 S2 ++ (cw_X8 E q1 S1)).map some := rfl
        refine ct_i (ws' := cw_X11 E q0 (q1 0) t1 t2 t3 t4 (q2 0) t6 t7 t8 t9 t10 t11 S0 ++ (cw_X8 E q1 S1 ++ (cw_X2 E q2 u7.2))) X hP hD hS [3, 4, 5, 6, 7, 8, 9, 1, 2] (va_runV (C := RX2) (As := [.ref (q1 0), .int x1, .int x2]) (rest := []) ⟨hx, hb, hml, hown, hg⟩ (c_X2_shortestCode l E q2 q1 H.size S2 S1 x1 x2 u7 hc) (cwV 3 hg (gwV wm_X11_229 wi_X2_shortestCode wsl_X2_shortestCode wini_X2 wco_X2_shortestCode) rfl rfl rfl (by decide +kernel) ⟨Nat.le_of_ble_eq_true rfl, Nat.le_of_ble_eq_true rfl⟩) ⟨ct_blind, ct_rv X.1 hP 3 rfl rfl, ct_pre X hP hD hS [3, 4, 5, 6, 7, 8, 9, 1, 2] (by decide) hC _⟩ rfl rfl hl.1 rfl (lv_room (Nat.le_of_ble_eq_true rfl)) dX11_code_42 ⟨Nat.zero_le _, Nat.zero_le _⟩) hC rfl rfl (fun H locs hP hD hS => ?_)
        clear hC
        refine lv_istore_n (lv' := [(3, .int u7.1), (0, .ref (q0 0)), (1, .int x1), (2, .int x2)]) hx hb dX11_code_45 rfl hl (by decide) rfl (fun ls hl => ?_)
        refine lv_aload_n hx hb dX11_code_46 rfl (lv_at hl 1 rfl) ?_
        refine va_get (D := E.1) (ci := 10) (v := .ref (q1 0)) (C := RX11) (T := TX11) (N := 13) hx hb hg in_X11 hown X.1 hP 0 rfl rfl 0 (by decide) (hg _ wf_X11_10) (fun _ h9 => h9) rfl dX11_code_47 ?_
        obtain ⟨u8, hc, h⟩ := bd_el h
        have hC : ([1, 2] : List Nat).map (fun i => (cw_X11 E q0 (q1 0) t1 t2 t3 t4 (q2 0) t6 t7 t8 t9 t10 t11 S0 ++ (cw_X8 E q1 S1 ++ (cw_X2 E q2 u7.2)))[i]?) = (cw_X8 E q1 S1).map some := rfl
        refine ct_v (ws' := cw_X11 E q0 (q1 0) t1 t2 t3 t4 (q2 0) t6 t7 t8 t9 t10 t11 S0 ++ (cw_X8 E q1 u8 ++ (cw_X2 E q2 u7.2))) X hP hD hS [1, 2] (va_runV (C := RX8) (As := []) (rest := []) ⟨hx, hb, hml, hown, hg⟩ (c_X8_empty l E q1 H.size S1 u8 hc) (cwV 0 hg (gwV wm_X11_115 wi_X8_empty wsl_X8_empty wini_X8 wco_X8_empty) rfl rfl rfl (by decide +kernel) ⟨Nat.le_of_ble_eq_true rfl, Nat.le_of_ble_eq_true rfl⟩) ⟨ct_blind, ct_rv X.1 hP 1 rfl rfl, ct_pre X hP hD hS [1, 2] (by decide) hC _⟩ rfl rfl hl.1 rfl (lv_room (Nat.le_of_ble_eq_true rfl)) dX11_code_50 ⟨Nat.zero_le _, Nat.zero_le _⟩) hC rfl rfl (fun H locs hP hD hS => ?_)
        clear hC
        refine lv_iload_n hx hb dX11_code_53 rfl (lv_at hl 0 rfl) ?_
        exact RT u7.1 u8 u7.2 _ _ _ _ h rfl hP hD hS dX11_code_54
      · have h := it_t h c6
        refine lv_iconst (v := (-1)) hx hb dX11_code_30 (by decide) ?_
        exact RT (-1) S1 S2 _ _ _ _ h rfl hP hD hS dX11_code_31
theorem dX11_crawls_0 : decode cX11_crawls 0 = .ok (.iload_n 1, 1) := by decide +kernel
theorem dX11_crawls_1 : decode cX11_crawls 1 = .ok (.iconst 1, 1) := by decide +kernel
theorem dX11_crawls_2 : decode cX11_crawls 2 = .ok (.bipush 8, 2) := by decide +kernel
theorem dX11_crawls_4 : decode cX11_crawls 4 = .ok (.invokestatic 89, 3) := by decide +kernel
theorem dX11_crawls_7 : decode cX11_crawls 7 = .ok (.ifCond .eq 37, 3) := by decide +kernel
theorem dX11_crawls_10 : decode cX11_crawls 10 = .ok (.iload_n 2, 1) := by decide +kernel
theorem dX11_crawls_11 : decode cX11_crawls 11 = .ok (.iconst 0, 1) := by decide +kernel
theorem dX11_crawls_12 : decode cX11_crawls 12 = .ok (.iload_n 1, 1) := by decide +kernel
theorem dX11_crawls_13 : decode cX11_crawls 13 = .ok (.iconst 1, 1) := by decide +kernel
theorem dX11_crawls_14 : decode cX11_crawls 14 = .ok (.isub, 1) := by decide +kernel
theorem dX11_crawls_15 : decode cX11_crawls 15 = .ok (.invokestatic 89, 3) := by decide +kernel
theorem dX11_crawls_18 : decode cX11_crawls 18 = .ok (.ifCond .eq 26, 3) := by decide +kernel
theorem dX11_crawls_21 : decode cX11_crawls 21 = .ok (.iload_n 3, 1) := by decide +kernel
theorem dX11_crawls_22 : decode cX11_crawls 22 = .ok (.iconst 0, 1) := by decide +kernel
theorem dX11_crawls_23 : decode cX11_crawls 23 = .ok (.bipush 7, 2) := by decide +kernel
theorem dX11_crawls_25 : decode cX11_crawls 25 = .ok (.invokestatic 89, 3) := by decide +kernel
theorem dX11_crawls_28 : decode cX11_crawls 28 = .ok (.ifCond .eq 16, 3) := by decide +kernel
theorem dX11_crawls_31 : decode cX11_crawls 31 = .ok (.aload_n 0, 1) := by decide +kernel
theorem dX11_crawls_32 : decode cX11_crawls 32 = .ok (.getfield 10, 3) := by decide +kernel
theorem dX11_crawls_35 : decode cX11_crawls 35 = .ok (.iconst 2, 1) := by decide +kernel
theorem dX11_crawls_36 : decode cX11_crawls 36 = .ok (.iload_n 1, 1) := by decide +kernel
theorem dX11_crawls_37 : decode cX11_crawls 37 = .ok (.imul, 1) := by decide +kernel
theorem dX11_crawls_38 : decode cX11_crawls 38 = .ok (.invokevirtual 108, 3) := by decide +kernel
theorem dX11_crawls_41 : decode cX11_crawls 41 = .ok (.ifCond .ne 5, 3) := by decide +kernel
theorem dX11_crawls_44 : decode cX11_crawls 44 = .ok (.iconst (-1), 1) := by decide +kernel
theorem dX11_crawls_45 : decode cX11_crawls 45 = .ok (.ireturn, 1) := by decide +kernel
theorem dX11_crawls_46 : decode cX11_crawls 46 = .ok (.aload_n 0, 1) := by decide +kernel
theorem dX11_crawls_47 : decode cX11_crawls 47 = .ok (.getfield 54, 3) := by decide +kernel
theorem dX11_crawls_50 : decode cX11_crawls 50 = .ok (.aload_n 0, 1) := by decide +kernel
theorem dX11_crawls_51 : decode cX11_crawls 51 = .ok (.getfield 10, 3) := by decide +kernel
theorem dX11_crawls_54 : decode cX11_crawls 54 = .ok (.iload_n 1, 1) := by decide +kernel
theorem dX11_crawls_55 : decode cX11_crawls 55 = .ok (.iload_n 2, 1) := by decide +kernel
theorem dX11_crawls_56 : decode cX11_crawls 56 = .ok (.iload_n 3, 1) := by decide +kernel
theorem dX11_crawls_57 : decode cX11_crawls 57 = .ok (.invokevirtual 232, 3) := by decide +kernel
theorem dX11_crawls_60 : decode cX11_crawls 60 = .ok (.istore 4, 2) := by decide +kernel
theorem dX11_crawls_62 : decode cX11_crawls 62 = .ok (.aload_n 0, 1) := by decide +kernel
theorem dX11_crawls_63 : decode cX11_crawls 63 = .ok (.getfield 10, 3) := by decide +kernel
theorem dX11_crawls_66 : decode cX11_crawls 66 = .ok (.invokevirtual 115, 3) := by decide +kernel
theorem dX11_crawls_69 : decode cX11_crawls 69 = .ok (.iload 4, 2) := by decide +kernel
theorem dX11_crawls_71 : decode cX11_crawls 71 = .ok (.ireturn, 1) := by decide +kernel
def f_X11_crawls (S0 : Gr) (S1 : Gr) (S2 : Gr) (x1 : Int32) (x2 : Int32) (x3 : Int32) : Option (Int32 × Gr × Gr) := (f_X11_within x1 1 8).bind fun u1 => if u1 = 0 then (some ((-1), S1, S2)) else ((f_X11_within x2 0 (x1 - 1)).bind fun u3 => if u3 = 0 then (some ((-1), S1, S2)) else ((f_X11_within x3 0 7).bind fun u5 => if u5 = 0 then (some ((-1), S1, S2)) else ((f_X8_has S1 (2 * x1)).bind fun u7 => if u7 = 0 then (some ((-1), S1, S2)) else ((f_X10_threadsTo S2 S1 x1 x2 x3).bind fun u9 => (f_X8_empty S1).bind fun u10 => some (u9.1, u10, u9.2)))))
set_option maxHeartbeats 4000000 in
set_option maxRecDepth 100000 in
theorem c_X11_crawls (l : Launch) (E : Ec) (q0 q1 q2 : Nat → Nat) (t1 t2 t3 t4 t5 t7 t8 t9 t10 t11 : Nat) (sz : Nat) (S0 : Gr) (S1 : Gr) (S2 : Gr) (x1 : Int32) (x2 : Int32) (x3 : Int32) (Rv : Int32 × Gr × Gr) (h : f_X11_crawls S0 S1 S2 x1 x2 x3 = some Rv) : Met l yX11_crawls (wsM (.code yX11_crawls cX11_crawls 5 (some .int))) ({ frames := 5, cells := 0, slots := 0, locals := 118 } : Room) (va_Pc [.ref (q0 0), .int x1, .int x2, .int x3] (ctP E (cw_X11 E q0 (q1 0) t1 t2 t3 t4 t5 (q2 0) t7 t8 t9 t10 t11 S0 ++ (cw_X8 E q1 S1 ++ (cw_X10 E q2 S2))) sz)) (ctI E (cw_X11 E q0 (q1 0) t1 t2 t3 t4 t5 (q2 0) t7 t8 t9 t10 t11 S0 ++ (cw_X8 E q1 S1 ++ (cw_X10 E q2 S2))) (cw_X11 E q0 (q1 0) t1 t2 t3 t4 t5 (q2 0) t7 t8 t9 t10 t11 S0 ++ (cw_X8 E q1 Rv.2.1 ++ (cw_X10 E q2 Rv.2.2))) sz Rv.1) 0 0 (va_A (cw_X11 E q0 (q1 0) t1 t2 t3 t4 t5 (q2 0) t7 t8 t9 t10 t11 S0 ++ (cw_X8 E q1 S1 ++ (cw_X10 E q2 S2))) sz) := by
  refine ct_metI (by decide) (Nat.le_of_ble_eq_true rfl) ?_
  intro p e s m ar below meth c A QM hx hb hml hown hg X hP hD hS RET ls hl
  have hown : s.vm.findClass RX11 = some m.cls := hown
  have hl : lv_has ls 5 [(0, .ref (q0 0)), (1, .int x1), (2, .int x2), (3, .int x3)] := hl
  have RT : ∀ (v : Int32) (S1 : Gr) (S2 : Gr) (H : Heap) (locs : List Loc) (ls : Array Slot) (pc : Nat), some (v, S1, S2) = some Rv → narrow .int (.int v) = .int v → va_P E.1 vwCl (cw_X11 E q0 (q1 0) t1 t2 t3 t4 t5 (q2 0) t7 t8 t9 t10 t11 S0 ++ (cw_X8 E q1 S1 ++ (cw_X10 E q2 S2))) H → va_D A (cw_X11 E q0 (q1 0) t1 t2 t3 t4 t5 (q2 0) t7 t8 t9 t10 t11 S0 ++ (cw_X8 E q1 S1 ++ (cw_X10 E q2 S2))) → va_S A s.heap H locs → decode cX11_crawls pc = .ok (.ireturn, 1) → W p l e ({ frames := 5, cells := 0, slots := 0, locals := 118 } : Room) s m ar below meth c H locs 0 0 QM (F0 m pc ls [.int v]) := by
    intro v S1 S2 H locs ls pc e hn hP hD hS d
    obtain rfl := sm_e e
    exact RET H locs pc ls hn hP hD hS d
  clear RET
  obtain ⟨H, eH⟩ : ∃ z, z = s.heap := ⟨_, rfl⟩
  rw [← eH]
  have hP : va_P E.1 vwCl (cw_X11 E q0 (q1 0) t1 t2 t3 t4 t5 (q2 0) t7 t8 t9 t10 t11 S0 ++ (cw_X8 E q1 S1 ++ (cw_X10 E q2 S2))) H := by rw [eH]; exact hP
  have hS : va_S A s.heap H [] := by rw [eH]; exact hS
  clear eH
  obtain ⟨locs, el⟩ : ∃ z : List Loc, z = [] := ⟨_, rfl⟩
  rw [← el] at hS ⊢
  clear el
  refine lv_iload_n hx hb dX11_crawls_0 rfl (lv_at hl 1 rfl) ?_
  refine lv_iconst (v := 1) hx hb dX11_crawls_1 (by decide) ?_
  refine lv_bipush (v := 8) hx hb dX11_crawls_2 (by decide) ?_
  obtain ⟨u1, hc, h⟩ := bd_el h
  refine ct_iN X hP hD hS (va_runS (As := [.int x1, .int 1, .int 8]) (rest := []) ⟨hx, hb, hml, hown, hg⟩ (c_X11_within l E  H.size x1 1 8 u1 hc) (va_cwS 3 hg (gwS wm_X11_89 wst_X11_within wini_X11 wco_X11_within) rfl rfl rfl (by decide +kernel) ⟨Nat.le_of_ble_eq_true rfl, Nat.le_of_ble_eq_true rfl⟩) ⟨ct_blind, ct_preN X hS _⟩ rfl rfl hl.1 rfl (lv_room (Nat.le_of_ble_eq_true rfl)) dX11_crawls_4 ⟨Nat.zero_le _, Nat.zero_le _⟩) (fun H locs hP hD hS => ?_)
  refine lv_if_eq (tgt := 44) hx hb dX11_crawls_7 (by decide) (fun c2 => ?_) (fun c2 => ?_)
  · have h := it_t h c2
    refine lv_iconst (v := (-1)) hx hb dX11_crawls_44 (by decide) ?_
    exact RT (-1) S1 S2 _ _ _ _ h rfl hP hD hS dX11_crawls_45
  · have h := it_f h c2
    refine lv_iload_n hx hb dX11_crawls_10 rfl (lv_at hl 2 rfl) ?_
    refine lv_iconst (v := 0) hx hb dX11_crawls_11 (by decide) ?_
    refine lv_iload_n hx hb dX11_crawls_12 rfl (lv_at hl 1 rfl) ?_
    refine lv_iconst (v := 1) hx hb dX11_crawls_13 (by decide) ?_
    refine lv_isub hx hb dX11_crawls_14 ?_
    obtain ⟨u3, hc, h⟩ := bd_el h
    refine ct_iN X hP hD hS (va_runS (As := [.int x2, .int 0, .int (x1 - 1)]) (rest := []) ⟨hx, hb, hml, hown, hg⟩ (c_X11_within l E  H.size x2 0 (x1 - 1) u3 hc) (va_cwS 3 hg (gwS wm_X11_89 wst_X11_within wini_X11 wco_X11_within) rfl rfl rfl (by decide +kernel) ⟨Nat.le_of_ble_eq_true rfl, Nat.le_of_ble_eq_true rfl⟩) ⟨ct_blind, ct_preN X hS _⟩ rfl rfl hl.1 rfl (lv_room (Nat.le_of_ble_eq_true rfl)) dX11_crawls_15 ⟨Nat.zero_le _, Nat.zero_le _⟩) (fun H locs hP hD hS => ?_)
    refine lv_if_eq (tgt := 44) hx hb dX11_crawls_18 (by decide) (fun c4 => ?_) (fun c4 => ?_)
    · have h := it_t h c4
      refine lv_iconst (v := (-1)) hx hb dX11_crawls_44 (by decide) ?_
      exact RT (-1) S1 S2 _ _ _ _ h rfl hP hD hS dX11_crawls_45
    · have h := it_f h c4
      refine lv_iload_n hx hb dX11_crawls_21 rfl (lv_at hl 3 rfl) ?_
      refine lv_iconst (v := 0) hx hb dX11_crawls_22 (by decide) ?_
      refine lv_bipush (v := 7) hx hb dX11_crawls_23 (by decide) ?_
      obtain ⟨u5, hc, h⟩ := bd_el h
      refine ct_iN X hP hD hS (va_runS (As := [.int x3, .int 0, .int 7]) (rest := []) ⟨hx, hb, hml, hown, hg⟩ (c_X11_within l E  H.size x3 0 7 u5 hc) (va_cwS 3 hg (gwS wm_X11_89 wst_X11_within wini_X11 wco_X11_within) rfl rfl rfl (by decide +kernel) ⟨Nat.le_of_ble_eq_true rfl, Nat.le_of_ble_eq_true rfl⟩) ⟨ct_blind, ct_preN X hS _⟩ rfl rfl hl.1 rfl (lv_room (Nat.le_of_ble_eq_true rfl)) dX11_crawls_25 ⟨Nat.zero_le _, Nat.zero_le _⟩) (fun H locs hP hD hS => ?_)
      refine lv_if_eq (tgt := 44) hx hb dX11_crawls_28 (by decide) (fun c6 => ?_) (fun c6 => ?_)
      · have h := it_t h c6
        refine lv_iconst (v := (-1)) hx hb dX11_crawls_44 (by decide) ?_
        exact RT (-1) S1 S2 _ _ _ _ h rfl hP hD hS dX11_crawls_45
      · have h := it_f h c6
        refine lv_aload_n hx hb dX11_crawls_31 rfl (lv_at hl 0 rfl) ?_
        refine va_get (D := E.1) (ci := 10) (v := .ref (q1 0)) (C := RX11) (T := TX11) (N := 13) hx hb hg in_X11 hown X.1 hP 0 rfl rfl 0 (by decide) (hg _ wf_X11_10) (fun _ h9 => h9) rfl dX11_crawls_32 ?_
        refine lv_iconst (v := 2) hx hb dX11_crawls_35 (by decide) ?_
        refine lv_iload_n hx hb dX11_crawls_36 rfl (lv_at hl 1 rfl) ?_
        refine lv_imul hx hb dX11_crawls_37 ?_
        obtain ⟨u7, hc, h⟩ := bd_el h
        have hC : ([1, 2] : List Nat).map (fun i => (cw_X11 E q0 (q1 0) t1 t2 t3 t4 t5 (q2 0) t7 t8 t9 t10 t11 S0 ++ (cw_X8 E q1 S1 ++ (cw_X10 E q2 S2)))[i]?) = (cw_X8 E q1 S1).map some := rfl
        refine ct_iR X hP hD hS [1, 2] hC (va_runV (C := RX8) (As := [.int (2 * x1)]) (rest := []) ⟨hx, hb, hml, hown, hg⟩ (c_X8_has l E q1 H.size S1 (2 * x1) u7 hc) (cwV 1 hg (gwV wm_X11_108 wi_X8_has wsl_X8_has wini_X8 wco_X8_has) rfl rfl rfl (by decide +kernel) ⟨Nat.le_of_ble_eq_true rfl, Nat.le_of_ble_eq_true rfl⟩) ⟨ct_blind, ct_rv X.1 hP 1 rfl rfl, ct_pre X hP hD hS [1, 2] (by decide) hC _⟩ rfl rfl hl.1 rfl (lv_room (Nat.le_of_ble_eq_true rfl)) dX11_crawls_38 ⟨Nat.zero_le _, Nat.zero_le _⟩) (fun H locs hP hD hS => ?_)
        clear hC
        refine lv_if_ne (tgt := 46) hx hb dX11_crawls_41 (by decide) (fun c8 => ?_) (fun c8 => ?_)
        · have h := it_f h c8
          refine lv_aload_n hx hb dX11_crawls_46 rfl (lv_at hl 0 rfl) ?_
          refine va_get (D := E.1) (ci := 10) (v := .ref (q2 0)) (C := RX11) (T := TX11) (N := 13) hx hb hg in_X11 hown X.1 hP 0 rfl rfl 6 (by decide) (hg _ wf_X11_54) (fun _ h9 => h9) rfl dX11_crawls_47 ?_
          refine lv_aload_n hx hb dX11_crawls_50 rfl (lv_at hl 0 rfl) ?_
          refine va_get (D := E.1) (ci := 10) (v := .ref (q1 0)) (C := RX11) (T := TX11) (N := 13) hx hb hg in_X11 hown X.1 hP 0 rfl rfl 0 (by decide) (hg _ wf_X11_10) (fun _ h9 => h9) rfl dX11_crawls_51 ?_
          refine lv_iload_n hx hb dX11_crawls_54 rfl (lv_at hl 1 rfl) ?_
          refine lv_iload_n hx hb dX11_crawls_55 rfl (lv_at hl 2 rfl) ?_
          refine lv_iload_n hx hb dX11_crawls_56 rfl (lv_at hl 3 rfl) ?_
          obtain ⟨u9, hc, h⟩ := bd_el h
          have hC : ([3, 4, 5, 1, 2] : List Nat).map (fun i => (cw_X11 E q0 (q1 0) t1 t2 t3 t4 t5 (q2 0) t7 t8 t9 t10 t11 S0 ++ (cw_X8 E q1 S1 ++ (cw_X10 E q2 S2)))[i]?) = (cw_X10 E q2 S2 ++ (cw_X8 E q1 S1)).map some := rfl
          refine ct_i (ws' := cw_X11 E q0 (q1 0) t1 t2 t3 t4 t5 (q2 0) t7 t8 t9 t10 t11 S0 ++ (cw_X8 E q1 S1 ++ (cw_X10 E q2 u9.2))) X hP hD hS [3, 4, 5, 1, 2] (va_runV (C := RX10) (As := [.ref (q1 0), .int x1, .int x2, .int x3]) (rest := []) ⟨hx, hb, hml, hown, hg⟩ (c_X10_threadsTo l E q2 q1 H.size S2 S1 x1 x2 x3 u9 hc) (cwV 4 hg (gwV wm_X11_232 wi_X10_threadsTo wsl_X10_threadsTo wini_X10 wco_X10_threadsTo) rfl rfl rfl (by decide +kernel) ⟨Nat.le_of_ble_eq_true rfl, Nat.le_of_ble_eq_true rfl⟩) ⟨ct_blind, ct_rv X.1 hP 3 rfl rfl, ct_pre X hP hD hS [3, 4, 5, 1, 2] (by decide) hC _⟩ rfl rfl hl.1 rfl (lv_room (Nat.le_of_ble_eq_true rfl)) dX11_crawls_57 ⟨Nat.zero_le _, Nat.zero_le _⟩) hC rfl rfl (fun H locs hP hD hS => ?_)
          clear hC
          refine lv_istore (lv' := [(4, .int u9.1), (0, .ref (q0 0)), (1, .int x1), (2, .int x2), (3, .int x3)]) hx hb dX11_crawls_60 hl (by decide) rfl (fun ls hl => ?_)
          refine lv_aload_n hx hb dX11_crawls_62 rfl (lv_at hl 1 rfl) ?_
          refine va_get (D := E.1) (ci := 10) (v := .ref (q1 0)) (C := RX11) (T := TX11) (N := 13) hx hb hg in_X11 hown X.1 hP 0 rfl rfl 0 (by decide) (hg _ wf_X11_10) (fun _ h9 => h9) rfl dX11_crawls_63 ?_
          obtain ⟨u10, hc, h⟩ := bd_el h
          have hC : ([1, 2] : List Nat).map (fun i => (cw_X11 E q0 (q1 0) t1 t2 t3 t4 t5 (q2 0) t7 t8 t9 t10 t11 S0 ++ (cw_X8 E q1 S1 ++ (cw_X10 E q2 u9.2)))[i]?) = (cw_X8 E q1 S1).map some := rfl
          refine ct_v (ws' := cw_X11 E q0 (q1 0) t1 t2 t3 t4 t5 (q2 0) t7 t8 t9 t10 t11 S0 ++ (cw_X8 E q1 u10 ++ (cw_X10 E q2 u9.2))) X hP hD hS [1, 2] (va_runV (C := RX8) (As := []) (rest := []) ⟨hx, hb, hml, hown, hg⟩ (c_X8_empty l E q1 H.size S1 u10 hc) (cwV 0 hg (gwV wm_X11_115 wi_X8_empty wsl_X8_empty wini_X8 wco_X8_empty) rfl rfl rfl (by decide +kernel) ⟨Nat.le_of_ble_eq_true rfl, Nat.le_of_ble_eq_true rfl⟩) ⟨ct_blind, ct_rv X.1 hP 1 rfl rfl, ct_pre X hP hD hS [1, 2] (by decide) hC _⟩ rfl rfl hl.1 rfl (lv_room (Nat.le_of_ble_eq_true rfl)) dX11_crawls_66 ⟨Nat.zero_le _, Nat.zero_le _⟩) hC rfl rfl (fun H locs hP hD hS => ?_)
          clear hC
          refine lv_iload hx hb dX11_crawls_69 (lv_at hl 0 rfl) ?_
          exact RT u9.1 u10 u9.2 _ _ _ _ h rfl hP hD hS dX11_crawls_71
        · have h := it_t h c8
          refine lv_iconst (v := (-1)) hx hb dX11_crawls_44 (by decide) ?_
          exact RT (-1) S1 S2 _ _ _ _ h rfl hP hD hS dX11_crawls_45
theorem dX11_feed_0 : decode cX11_feed 0 = .ok (.aload_n 0, 1) := by decide +kernel
theorem dX11_feed_1 : decode cX11_feed 1 = .ok (.getfield 10, 3) := by decide +kernel
theorem dX11_feed_4 : decode cX11_feed 4 = .ok (.bipush 20, 2) := by decide +kernel
theorem dX11_feed_6 : decode cX11_feed 6 = .ok (.invokevirtual 97, 3) := by decide +kernel
theorem dX11_feed_9 : decode cX11_feed 9 = .ok (.ifCond .ne 5, 3) := by decide +kernel
theorem dX11_feed_12 : decode cX11_feed 12 = .ok (.iconst (-1), 1) := by decide +kernel
theorem dX11_feed_13 : decode cX11_feed 13 = .ok (.ireturn, 1) := by decide +kernel
theorem dX11_feed_14 : decode cX11_feed 14 = .ok (.aload_n 0, 1) := by decide +kernel
theorem dX11_feed_15 : decode cX11_feed 15 = .ok (.getfield 10, 3) := by decide +kernel
theorem dX11_feed_18 : decode cX11_feed 18 = .ok (.iload_n 1, 1) := by decide +kernel
theorem dX11_feed_19 : decode cX11_feed 19 = .ok (.invokevirtual 100, 3) := by decide +kernel
theorem dX11_feed_22 : decode cX11_feed 22 = .ok (.aload_n 0, 1) := by decide +kernel
theorem dX11_feed_23 : decode cX11_feed 23 = .ok (.getfield 10, 3) := by decide +kernel
theorem dX11_feed_26 : decode cX11_feed 26 = .ok (.iload_n 2, 1) := by decide +kernel
theorem dX11_feed_27 : decode cX11_feed 27 = .ok (.invokevirtual 100, 3) := by decide +kernel
theorem dX11_feed_30 : decode cX11_feed 30 = .ok (.aload_n 0, 1) := by decide +kernel
theorem dX11_feed_31 : decode cX11_feed 31 = .ok (.getfield 10, 3) := by decide +kernel
theorem dX11_feed_34 : decode cX11_feed 34 = .ok (.iload_n 3, 1) := by decide +kernel
theorem dX11_feed_35 : decode cX11_feed 35 = .ok (.invokevirtual 100, 3) := by decide +kernel
theorem dX11_feed_38 : decode cX11_feed 38 = .ok (.aload_n 0, 1) := by decide +kernel
theorem dX11_feed_39 : decode cX11_feed 39 = .ok (.getfield 10, 3) := by decide +kernel
theorem dX11_feed_42 : decode cX11_feed 42 = .ok (.iload 4, 2) := by decide +kernel
theorem dX11_feed_44 : decode cX11_feed 44 = .ok (.invokevirtual 100, 3) := by decide +kernel
theorem dX11_feed_47 : decode cX11_feed 47 = .ok (.aload_n 0, 1) := by decide +kernel
theorem dX11_feed_48 : decode cX11_feed 48 = .ok (.getfield 10, 3) := by decide +kernel
theorem dX11_feed_51 : decode cX11_feed 51 = .ok (.iload 5, 2) := by decide +kernel
theorem dX11_feed_53 : decode cX11_feed 53 = .ok (.invokevirtual 100, 3) := by decide +kernel
theorem dX11_feed_56 : decode cX11_feed 56 = .ok (.aload_n 0, 1) := by decide +kernel
theorem dX11_feed_57 : decode cX11_feed 57 = .ok (.getfield 10, 3) := by decide +kernel
theorem dX11_feed_60 : decode cX11_feed 60 = .ok (.invokevirtual 104, 3) := by decide +kernel
theorem dX11_feed_63 : decode cX11_feed 63 = .ok (.ireturn, 1) := by decide +kernel
def f_X11_feed (S0 : Gr) (S1 : Gr) (x1 : Int32) (x2 : Int32) (x3 : Int32) (x4 : Int32) (x5 : Int32) : Option (Int32 × Gr) := (f_X8_hasRoomFor S1 20).bind fun u1 => if u1 = 0 then (some ((-1), S1)) else ((f_X8_putInt S1 x1).bind fun u3 => (f_X8_putInt u3 x2).bind fun u4 => (f_X8_putInt u4 x3).bind fun u5 => (f_X8_putInt u5 x4).bind fun u6 => (f_X8_putInt u6 x5).bind fun u7 => (f_X8_size u7).bind fun u8 => some (u8, u7))
set_option maxHeartbeats 4000000 in
set_option maxRecDepth 100000 in
theorem c_X11_feed (l : Launch) (E : Ec) (q0 q1 : Nat → Nat) (t1 t2 t3 t4 t5 t6 t7 t8 t9 t10 t11 : Nat) (sz : Nat) (S0 : Gr) (S1 : Gr) (x1 : Int32) (x2 : Int32) (x3 : Int32) (x4 : Int32) (x5 : Int32) (Rv : Int32 × Gr) (h : f_X11_feed S0 S1 x1 x2 x3 x4 x5 = some Rv) : Met l yX11_feed (wsM (.code yX11_feed cX11_feed 6 (some .int))) ({ frames := 2, cells := 0, slots := 0, locals := 42 } : Room) (va_Pc [.ref (q0 0), .int x1, .int x2, .int x3, .int x4, .int x5] (ctP E (cw_X11 E q0 (q1 0) t1 t2 t3 t4 t5 t6 t7 t8 t9 t10 t11 S0 ++ (cw_X8 E q1 S1)) sz)) (ctI E (cw_X11 E q0 (q1 0) t1 t2 t3 t4 t5 t6 t7 t8 t9 t10 t11 S0 ++ (cw_X8 E q1 S1)) (cw_X11 E q0 (q1 0) t1 t2 t3 t4 t5 t6 t7 t8 t9 t10 t11 S0 ++ (cw_X8 E q1 Rv.2)) sz Rv.1) 0 0 (va_A (cw_X11 E q0 (q1 0) t1 t2 t3 t4 t5 t6 t7 t8 t9 t10 t11 S0 ++ (cw_X8 E q1 S1)) sz) := by
  refine ct_metI (by decide) (Nat.le_of_ble_eq_true rfl) ?_
  intro p e s m ar below meth c A QM hx hb hml hown hg X hP hD hS RET ls hl
  have hown : s.vm.findClass RX11 = some m.cls := hown
  have hl : lv_has ls 6 [(0, .ref (q0 0)), (1, .int x1), (2, .int x2), (3, .int x3), (4, .int x4), (5, .int x5)] := hl
  have RT : ∀ (v : Int32) (S1 : Gr) (H : Heap) (locs : List Loc) (ls : Array Slot) (pc : Nat), some (v, S1) = some Rv → narrow .int (.int v) = .int v → va_P E.1 vwCl (cw_X11 E q0 (q1 0) t1 t2 t3 t4 t5 t6 t7 t8 t9 t10 t11 S0 ++ (cw_X8 E q1 S1)) H → va_D A (cw_X11 E q0 (q1 0) t1 t2 t3 t4 t5 t6 t7 t8 t9 t10 t11 S0 ++ (cw_X8 E q1 S1)) → va_S A s.heap H locs → decode cX11_feed pc = .ok (.ireturn, 1) → W p l e ({ frames := 2, cells := 0, slots := 0, locals := 42 } : Room) s m ar below meth c H locs 0 0 QM (F0 m pc ls [.int v]) := by
    intro v S1 H locs ls pc e hn hP hD hS d
    obtain rfl := sm_e e
    exact RET H locs pc ls hn hP hD hS d
  clear RET
  obtain ⟨H, eH⟩ : ∃ z, z = s.heap := ⟨_, rfl⟩
  rw [← eH]
  have hP : va_P E.1 vwCl (cw_X11 E q0 (q1 0) t1 t2 t3 t4 t5 t6 t7 t8 t9 t10 t11 S0 ++ (cw_X8 E q1 S1)) H := by rw [eH]; exact hP
  have hS : va_S A s.heap H [] := by rw [eH]; exact hS
  clear eH
  obtain ⟨locs, el⟩ : ∃ z : List Loc, z = [] := ⟨_, rfl⟩
  rw [← el] at hS ⊢
  clear el
  refine lv_aload_n hx hb dX11_feed_0 rfl (lv_at hl 0 rfl) ?_
  refine va_get (D := E.1) (ci := 10) (v := .ref (q1 0)) (C := RX11) (T := TX11) (N := 13) hx hb hg in_X11 hown X.1 hP 0 rfl rfl 0 (by decide) (hg _ wf_X11_10) (fun _ h9 => h9) rfl dX11_feed_1 ?_
  refine lv_bipush (v := 20) hx hb dX11_feed_4 (by decide) ?_
  obtain ⟨u1, hc, h⟩ := bd_el h
  have hC : ([1, 2] : List Nat).map (fun i => (cw_X11 E q0 (q1 0) t1 t2 t3 t4 t5 t6 t7 t8 t9 t10 t11 S0 ++ (cw_X8 E q1 S1))[i]?) = (cw_X8 E q1 S1).map some := rfl
  refine ct_iR X hP hD hS [1, 2] hC (va_runV (C := RX8) (As := [.int 20]) (rest := []) ⟨hx, hb, hml, hown, hg⟩ (c_X8_hasRoomFor l E q1 H.size S1 20 u1 hc) (cwV 1 hg (gwV wm_X11_97 wi_X8_hasRoomFor wsl_X8_hasRoomFor wini_X8 wco_X8_hasRoomFor) rfl rfl rfl (by decide +kernel) ⟨Nat.le_of_ble_eq_true rfl, Nat.le_of_ble_eq_true rfl⟩) ⟨ct_blind, ct_rv X.1 hP 1 rfl rfl, ct_pre X hP hD hS [1, 2] (by decide) hC _⟩ rfl rfl hl.1 rfl (lv_room (Nat.le_of_ble_eq_true rfl)) dX11_feed_6 ⟨Nat.zero_le _, Nat.zero_le _⟩) (fun H locs hP hD hS => ?_)
  clear hC
  refine lv_if_ne (tgt := 14) hx hb dX11_feed_9 (by decide) (fun c2 => ?_) (fun c2 => ?_)
  · have h := it_f h c2
    refine lv_aload_n hx hb dX11_feed_14 rfl (lv_at hl 0 rfl) ?_
    refine va_get (D := E.1) (ci := 10) (v := .ref (q1 0)) (C := RX11) (T := TX11) (N := 13) hx hb hg in_X11 hown X.1 hP 0 rfl rfl 0 (by decide) (hg _ wf_X11_10) (fun _ h9 => h9) rfl dX11_feed_15 ?_
    refine lv_iload_n hx hb dX11_feed_18 rfl (lv_at hl 1 rfl) ?_
    obtain ⟨u3, hc, h⟩ := bd_el h
    have hC : ([1, 2] : List Nat).map (fun i => (cw_X11 E q0 (q1 0) t1 t2 t3 t4 t5 t6 t7 t8 t9 t10 t11 S0 ++ (cw_X8 E q1 S1))[i]?) = (cw_X8 E q1 S1).map some := rfl
    refine ct_v (ws' := cw_X11 E q0 (q1 0) t1 t2 t3 t4 t5 t6 t7 t8 t9 t10 t11 S0 ++ (cw_X8 E q1 u3)) X hP hD hS [1, 2] (va_runV (C := RX8) (As := [.int x1]) (rest := []) ⟨hx, hb, hml, hown, hg⟩ (c_X8_putInt l E q1 H.size S1 x1 u3 hc) (cwV 1 hg (gwV wm_X11_100 wi_X8_putInt wsl_X8_putInt wini_X8 wco_X8_putInt) rfl rfl rfl (by decide +kernel) ⟨Nat.le_of_ble_eq_true rfl, Nat.le_of_ble_eq_true rfl⟩) ⟨ct_blind, ct_rv X.1 hP 1 rfl rfl, ct_pre X hP hD hS [1, 2] (by decide) hC _⟩ rfl rfl hl.1 rfl (lv_room (Nat.le_of_ble_eq_true rfl)) dX11_feed_19 ⟨Nat.zero_le _, Nat.zero_le _⟩) hC rfl rfl (fun H locs hP hD hS => ?_)
    clear hC
    refine lv_aload_n hx hb dX11_feed_22 rfl (lv_at hl 0 rfl) ?_
    refine va_get (D := E.1) (ci := 10) (v := .ref (q1 0)) (C := RX11) (T := TX11) (N := 13) hx hb hg in_X11 hown X.1 hP 0 rfl rfl 0 (by decide) (hg _ wf_X11_10) (fun _ h9 => h9) rfl dX11_feed_23 ?_
    refine lv_iload_n hx hb dX11_feed_26 rfl (lv_at hl 2 rfl) ?_
    obtain ⟨u4, hc, h⟩ := bd_el h
    have hC : ([1, 2] : List Nat).map (fun i => (cw_X11 E q0 (q1 0) t1 t2 t3 t4 t5 t6 t7 t8 t9 t10 t11 S0 ++ (cw_X8 E q1 u3))[i]?) = (cw_X8 E q1 u3).map some := rfl
    refine ct_v (ws' := cw_X11 E q0 (q1 0) t1 t2 t3 t4 t5 t6 t7 t8 t9 t10 t11 S0 ++ (cw_X8 E q1 u4)) X hP hD hS [1, 2] (va_runV (C := RX8) (As := [.int x2]) (rest := []) ⟨hx, hb, hml, hown, hg⟩ (c_X8_putInt l E q1 H.size u3 x2 u4 hc) (cwV 1 hg (gwV wm_X11_100 wi_X8_putInt wsl_X8_putInt wini_X8 wco_X8_putInt) rfl rfl rfl (by decide +kernel) ⟨Nat.le_of_ble_eq_true rfl, Nat.le_of_ble_eq_true rfl⟩) ⟨ct_blind, ct_rv X.1 hP 1 rfl rfl, ct_pre X hP hD hS [1, 2] (by decide) hC _⟩ rfl rfl hl.1 rfl (lv_room (Nat.le_of_ble_eq_true rfl)) dX11_feed_27 ⟨Nat.zero_le _, Nat.zero_le _⟩) hC rfl rfl (fun H locs hP hD hS => ?_)
    clear hC
    refine lv_aload_n hx hb dX11_feed_30 rfl (lv_at hl 0 rfl) ?_
    refine va_get (D := E.1) (ci := 10) (v := .ref (q1 0)) (C := RX11) (T := TX11) (N := 13) hx hb hg in_X11 hown X.1 hP 0 rfl rfl 0 (by decide) (hg _ wf_X11_10) (fun _ h9 => h9) rfl dX11_feed_31 ?_
    refine lv_iload_n hx hb dX11_feed_34 rfl (lv_at hl 3 rfl) ?_
    obtain ⟨u5, hc, h⟩ := bd_el h
    have hC : ([1, 2] : List Nat).map (fun i => (cw_X11 E q0 (q1 0) t1 t2 t3 t4 t5 t6 t7 t8 t9 t10 t11 S0 ++ (cw_X8 E q1 u4))[i]?) = (cw_X8 E q1 u4).map some := rfl
    refine ct_v (ws' := cw_X11 E q0 (q1 0) t1 t2 t3 t4 t5 t6 t7 t8 t9 t10 t11 S0 ++ (cw_X8 E q1 u5)) X hP hD hS [1, 2] (va_runV (C := RX8) (As := [.int x3]) (rest := []) ⟨hx, hb, hml, hown, hg⟩ (c_X8_putInt l E q1 H.size u4 x3 u5 hc) (cwV 1 hg (gwV wm_X11_100 wi_X8_putInt wsl_X8_putInt wini_X8 wco_X8_putInt) rfl rfl rfl (by decide +kernel) ⟨Nat.le_of_ble_eq_true rfl, Nat.le_of_ble_eq_true rfl⟩) ⟨ct_blind, ct_rv X.1 hP 1 rfl rfl, ct_pre X hP hD hS [1, 2] (by decide) hC _⟩ rfl rfl hl.1 rfl (lv_room (Nat.le_of_ble_eq_true rfl)) dX11_feed_35 ⟨Nat.zero_le _, Nat.zero_le _⟩) hC rfl rfl (fun H locs hP hD hS => ?_)
    clear hC
    refine lv_aload_n hx hb dX11_feed_38 rfl (lv_at hl 0 rfl) ?_
    refine va_get (D := E.1) (ci := 10) (v := .ref (q1 0)) (C := RX11) (T := TX11) (N := 13) hx hb hg in_X11 hown X.1 hP 0 rfl rfl 0 (by decide) (hg _ wf_X11_10) (fun _ h9 => h9) rfl dX11_feed_39 ?_
    refine lv_iload hx hb dX11_feed_42 (lv_at hl 4 rfl) ?_
    obtain ⟨u6, hc, h⟩ := bd_el h
    have hC : ([1, 2] : List Nat).map (fun i => (cw_X11 E q0 (q1 0) t1 t2 t3 t4 t5 t6 t7 t8 t9 t10 t11 S0 ++ (cw_X8 E q1 u5))[i]?) = (cw_X8 E q1 u5).map some := rfl
    refine ct_v (ws' := cw_X11 E q0 (q1 0) t1 t2 t3 t4 t5 t6 t7 t8 t9 t10 t11 S0 ++ (cw_X8 E q1 u6)) X hP hD hS [1, 2] (va_runV (C := RX8) (As := [.int x4]) (rest := []) ⟨hx, hb, hml, hown, hg⟩ (c_X8_putInt l E q1 H.size u5 x4 u6 hc) (cwV 1 hg (gwV wm_X11_100 wi_X8_putInt wsl_X8_putInt wini_X8 wco_X8_putInt) rfl rfl rfl (by decide +kernel) ⟨Nat.le_of_ble_eq_true rfl, Nat.le_of_ble_eq_true rfl⟩) ⟨ct_blind, ct_rv X.1 hP 1 rfl rfl, ct_pre X hP hD hS [1, 2] (by decide) hC _⟩ rfl rfl hl.1 rfl (lv_room (Nat.le_of_ble_eq_true rfl)) dX11_feed_44 ⟨Nat.zero_le _, Nat.zero_le _⟩) hC rfl rfl (fun H locs hP hD hS => ?_)
    clear hC
    refine lv_aload_n hx hb dX11_feed_47 rfl (lv_at hl 0 rfl) ?_
    refine va_get (D := E.1) (ci := 10) (v := .ref (q1 0)) (C := RX11) (T := TX11) (N := 13) hx hb hg in_X11 hown X.1 hP 0 rfl rfl 0 (by decide) (hg _ wf_X11_10) (fun _ h9 => h9) rfl dX11_feed_48 ?_
    refine lv_iload hx hb dX11_feed_51 (lv_at hl 5 rfl) ?_
    obtain ⟨u7, hc, h⟩ := bd_el h
    have hC : ([1, 2] : List Nat).map (fun i => (cw_X11 E q0 (q1 0) t1 t2 t3 t4 t5 t6 t7 t8 t9 t10 t11 S0 ++ (cw_X8 E q1 u6))[i]?) = (cw_X8 E q1 u6).map some := rfl
    refine ct_v (ws' := cw_X11 E q0 (q1 0) t1 t2 t3 t4 t5 t6 t7 t8 t9 t10 t11 S0 ++ (cw_X8 E q1 u7)) X hP hD hS [1, 2] (va_runV (C := RX8) (As := [.int x5]) (rest := []) ⟨hx, hb, hml, hown, hg⟩ (c_X8_putInt l E q1 H.size u6 x5 u7 hc) (cwV 1 hg (gwV wm_X11_100 wi_X8_putInt wsl_X8_putInt wini_X8 wco_X8_putInt) rfl rfl rfl (by decide +kernel) ⟨Nat.le_of_ble_eq_true rfl, Nat.le_of_ble_eq_true rfl⟩) ⟨ct_blind, ct_rv X.1 hP 1 rfl rfl, ct_pre X hP hD hS [1, 2] (by decide) hC _⟩ rfl rfl hl.1 rfl (lv_room (Nat.le_of_ble_eq_true rfl)) dX11_feed_53 ⟨Nat.zero_le _, Nat.zero_le _⟩) hC rfl rfl (fun H locs hP hD hS => ?_)
    clear hC
    refine lv_aload_n hx hb dX11_feed_56 rfl (lv_at hl 0 rfl) ?_
    refine va_get (D := E.1) (ci := 10) (v := .ref (q1 0)) (C := RX11) (T := TX11) (N := 13) hx hb hg in_X11 hown X.1 hP 0 rfl rfl 0 (by decide) (hg _ wf_X11_10) (fun _ h9 => h9) rfl dX11_feed_57 ?_
    obtain ⟨u8, hc, h⟩ := bd_el h
    have hC : ([1, 2] : List Nat).map (fun i => (cw_X11 E q0 (q1 0) t1 t2 t3 t4 t5 t6 t7 t8 t9 t10 t11 S0 ++ (cw_X8 E q1 u7))[i]?) = (cw_X8 E q1 u7).map some := rfl
    refine ct_iR X hP hD hS [1, 2] hC (va_runV (C := RX8) (As := []) (rest := []) ⟨hx, hb, hml, hown, hg⟩ (c_X8_size l E q1 H.size u7 u8 hc) (cwV 0 hg (gwV wm_X11_104 wi_X8_size wsl_X8_size wini_X8 wco_X8_size) rfl rfl rfl (by decide +kernel) ⟨Nat.le_of_ble_eq_true rfl, Nat.le_of_ble_eq_true rfl⟩) ⟨ct_blind, ct_rv X.1 hP 1 rfl rfl, ct_pre X hP hD hS [1, 2] (by decide) hC _⟩ rfl rfl hl.1 rfl (lv_room (Nat.le_of_ble_eq_true rfl)) dX11_feed_60 ⟨Nat.zero_le _, Nat.zero_le _⟩) (fun H locs hP hD hS => ?_)
    clear hC
    exact RT u8 u7 _ _ _ _ h rfl hP hD hS dX11_feed_63
  · have h := it_t h c2
    refine lv_iconst (v := (-1)) hx hb dX11_feed_12 (by decide) ?_
    exact RT (-1) S1 _ _ _ _ h rfl hP hD hS dX11_feed_13
theorem dX11_feels_0 : decode cX11_feels 0 = .ok (.aload_n 0, 1) := by decide +kernel
theorem dX11_feels_1 : decode cX11_feels 1 = .ok (.getfield 71, 3) := by decide +kernel
theorem dX11_feels_4 : decode cX11_feels 4 = .ok (.iload_n 1, 1) := by decide +kernel
theorem dX11_feels_5 : decode cX11_feels 5 = .ok (.invokevirtual 85, 3) := by decide +kernel
theorem dX11_feels_8 : decode cX11_feels 8 = .ok (.ifCond .eq 12, 3) := by decide +kernel
theorem dX11_feels_11 : decode cX11_feels 11 = .ok (.iload_n 2, 1) := by decide +kernel
theorem dX11_feels_12 : decode cX11_feels 12 = .ok (.iconst 0, 1) := by decide +kernel
theorem dX11_feels_13 : decode cX11_feels 13 = .ok (.iconst 2, 1) := by decide +kernel
theorem dX11_feels_14 : decode cX11_feels 14 = .ok (.invokestatic 89, 3) := by decide +kernel
theorem dX11_feels_17 : decode cX11_feels 17 = .ok (.ifCond .ne 5, 3) := by decide +kernel
theorem dX11_feels_20 : decode cX11_feels 20 = .ok (.iconst (-1), 1) := by decide +kernel
theorem dX11_feels_21 : decode cX11_feels 21 = .ok (.ireturn, 1) := by decide +kernel
theorem dX11_feels_22 : decode cX11_feels 22 = .ok (.aload_n 0, 1) := by decide +kernel
theorem dX11_feels_23 : decode cX11_feels 23 = .ok (.getfield 71, 3) := by decide +kernel
theorem dX11_feels_26 : decode cX11_feels 26 = .ok (.iload_n 1, 1) := by decide +kernel
theorem dX11_feels_27 : decode cX11_feels 27 = .ok (.invokevirtual 173, 3) := by decide +kernel
theorem dX11_feels_30 : decode cX11_feels 30 = .ok (.istore_n 3, 1) := by decide +kernel
theorem dX11_feels_31 : decode cX11_feels 31 = .ok (.iload_n 3, 1) := by decide +kernel
theorem dX11_feels_32 : decode cX11_feels 32 = .ok (.bipush (-2), 2) := by decide +kernel
theorem dX11_feels_34 : decode cX11_feels 34 = .ok (.if_icmp .eq 7, 3) := by decide +kernel
theorem dX11_feels_37 : decode cX11_feels 37 = .ok (.iload_n 2, 1) := by decide +kernel
theorem dX11_feels_38 : decode cX11_feels 38 = .ok (.ifCond .ne 5, 3) := by decide +kernel
theorem dX11_feels_41 : decode cX11_feels 41 = .ok (.iload_n 3, 1) := by decide +kernel
theorem dX11_feels_42 : decode cX11_feels 42 = .ok (.ireturn, 1) := by decide +kernel
theorem dX11_feels_43 : decode cX11_feels 43 = .ok (.iload_n 2, 1) := by decide +kernel
theorem dX11_feels_44 : decode cX11_feels 44 = .ok (.iconst 1, 1) := by decide +kernel
theorem dX11_feels_45 : decode cX11_feels 45 = .ok (.if_icmp .ne 15, 3) := by decide +kernel
theorem dX11_feels_48 : decode cX11_feels 48 = .ok (.aload_n 0, 1) := by decide +kernel
theorem dX11_feels_49 : decode cX11_feels 49 = .ok (.getfield 71, 3) := by decide +kernel
theorem dX11_feels_52 : decode cX11_feels 52 = .ok (.iload_n 1, 1) := by decide +kernel
theorem dX11_feels_53 : decode cX11_feels 53 = .ok (.iload_n 3, 1) := by decide +kernel
theorem dX11_feels_54 : decode cX11_feels 54 = .ok (.invokevirtual 176, 3) := by decide +kernel
theorem dX11_feels_57 : decode cX11_feels 57 = .ok (.goto 12, 3) := by decide +kernel
theorem dX11_feels_60 : decode cX11_feels 60 = .ok (.aload_n 0, 1) := by decide +kernel
theorem dX11_feels_61 : decode cX11_feels 61 = .ok (.getfield 71, 3) := by decide +kernel
theorem dX11_feels_64 : decode cX11_feels 64 = .ok (.iload_n 1, 1) := by decide +kernel
theorem dX11_feels_65 : decode cX11_feels 65 = .ok (.iload_n 3, 1) := by decide +kernel
theorem dX11_feels_66 : decode cX11_feels 66 = .ok (.invokevirtual 179, 3) := by decide +kernel
theorem dX11_feels_69 : decode cX11_feels 69 = .ok (.ireturn, 1) := by decide +kernel
def f_X11_feels (S0 : Gr) (S1 : Gr) (x1 : Int32) (x2 : Int32) : Option (Int32) := (f_X7_hasWeb S1 x1).bind fun u1 => if u1 = 0 then (some (-1)) else ((f_X11_within x2 0 2).bind fun u3 => if u3 = 0 then (some (-1)) else ((f_X7_strongestFleet S1 x1).bind fun u5 => if u5 = (-2) then (some u5) else (if x2 = 0 then (some u5) else (if x2 = 1 then ((f_X7_spokeTo S1 x1 u5).bind fun u10 => some u10) else ((f_X7_felt S1 x1 u5).bind fun u9 => some u9)))))
set_option maxHeartbeats 4000000 in
set_option maxRecDepth 100000 in
theorem c_X11_feels (l : Launch) (E : Ec) (q0 q1 : Nat → Nat) (t0 t1 t2 t3 t4 t5 t6 t7 t8 t10 t11 : Nat) (sz : Nat) (S0 : Gr) (S1 : Gr) (x1 : Int32) (x2 : Int32) (Rv : Int32) (h : f_X11_feels S0 S1 x1 x2 = some Rv) : Met l yX11_feels (wsM (.code yX11_feels cX11_feels 4 (some .int))) ({ frames := 5, cells := 0, slots := 0, locals := 119 } : Room) (va_Pc [.ref (q0 0), .int x1, .int x2] (ctP E (cw_X11 E q0 t0 t1 t2 t3 t4 t5 t6 t7 t8 (q1 0) t10 t11 S0 ++ (cw_X7 E q1 S1)) sz)) (ctI E (cw_X11 E q0 t0 t1 t2 t3 t4 t5 t6 t7 t8 (q1 0) t10 t11 S0 ++ (cw_X7 E q1 S1)) (cw_X11 E q0 t0 t1 t2 t3 t4 t5 t6 t7 t8 (q1 0) t10 t11 S0 ++ (cw_X7 E q1 S1)) sz Rv) 0 0 (va_A (cw_X11 E q0 t0 t1 t2 t3 t4 t5 t6 t7 t8 (q1 0) t10 t11 S0 ++ (cw_X7 E q1 S1)) sz) := by
  refine ct_metI (by decide) (Nat.le_of_ble_eq_true rfl) ?_
  intro p e s m ar below meth c A QM hx hb hml hown hg X hP hD hS RET ls hl
  have hown : s.vm.findClass RX11 = some m.cls := hown
  have hl : lv_has ls 4 [(0, .ref (q0 0)), (1, .int x1), (2, .int x2)] := hl
  have RT : ∀ (v : Int32) (H : Heap) (locs : List Loc) (ls : Array Slot) (pc : Nat), some v = some Rv → narrow .int (.int v) = .int v → va_P E.1 vwCl (cw_X11 E q0 t0 t1 t2 t3 t4 t5 t6 t7 t8 (q1 0) t10 t11 S0 ++ (cw_X7 E q1 S1)) H → va_D A (cw_X11 E q0 t0 t1 t2 t3 t4 t5 t6 t7 t8 (q1 0) t10 t11 S0 ++ (cw_X7 E q1 S1)) → va_S A s.heap H locs → decode cX11_feels pc = .ok (.ireturn, 1) → W p l e ({ frames := 5, cells := 0, slots := 0, locals := 119 } : Room) s m ar below meth c H locs 0 0 QM (F0 m pc ls [.int v]) := by
    intro v H locs ls pc e hn hP hD hS d
    obtain rfl := sm_e e
    exact RET H locs pc ls hn hP hD hS d
  clear RET
  obtain ⟨H, eH⟩ : ∃ z, z = s.heap := ⟨_, rfl⟩
  rw [← eH]
  have hP : va_P E.1 vwCl (cw_X11 E q0 t0 t1 t2 t3 t4 t5 t6 t7 t8 (q1 0) t10 t11 S0 ++ (cw_X7 E q1 S1)) H := by rw [eH]; exact hP
  have hS : va_S A s.heap H [] := by rw [eH]; exact hS
  clear eH
  obtain ⟨locs, el⟩ : ∃ z : List Loc, z = [] := ⟨_, rfl⟩
  rw [← el] at hS ⊢
  clear el
  refine lv_aload_n hx hb dX11_feels_0 rfl (lv_at hl 0 rfl) ?_
  refine va_get (D := E.1) (ci := 10) (v := .ref (q1 0)) (C := RX11) (T := TX11) (N := 13) hx hb hg in_X11 hown X.1 hP 0 rfl rfl 9 (by decide) (hg _ wf_X11_71) (fun _ h9 => h9) rfl dX11_feels_1 ?_
  refine lv_iload_n hx hb dX11_feels_4 rfl (lv_at hl 1 rfl) ?_
  obtain ⟨u1, hc, h⟩ := bd_el h
  have hC : ([1, 2, 3, 4, 5, 6, 7, 8] : List Nat).map (fun i => (cw_X11 E q0 t0 t1 t2 t3 t4 t5 t6 t7 t8 (q1 0) t10 t11 S0 ++ (cw_X7 E q1 S1))[i]?) = (cw_X7 E q1 S1).map some := rfl
  refine ct_iR X hP hD hS [1, 2, 3, 4, 5, 6, 7, 8] hC (va_runV (C := RX7) (As := [.int x1]) (rest := []) ⟨hx, hb, hml, hown, hg⟩ (c_X7_hasWeb l E q1 H.size S1 x1 u1 hc) (cwV 1 hg (gwV wm_X11_85 wi_X7_hasWeb wsl_X7_hasWeb wini_X7 wco_X7_hasWeb) rfl rfl rfl (by decide +kernel) ⟨Nat.le_of_ble_eq_true rfl, Nat.le_of_ble_eq_true rfl⟩) ⟨ct_blind, ct_rv X.1 hP 1 rfl rfl, ct_pre X hP hD hS [1, 2, 3, 4, 5, 6, 7, 8] (by decide) hC _⟩ rfl rfl hl.1 rfl (lv_room (Nat.le_of_ble_eq_true rfl)) dX11_feels_5 ⟨Nat.zero_le _, Nat.zero_le _⟩) (fun H locs hP hD hS => ?_)
  clear hC
  refine lv_if_eq (tgt := 20) hx hb dX11_feels_8 (by decide) (fun c2 => ?_) (fun c2 => ?_)
  · have h := it_t h c2
    refine lv_iconst (v := (-1)) hx hb dX11_feels_20 (by decide) ?_
    exact RT (-1) _ _ _ _ h rfl hP hD hS dX11_feels_21
  · have h := it_f h c2
    refine lv_iload_n hx hb dX11_feels_11 rfl (lv_at hl 2 rfl) ?_
    refine lv_iconst (v := 0) hx hb dX11_feels_12 (by decide) ?_
    refine lv_iconst (v := 2) hx hb dX11_feels_13 (by decide) ?_
    obtain ⟨u3, hc, h⟩ := bd_el h
    refine ct_iN X hP hD hS (va_runS (As := [.int x2, .int 0, .int 2]) (rest := []) ⟨hx, hb, hml, hown, hg⟩ (c_X11_within l E  H.size x2 0 2 u3 hc) (va_cwS 3 hg (gwS wm_X11_89 wst_X11_within wini_X11 wco_X11_within) rfl rfl rfl (by decide +kernel) ⟨Nat.le_of_ble_eq_true rfl, Nat.le_of_ble_eq_true rfl⟩) ⟨ct_blind, ct_preN X hS _⟩ rfl rfl hl.1 rfl (lv_room (Nat.le_of_ble_eq_true rfl)) dX11_feels_14 ⟨Nat.zero_le _, Nat.zero_le _⟩) (fun H locs hP hD hS => ?_)
    refine lv_if_ne (tgt := 22) hx hb dX11_feels_17 (by decide) (fun c4 => ?_) (fun c4 => ?_)
    · have h := it_f h c4
      refine lv_aload_n hx hb dX11_feels_22 rfl (lv_at hl 0 rfl) ?_
      refine va_get (D := E.1) (ci := 10) (v := .ref (q1 0)) (C := RX11) (T := TX11) (N := 13) hx hb hg in_X11 hown X.1 hP 0 rfl rfl 9 (by decide) (hg _ wf_X11_71) (fun _ h9 => h9) rfl dX11_feels_23 ?_
      refine lv_iload_n hx hb dX11_feels_26 rfl (lv_at hl 1 rfl) ?_
      obtain ⟨u5, hc, h⟩ := bd_el h
      have hC : ([1, 2, 3, 4, 5, 6, 7, 8] : List Nat).map (fun i => (cw_X11 E q0 t0 t1 t2 t3 t4 t5 t6 t7 t8 (q1 0) t10 t11 S0 ++ (cw_X7 E q1 S1))[i]?) = (cw_X7 E q1 S1).map some := rfl
      refine ct_iR X hP hD hS [1, 2, 3, 4, 5, 6, 7, 8] hC (va_runV (C := RX7) (As := [.int x1]) (rest := []) ⟨hx, hb, hml, hown, hg⟩ (c_X7_strongestFleet l E q1 H.size S1 x1 u5 hc) (cwV 1 hg (gwV wm_X11_173 wi_X7_strongestFleet wsl_X7_strongestFleet wini_X7 wco_X7_strongestFleet) rfl rfl rfl (by decide +kernel) ⟨Nat.le_of_ble_eq_true rfl, Nat.le_of_ble_eq_true rfl⟩) ⟨ct_blind, ct_rv X.1 hP 1 rfl rfl, ct_pre X hP hD hS [1, 2, 3, 4, 5, 6, 7, 8] (by decide) hC _⟩ rfl rfl hl.1 rfl (lv_room (Nat.le_of_ble_eq_true rfl)) dX11_feels_27 ⟨Nat.zero_le _, Nat.zero_le _⟩) (fun H locs hP hD hS => ?_)
      clear hC
      refine lv_istore_n (lv' := [(3, .int u5), (0, .ref (q0 0)), (1, .int x1), (2, .int x2)]) hx hb dX11_feels_30 rfl hl (by decide) rfl (fun ls hl => ?_)
      refine lv_iload_n hx hb dX11_feels_31 rfl (lv_at hl 0 rfl) ?_
      refine lv_bipush (v := (-2)) hx hb dX11_feels_32 (by decide) ?_
      refine lv_icmp_eq (tgt := 41) hx hb dX11_feels_34 (by decide) (fun c6 => ?_) (fun c6 => ?_)
      · have h := it_t h c6
        refine lv_iload_n hx hb dX11_feels_41 rfl (lv_at hl 0 rfl) ?_
        exact RT u5 _ _ _ _ h rfl hP hD hS dX11_feels_42
      · have h := it_f h c6
        refine lv_iload_n hx hb dX11_feels_37 rfl (lv_at hl 3 rfl) ?_
        refine lv_if_ne (tgt := 43) hx hb dX11_feels_38 (by decide) (fun c7 => ?_) (fun c7 => ?_)
        · have h := it_f h c7
          refine lv_iload_n hx hb dX11_feels_43 rfl (lv_at hl 3 rfl) ?_
          refine lv_iconst (v := 1) hx hb dX11_feels_44 (by decide) ?_
          refine lv_icmp_ne (tgt := 60) hx hb dX11_feels_45 (by decide) (fun c8 => ?_) (fun c8 => ?_)
          · have h := it_f h c8
            refine lv_aload_n hx hb dX11_feels_60 rfl (lv_at hl 1 rfl) ?_
            refine va_get (D := E.1) (ci := 10) (v := .ref (q1 0)) (C := RX11) (T := TX11) (N := 13) hx hb hg in_X11 hown X.1 hP 0 rfl rfl 9 (by decide) (hg _ wf_X11_71) (fun _ h9 => h9) rfl dX11_feels_61 ?_
            refine lv_iload_n hx hb dX11_feels_64 rfl (lv_at hl 2 rfl) ?_
            refine lv_iload_n hx hb dX11_feels_65 rfl (lv_at hl 0 rfl) ?_
            obtain ⟨u9, hc, h⟩ := bd_el h
            have hC : ([1, 2, 3, 4, 5, 6, 7, 8] : List Nat).map (fun i => (cw_X11 E q0 t0 t1 t2 t3 t4 t5 t6 t7 t8 (q1 0) t10 t11 S0 ++ (cw_X7 E q1 S1))[i]?) = (cw_X7 E q1 S1).map some := rfl
            refine ct_iR X hP hD hS [1, 2, 3, 4, 5, 6, 7, 8] hC (va_runV (C := RX7) (As := [.int x1, .int u5]) (rest := []) ⟨hx, hb, hml, hown, hg⟩ (c_X7_felt l E q1 H.size S1 x1 u5 u9 hc) (cwV 2 hg (gwV wm_X11_179 wi_X7_felt wsl_X7_felt wini_X7 wco_X7_felt) rfl rfl rfl (by decide +kernel) ⟨Nat.le_of_ble_eq_true rfl, Nat.le_of_ble_eq_true rfl⟩) ⟨ct_blind, ct_rv X.1 hP 1 rfl rfl, ct_pre X hP hD hS [1, 2, 3, 4, 5, 6, 7, 8] (by decide) hC _⟩ rfl rfl hl.1 rfl (lv_room (Nat.le_of_ble_eq_true rfl)) dX11_feels_66 ⟨Nat.zero_le _, Nat.zero_le _⟩) (fun H locs hP hD hS => ?_)
            clear hC
            exact RT u9 _ _ _ _ h rfl hP hD hS dX11_feels_69
          · have h := it_t h c8
            refine lv_aload_n hx hb dX11_feels_48 rfl (lv_at hl 1 rfl) ?_
            refine va_get (D := E.1) (ci := 10) (v := .ref (q1 0)) (C := RX11) (T := TX11) (N := 13) hx hb hg in_X11 hown X.1 hP 0 rfl rfl 9 (by decide) (hg _ wf_X11_71) (fun _ h9 => h9) rfl dX11_feels_49 ?_
            refine lv_iload_n hx hb dX11_feels_52 rfl (lv_at hl 2 rfl) ?_
            refine lv_iload_n hx hb dX11_feels_53 rfl (lv_at hl 0 rfl) ?_
            obtain ⟨u10, hc, h⟩ := bd_el h
            have hC : ([1, 2, 3, 4, 5, 6, 7, 8] : List Nat).map (fun i => (cw_X11 E q0 t0 t1 t2 t3 t4 t5 t6 t7 t8 (q1 0) t10 t11 S0 ++ (cw_X7 E q1 S1))[i]?) = (cw_X7 E q1 S1).map some := rfl
            refine ct_iR X hP hD hS [1, 2, 3, 4, 5, 6, 7, 8] hC (va_runV (C := RX7) (As := [.int x1, .int u5]) (rest := []) ⟨hx, hb, hml, hown, hg⟩ (c_X7_spokeTo l E q1 H.size S1 x1 u5 u10 hc) (cwV 2 hg (gwV wm_X11_176 wi_X7_spokeTo wsl_X7_spokeTo wini_X7 wco_X7_spokeTo) rfl rfl rfl (by decide +kernel) ⟨Nat.le_of_ble_eq_true rfl, Nat.le_of_ble_eq_true rfl⟩) ⟨ct_blind, ct_rv X.1 hP 1 rfl rfl, ct_pre X hP hD hS [1, 2, 3, 4, 5, 6, 7, 8] (by decide) hC _⟩ rfl rfl hl.1 rfl (lv_room (Nat.le_of_ble_eq_true rfl)) dX11_feels_54 ⟨Nat.zero_le _, Nat.zero_le _⟩) (fun H locs hP hD hS => ?_)
            clear hC
            refine lv_goto (tgt := 69) hx hb dX11_feels_57 (by decide) ?_
            exact RT u10 _ _ _ _ h rfl hP hD hS dX11_feels_69
        · have h := it_t h c7
          refine lv_iload_n hx hb dX11_feels_41 rfl (lv_at hl 0 rfl) ?_
          exact RT u5 _ _ _ _ h rfl hP hD hS dX11_feels_42
    · have h := it_t h c4
      refine lv_iconst (v := (-1)) hx hb dX11_feels_20 (by decide) ?_
      exact RT (-1) _ _ _ _ h rfl hP hD hS dX11_feels_21
theorem dX11_fix_0 : decode cX11_fix 0 = .ok (.iload_n 1, 1) := by decide +kernel
theorem dX11_fix_1 : decode cX11_fix 1 = .ok (.iconst 1, 1) := by decide +kernel
theorem dX11_fix_2 : decode cX11_fix 2 = .ok (.bipush 8, 2) := by decide +kernel
theorem dX11_fix_4 : decode cX11_fix 4 = .ok (.invokestatic 89, 3) := by decide +kernel
theorem dX11_fix_7 : decode cX11_fix 7 = .ok (.ifCond .eq 25, 3) := by decide +kernel
theorem dX11_fix_10 : decode cX11_fix 10 = .ok (.iload_n 2, 1) := by decide +kernel
theorem dX11_fix_11 : decode cX11_fix 11 = .ok (.iconst 0, 1) := by decide +kernel
theorem dX11_fix_12 : decode cX11_fix 12 = .ok (.iconst 1, 1) := by decide +kernel
theorem dX11_fix_13 : decode cX11_fix 13 = .ok (.invokestatic 89, 3) := by decide +kernel
theorem dX11_fix_16 : decode cX11_fix 16 = .ok (.ifCond .eq 16, 3) := by decide +kernel
theorem dX11_fix_19 : decode cX11_fix 19 = .ok (.aload_n 0, 1) := by decide +kernel
theorem dX11_fix_20 : decode cX11_fix 20 = .ok (.getfield 10, 3) := by decide +kernel
theorem dX11_fix_23 : decode cX11_fix 23 = .ok (.iconst 2, 1) := by decide +kernel
theorem dX11_fix_24 : decode cX11_fix 24 = .ok (.iload_n 1, 1) := by decide +kernel
theorem dX11_fix_25 : decode cX11_fix 25 = .ok (.imul, 1) := by decide +kernel
theorem dX11_fix_26 : decode cX11_fix 26 = .ok (.invokevirtual 108, 3) := by decide +kernel
theorem dX11_fix_29 : decode cX11_fix 29 = .ok (.ifCond .ne 5, 3) := by decide +kernel
theorem dX11_fix_32 : decode cX11_fix 32 = .ok (.iconst (-1), 1) := by decide +kernel
theorem dX11_fix_33 : decode cX11_fix 33 = .ok (.ireturn, 1) := by decide +kernel
theorem dX11_fix_34 : decode cX11_fix 34 = .ok (.aload_n 0, 1) := by decide +kernel
theorem dX11_fix_35 : decode cX11_fix 35 = .ok (.getfield 40, 3) := by decide +kernel
theorem dX11_fix_38 : decode cX11_fix 38 = .ok (.aload_n 0, 1) := by decide +kernel
theorem dX11_fix_39 : decode cX11_fix 39 = .ok (.getfield 71, 3) := by decide +kernel
theorem dX11_fix_42 : decode cX11_fix 42 = .ok (.aload_n 0, 1) := by decide +kernel
theorem dX11_fix_43 : decode cX11_fix 43 = .ok (.getfield 10, 3) := by decide +kernel
theorem dX11_fix_46 : decode cX11_fix 46 = .ok (.iload_n 1, 1) := by decide +kernel
theorem dX11_fix_47 : decode cX11_fix 47 = .ok (.iload_n 2, 1) := by decide +kernel
theorem dX11_fix_48 : decode cX11_fix 48 = .ok (.invokevirtual 185, 3) := by decide +kernel
theorem dX11_fix_51 : decode cX11_fix 51 = .ok (.istore_n 3, 1) := by decide +kernel
theorem dX11_fix_52 : decode cX11_fix 52 = .ok (.aload_n 0, 1) := by decide +kernel
theorem dX11_fix_53 : decode cX11_fix 53 = .ok (.getfield 10, 3) := by decide +kernel
theorem dX11_fix_56 : decode cX11_fix 56 = .ok (.invokevirtual 115, 3) := by decide +kernel
theorem dX11_fix_59 : decode cX11_fix 59 = .ok (.iload_n 3, 1) := by decide +kernel
theorem dX11_fix_60 : decode cX11_fix 60 = .ok (.ireturn, 1) := by decide +kernel
def f_X11_fix (S0 : Gr) (S1 : Gr) (S2 : Gr) (S3 : Gr) (x1 : Int32) (x2 : Int32) : Option (Int32 × Gr) := (f_X11_within x1 1 8).bind fun u1 => if u1 = 0 then (some ((-1), S1)) else ((f_X11_within x2 0 1).bind fun u3 => if u3 = 0 then (some ((-1), S1)) else ((f_X8_has S1 (2 * x1)).bind fun u5 => if u5 = 0 then (some ((-1), S1)) else ((f_X6_fixBy S2 S3 S1 x1 x2).bind fun u7 => (f_X8_empty S1).bind fun u8 => some (u7, u8))))
set_option maxHeartbeats 4000000 in
set_option maxRecDepth 100000 in
theorem c_X11_fix (l : Launch) (E : Ec) (q0 q1 q2 q3 : Nat → Nat) (t1 t2 t3 t5 t6 t7 t8 t10 t11 : Nat) (sz : Nat) (S0 : Gr) (S1 : Gr) (S2 : Gr) (S3 : Gr) (x1 : Int32) (x2 : Int32) (Rv : Int32 × Gr) (h : f_X11_fix S0 S1 S2 S3 x1 x2 = some Rv) : Met l yX11_fix (wsM (.code yX11_fix cX11_fix 4 (some .int))) ({ frames := 4, cells := 0, slots := 0, locals := 107 } : Room) (va_Pc [.ref (q0 0), .int x1, .int x2] (ctP E (cw_X11 E q0 (q1 0) t1 t2 t3 (q2 0) t5 t6 t7 t8 (q3 0) t10 t11 S0 ++ (cw_X8 E q1 S1 ++ (cw_X6 E q2 S2 ++ (cw_X7 E q3 S3)))) sz)) (ctI E (cw_X11 E q0 (q1 0) t1 t2 t3 (q2 0) t5 t6 t7 t8 (q3 0) t10 t11 S0 ++ (cw_X8 E q1 S1 ++ (cw_X6 E q2 S2 ++ (cw_X7 E q3 S3)))) (cw_X11 E q0 (q1 0) t1 t2 t3 (q2 0) t5 t6 t7 t8 (q3 0) t10 t11 S0 ++ (cw_X8 E q1 Rv.2 ++ (cw_X6 E q2 S2 ++ (cw_X7 E q3 S3)))) sz Rv.1) 0 0 (va_A (cw_X11 E q0 (q1 0) t1 t2 t3 (q2 0) t5 t6 t7 t8 (q3 0) t10 t11 S0 ++ (cw_X8 E q1 S1 ++ (cw_X6 E q2 S2 ++ (cw_X7 E q3 S3)))) sz) := by
  refine ct_metI (by decide) (Nat.le_of_ble_eq_true rfl) ?_
  intro p e s m ar below meth c A QM hx hb hml hown hg X hP hD hS RET ls hl
  have hown : s.vm.findClass RX11 = some m.cls := hown
  have hl : lv_has ls 4 [(0, .ref (q0 0)), (1, .int x1), (2, .int x2)] := hl
  have RT : ∀ (v : Int32) (S1 : Gr) (H : Heap) (locs : List Loc) (ls : Array Slot) (pc : Nat), some (v, S1) = some Rv → narrow .int (.int v) = .int v → va_P E.1 vwCl (cw_X11 E q0 (q1 0) t1 t2 t3 (q2 0) t5 t6 t7 t8 (q3 0) t10 t11 S0 ++ (cw_X8 E q1 S1 ++ (cw_X6 E q2 S2 ++ (cw_X7 E q3 S3)))) H → va_D A (cw_X11 E q0 (q1 0) t1 t2 t3 (q2 0) t5 t6 t7 t8 (q3 0) t10 t11 S0 ++ (cw_X8 E q1 S1 ++ (cw_X6 E q2 S2 ++ (cw_X7 E q3 S3)))) → va_S A s.heap H locs → decode cX11_fix pc = .ok (.ireturn, 1) → W p l e ({ frames := 4, cells := 0, slots := 0, locals := 107 } : Room) s m ar below meth c H locs 0 0 QM (F0 m pc ls [.int v]) := by
    intro v S1 H locs ls pc e hn hP hD hS d
    obtain rfl := sm_e e
    exact RET H locs pc ls hn hP hD hS d
  clear RET
  obtain ⟨H, eH⟩ : ∃ z, z = s.heap := ⟨_, rfl⟩
  rw [← eH]
  have hP : va_P E.1 vwCl (cw_X11 E q0 (q1 0) t1 t2 t3 (q2 0) t5 t6 t7 t8 (q3 0) t10 t11 S0 ++ (cw_X8 E q1 S1 ++ (cw_X6 E q2 S2 ++ (cw_X7 E q3 S3)))) H := by rw [eH]; exact hP
  have hS : va_S A s.heap H [] := by rw [eH]; exact hS
  clear eH
  obtain ⟨locs, el⟩ : ∃ z : List Loc, z = [] := ⟨_, rfl⟩
  rw [← el] at hS ⊢
  clear el
  refine lv_iload_n hx hb dX11_fix_0 rfl (lv_at hl 1 rfl) ?_
  refine lv_iconst (v := 1) hx hb dX11_fix_1 (by decide) ?_
  refine lv_bipush (v := 8) hx hb dX11_fix_2 (by decide) ?_
  obtain ⟨u1, hc, h⟩ := bd_el h
  refine ct_iN X hP hD hS (va_runS (As := [.int x1, .int 1, .int 8]) (rest := []) ⟨hx, hb, hml, hown, hg⟩ (c_X11_within l E  H.size x1 1 8 u1 hc) (va_cwS 3 hg (gwS wm_X11_89 wst_X11_within wini_X11 wco_X11_within) rfl rfl rfl (by decide +kernel) ⟨Nat.le_of_ble_eq_true rfl, Nat.le_of_ble_eq_true rfl⟩) ⟨ct_blind, ct_preN X hS _⟩ rfl rfl hl.1 rfl (lv_room (Nat.le_of_ble_eq_true rfl)) dX11_fix_4 ⟨Nat.zero_le _, Nat.zero_le _⟩) (fun H locs hP hD hS => ?_)
  refine lv_if_eq (tgt := 32) hx hb dX11_fix_7 (by decide) (fun c2 => ?_) (fun c2 => ?_)
  · have h := it_t h c2
    refine lv_iconst (v := (-1)) hx hb dX11_fix_32 (by decide) ?_
    exact RT (-1) S1 _ _ _ _ h rfl hP hD hS dX11_fix_33
  · have h := it_f h c2
    refine lv_iload_n hx hb dX11_fix_10 rfl (lv_at hl 2 rfl) ?_
    refine lv_iconst (v := 0) hx hb dX11_fix_11 (by decide) ?_
    refine lv_iconst (v := 1) hx hb dX11_fix_12 (by decide) ?_
    obtain ⟨u3, hc, h⟩ := bd_el h
    refine ct_iN X hP hD hS (va_runS (As := [.int x2, .int 0, .int 1]) (rest := []) ⟨hx, hb, hml, hown, hg⟩ (c_X11_within l E  H.size x2 0 1 u3 hc) (va_cwS 3 hg (gwS wm_X11_89 wst_X11_within wini_X11 wco_X11_within) rfl rfl rfl (by decide +kernel) ⟨Nat.le_of_ble_eq_true rfl, Nat.le_of_ble_eq_true rfl⟩) ⟨ct_blind, ct_preN X hS _⟩ rfl rfl hl.1 rfl (lv_room (Nat.le_of_ble_eq_true rfl)) dX11_fix_13 ⟨Nat.zero_le _, Nat.zero_le _⟩) (fun H locs hP hD hS => ?_)
    refine lv_if_eq (tgt := 32) hx hb dX11_fix_16 (by decide) (fun c4 => ?_) (fun c4 => ?_)
    · have h := it_t h c4
      refine lv_iconst (v := (-1)) hx hb dX11_fix_32 (by decide) ?_
      exact RT (-1) S1 _ _ _ _ h rfl hP hD hS dX11_fix_33
    · have h := it_f h c4
      refine lv_aload_n hx hb dX11_fix_19 rfl (lv_at hl 0 rfl) ?_
      refine va_get (D := E.1) (ci := 10) (v := .ref (q1 0)) (C := RX11) (T := TX11) (N := 13) hx hb hg in_X11 hown X.1 hP 0 rfl rfl 0 (by decide) (hg _ wf_X11_10) (fun _ h9 => h9) rfl dX11_fix_20 ?_
      refine lv_iconst (v := 2) hx hb dX11_fix_23 (by decide) ?_
      refine lv_iload_n hx hb dX11_fix_24 rfl (lv_at hl 1 rfl) ?_
      refine lv_imul hx hb dX11_fix_25 ?_
      obtain ⟨u5, hc, h⟩ := bd_el h
      have hC : ([1, 2] : List Nat).map (fun i => (cw_X11 E q0 (q1 0) t1 t2 t3 (q2 0) t5 t6 t7 t8 (q3 0) t10 t11 S0 ++ (cw_X8 E q1 S1 ++ (cw_X6 E q2 S2 ++ (cw_X7 E q3 S3))))[i]?) = (cw_X8 E q1 S1).map some := rfl
      refine ct_iR X hP hD hS [1, 2] hC (va_runV (C := RX8) (As := [.int (2 * x1)]) (rest := []) ⟨hx, hb, hml, hown, hg⟩ (c_X8_has l E q1 H.size S1 (2 * x1) u5 hc) (cwV 1 hg (gwV wm_X11_108 wi_X8_has wsl_X8_has wini_X8 wco_X8_has) rfl rfl rfl (by decide +kernel) ⟨Nat.le_of_ble_eq_true rfl, Nat.le_of_ble_eq_true rfl⟩) ⟨ct_blind, ct_rv X.1 hP 1 rfl rfl, ct_pre X hP hD hS [1, 2] (by decide) hC _⟩ rfl rfl hl.1 rfl (lv_room (Nat.le_of_ble_eq_true rfl)) dX11_fix_26 ⟨Nat.zero_le _, Nat.zero_le _⟩) (fun H locs hP hD hS => ?_)
      clear hC
      refine lv_if_ne (tgt := 34) hx hb dX11_fix_29 (by decide) (fun c6 => ?_) (fun c6 => ?_)
      · have h := it_f h c6
        refine lv_aload_n hx hb dX11_fix_34 rfl (lv_at hl 0 rfl) ?_
        refine va_get (D := E.1) (ci := 10) (v := .ref (q2 0)) (C := RX11) (T := TX11) (N := 13) hx hb hg in_X11 hown X.1 hP 0 rfl rfl 4 (by decide) (hg _ wf_X11_40) (fun _ h9 => h9) rfl dX11_fix_35 ?_
        refine lv_aload_n hx hb dX11_fix_38 rfl (lv_at hl 0 rfl) ?_
        refine va_get (D := E.1) (ci := 10) (v := .ref (q3 0)) (C := RX11) (T := TX11) (N := 13) hx hb hg in_X11 hown X.1 hP 0 rfl rfl 9 (by decide) (hg _ wf_X11_71) (fun _ h9 => h9) rfl dX11_fix_39 ?_
        refine lv_aload_n hx hb dX11_fix_42 rfl (lv_at hl 0 rfl) ?_
        refine va_get (D := E.1) (ci := 10) (v := .ref (q1 0)) (C := RX11) (T := TX11) (N := 13) hx hb hg in_X11 hown X.1 hP 0 rfl rfl 0 (by decide) (hg _ wf_X11_10) (fun _ h9 => h9) rfl dX11_fix_43 ?_
        refine lv_iload_n hx hb dX11_fix_46 rfl (lv_at hl 1 rfl) ?_
        refine lv_iload_n hx hb dX11_fix_47 rfl (lv_at hl 2 rfl) ?_
        obtain ⟨u7, hc, h⟩ := bd_el h
        have hC : ([3, 4, 5, 6, 7, 8, 9, 10, 11, 12, 13, 1, 2] : List Nat).map (fun i => (cw_X11 E q0 (q1 0) t1 t2 t3 (q2 0) t5 t6 t7 t8 (q3 0) t10 t11 S0 ++ (cw_X8 E q1 S1 ++ (cw_X6 E q2 S2 ++ (cw_X7 E q3 S3))))[i]?) = (cw_X6 E q2 S2 ++ (cw_X7 E q3 S3 ++ (cw_X8 E q1 S1))).map some := rfl
        refine ct_iR X hP hD hS [3, 4, 5, 6, 7, 8, 9, 10, 11, 12, 13, 1, 2] hC (va_runV (C := RX6) (As := [.ref (q3 0), .ref (q1 0), .int x1, .int x2]) (rest := []) ⟨hx, hb, hml, hown, hg⟩ (c_X6_fixBy l E q2 q3 q1 H.size S2 S3 S1 x1 x2 u7 hc) (cwV 4 hg (gwV wm_X11_185 wi_X6_fixBy wsl_X6_fixBy wini_X6 wco_X6_fixBy) rfl rfl rfl (by decide +kernel) ⟨Nat.le_of_ble_eq_true rfl, Nat.le_of_ble_eq_true rfl⟩) ⟨ct_blind, ct_rv X.1 hP 3 rfl rfl, ct_pre X hP hD hS [3, 4, 5, 6, 7, 8, 9, 10, 11, 12, 13, 1, 2] (by decide) hC _⟩ rfl rfl hl.1 rfl (lv_room (Nat.le_of_ble_eq_true rfl)) dX11_fix_48 ⟨Nat.zero_le _, Nat.zero_le _⟩) (fun H locs hP hD hS => ?_)
        clear hC
        refine lv_istore_n (lv' := [(3, .int u7), (0, .ref (q0 0)), (1, .int x1), (2, .int x2)]) hx hb dX11_fix_51 rfl hl (by decide) rfl (fun ls hl => ?_)
        refine lv_aload_n hx hb dX11_fix_52 rfl (lv_at hl 1 rfl) ?_
        refine va_get (D := E.1) (ci := 10) (v := .ref (q1 0)) (C := RX11) (T := TX11) (N := 13) hx hb hg in_X11 hown X.1 hP 0 rfl rfl 0 (by decide) (hg _ wf_X11_10) (fun _ h9 => h9) rfl dX11_fix_53 ?_
        obtain ⟨u8, hc, h⟩ := bd_el h
        have hC : ([1, 2] : List Nat).map (fun i => (cw_X11 E q0 (q1 0) t1 t2 t3 (q2 0) t5 t6 t7 t8 (q3 0) t10 t11 S0 ++ (cw_X8 E q1 S1 ++ (cw_X6 E q2 S2 ++ (cw_X7 E q3 S3))))[i]?) = (cw_X8 E q1 S1).map some := rfl
        refine ct_v (ws' := cw_X11 E q0 (q1 0) t1 t2 t3 (q2 0) t5 t6 t7 t8 (q3 0) t10 t11 S0 ++ (cw_X8 E q1 u8 ++ (cw_X6 E q2 S2 ++ (cw_X7 E q3 S3)))) X hP hD hS [1, 2] (va_runV (C := RX8) (As := []) (rest := []) ⟨hx, hb, hml, hown, hg⟩ (c_X8_empty l E q1 H.size S1 u8 hc) (cwV 0 hg (gwV wm_X11_115 wi_X8_empty wsl_X8_empty wini_X8 wco_X8_empty) rfl rfl rfl (by decide +kernel) ⟨Nat.le_of_ble_eq_true rfl, Nat.le_of_ble_eq_true rfl⟩) ⟨ct_blind, ct_rv X.1 hP 1 rfl rfl, ct_pre X hP hD hS [1, 2] (by decide) hC _⟩ rfl rfl hl.1 rfl (lv_room (Nat.le_of_ble_eq_true rfl)) dX11_fix_56 ⟨Nat.zero_le _, Nat.zero_le _⟩) hC rfl rfl (fun H locs hP hD hS => ?_)
        clear hC
        refine lv_iload_n hx hb dX11_fix_59 rfl (lv_at hl 0 rfl) ?_
        exact RT u7 u8 _ _ _ _ h rfl hP hD hS dX11_fix_60
      · have h := it_t h c6
        refine lv_iconst (v := (-1)) hx hb dX11_fix_32 (by decide) ?_
        exact RT (-1) S1 _ _ _ _ h rfl hP hD hS dX11_fix_33
theorem dX11_fleetIs_0 : decode cX11_fleetIs 0 = .ok (.aload_n 0, 1) := by decide +kernel
theorem dX11_fleetIs_1 : decode cX11_fleetIs 1 = .ok (.getfield 71, 3) := by decide +kernel
theorem dX11_fleetIs_4 : decode cX11_fleetIs 4 = .ok (.iload_n 1, 1) := by decide +kernel
theorem dX11_fleetIs_5 : decode cX11_fleetIs 5 = .ok (.invokevirtual 152, 3) := by decide +kernel
theorem dX11_fleetIs_8 : decode cX11_fleetIs 8 = .ok (.ifCond .ne 5, 3) := by decide +kernel
theorem dX11_fleetIs_11 : decode cX11_fleetIs 11 = .ok (.iconst (-1), 1) := by decide +kernel
theorem dX11_fleetIs_12 : decode cX11_fleetIs 12 = .ok (.ireturn, 1) := by decide +kernel
theorem dX11_fleetIs_13 : decode cX11_fleetIs 13 = .ok (.iload_n 2, 1) := by decide +kernel
theorem dX11_fleetIs_14 : decode cX11_fleetIs 14 = .ok (.ifCond .ne 12, 3) := by decide +kernel
theorem dX11_fleetIs_17 : decode cX11_fleetIs 17 = .ok (.aload_n 0, 1) := by decide +kernel
theorem dX11_fleetIs_18 : decode cX11_fleetIs 18 = .ok (.getfield 71, 3) := by decide +kernel
theorem dX11_fleetIs_21 : decode cX11_fleetIs 21 = .ok (.iload_n 1, 1) := by decide +kernel
theorem dX11_fleetIs_22 : decode cX11_fleetIs 22 = .ok (.invokevirtual 146, 3) := by decide +kernel
theorem dX11_fleetIs_25 : decode cX11_fleetIs 25 = .ok (.ireturn, 1) := by decide +kernel
theorem dX11_fleetIs_26 : decode cX11_fleetIs 26 = .ok (.iload_n 2, 1) := by decide +kernel
theorem dX11_fleetIs_27 : decode cX11_fleetIs 27 = .ok (.iconst 1, 1) := by decide +kernel
theorem dX11_fleetIs_28 : decode cX11_fleetIs 28 = .ok (.if_icmp .ne 13, 3) := by decide +kernel
theorem dX11_fleetIs_31 : decode cX11_fleetIs 31 = .ok (.aload_n 0, 1) := by decide +kernel
theorem dX11_fleetIs_32 : decode cX11_fleetIs 32 = .ok (.getfield 71, 3) := by decide +kernel
theorem dX11_fleetIs_35 : decode cX11_fleetIs 35 = .ok (.getfield 170, 3) := by decide +kernel
theorem dX11_fleetIs_38 : decode cX11_fleetIs 38 = .ok (.iload_n 1, 1) := by decide +kernel
theorem dX11_fleetIs_39 : decode cX11_fleetIs 39 = .ok (.iaload, 1) := by decide +kernel
theorem dX11_fleetIs_40 : decode cX11_fleetIs 40 = .ok (.ireturn, 1) := by decide +kernel
theorem dX11_fleetIs_41 : decode cX11_fleetIs 41 = .ok (.iload_n 2, 1) := by decide +kernel
theorem dX11_fleetIs_42 : decode cX11_fleetIs 42 = .ok (.iconst 2, 1) := by decide +kernel
theorem dX11_fleetIs_43 : decode cX11_fleetIs 43 = .ok (.if_icmp .ne 14, 3) := by decide +kernel
theorem dX11_fleetIs_46 : decode cX11_fleetIs 46 = .ok (.aload_n 0, 1) := by decide +kernel
theorem dX11_fleetIs_47 : decode cX11_fleetIs 47 = .ok (.getfield 71, 3) := by decide +kernel
theorem dX11_fleetIs_50 : decode cX11_fleetIs 50 = .ok (.iload_n 1, 1) := by decide +kernel
theorem dX11_fleetIs_51 : decode cX11_fleetIs 51 = .ok (.invokevirtual 149, 3) := by decide +kernel
theorem dX11_fleetIs_54 : decode cX11_fleetIs 54 = .ok (.goto 4, 3) := by decide +kernel
theorem dX11_fleetIs_57 : decode cX11_fleetIs 57 = .ok (.iconst (-1), 1) := by decide +kernel
theorem dX11_fleetIs_58 : decode cX11_fleetIs 58 = .ok (.ireturn, 1) := by decide +kernel
def f_X11_fleetIs (S0 : Gr) (S1 : Gr) (x1 : Int32) (x2 : Int32) : Option (Int32) := (f_X7_hasFleet S1 x1).bind fun u1 => if u1 = 0 then (some (-1)) else (if x2 = 0 then ((f_X7_placeOfFleet S1 x1).bind fun u8 => some u8) else (if x2 = 1 then (rd' (S1.2 7) 8 x1 fun v7 => some v7) else (if x2 = 2 then ((f_X7_toldCourse S1 x1).bind fun u6 => some u6) else (some (-1)))))
set_option maxHeartbeats 4000000 in
set_option maxRecDepth 100000 in
theorem c_X11_fleetIs (l : Launch) (E : Ec) (q0 q1 : Nat → Nat) (t0 t1 t2 t3 t4 t5 t6 t7 t8 t10 t11 : Nat) (sz : Nat) (S0 : Gr) (S1 : Gr) (x1 : Int32) (x2 : Int32) (Rv : Int32) (h : f_X11_fleetIs S0 S1 x1 x2 = some Rv) : Met l yX11_fleetIs (wsM (.code yX11_fleetIs cX11_fleetIs 3 (some .int))) ({ frames := 2, cells := 0, slots := 0, locals := 42 } : Room) (va_Pc [.ref (q0 0), .int x1, .int x2] (ctP E (cw_X11 E q0 t0 t1 t2 t3 t4 t5 t6 t7 t8 (q1 0) t10 t11 S0 ++ (cw_X7 E q1 S1)) sz)) (ctI E (cw_X11 E q0 t0 t1 t2 t3 t4 t5 t6 t7 t8 (q1 0) t10 t11 S0 ++ (cw_X7 E q1 S1)) (cw_X11 E q0 t0 t1 t2 t3 t4 t5 t6 t7 t8 (q1 0) t10 t11 S0 ++ (cw_X7 E q1 S1)) sz Rv) 0 0 (va_A (cw_X11 E q0 t0 t1 t2 t3 t4 t5 t6 t7 t8 (q1 0) t10 t11 S0 ++ (cw_X7 E q1 S1)) sz) := by
  refine ct_metI (by decide) (Nat.le_of_ble_eq_true rfl) ?_
  intro p e s m ar below meth c A QM hx hb hml hown hg X hP hD hS RET ls hl
  have hown : s.vm.findClass RX11 = some m.cls := hown
  have hl : lv_has ls 3 [(0, .ref (q0 0)), (1, .int x1), (2, .int x2)] := hl
  have RT : ∀ (v : Int32) (H : Heap) (locs : List Loc) (ls : Array Slot) (pc : Nat), some v = some Rv → narrow .int (.int v) = .int v → va_P E.1 vwCl (cw_X11 E q0 t0 t1 t2 t3 t4 t5 t6 t7 t8 (q1 0) t10 t11 S0 ++ (cw_X7 E q1 S1)) H → va_D A (cw_X11 E q0 t0 t1 t2 t3 t4 t5 t6 t7 t8 (q1 0) t10 t11 S0 ++ (cw_X7 E q1 S1)) → va_S A s.heap H locs → decode cX11_fleetIs pc = .ok (.ireturn, 1) → W p l e ({ frames := 2, cells := 0, slots := 0, locals := 42 } : Room) s m ar below meth c H locs 0 0 QM (F0 m pc ls [.int v]) := by
    intro v H locs ls pc e hn hP hD hS d
    obtain rfl := sm_e e
    exact RET H locs pc ls hn hP hD hS d
  clear RET
  obtain ⟨H, eH⟩ : ∃ z, z = s.heap := ⟨_, rfl⟩
  rw [← eH]
  have hP : va_P E.1 vwCl (cw_X11 E q0 t0 t1 t2 t3 t4 t5 t6 t7 t8 (q1 0) t10 t11 S0 ++ (cw_X7 E q1 S1)) H := by rw [eH]; exact hP
  have hS : va_S A s.heap H [] := by rw [eH]; exact hS
  clear eH
  obtain ⟨locs, el⟩ : ∃ z : List Loc, z = [] := ⟨_, rfl⟩
  rw [← el] at hS ⊢
  clear el
  refine lv_aload_n hx hb dX11_fleetIs_0 rfl (lv_at hl 0 rfl) ?_
  refine va_get (D := E.1) (ci := 10) (v := .ref (q1 0)) (C := RX11) (T := TX11) (N := 13) hx hb hg in_X11 hown X.1 hP 0 rfl rfl 9 (by decide) (hg _ wf_X11_71) (fun _ h9 => h9) rfl dX11_fleetIs_1 ?_
  refine lv_iload_n hx hb dX11_fleetIs_4 rfl (lv_at hl 1 rfl) ?_
  obtain ⟨u1, hc, h⟩ := bd_el h
  have hC : ([1, 2, 3, 4, 5, 6, 7, 8] : List Nat).map (fun i => (cw_X11 E q0 t0 t1 t2 t3 t4 t5 t6 t7 t8 (q1 0) t10 t11 S0 ++ (cw_X7 E q1 S1))[i]?) = (cw_X7 E q1 S1).map some := rfl
  refine ct_iR X hP hD hS [1, 2, 3, 4, 5, 6, 7, 8] hC (va_runV (C := RX7) (As := [.int x1]) (rest := []) ⟨hx, hb, hml, hown, hg⟩ (c_X7_hasFleet l E q1 H.size S1 x1 u1 hc) (cwV 1 hg (gwV wm_X11_152 wi_X7_hasFleet wsl_X7_hasFleet wini_X7 wco_X7_hasFleet) rfl rfl rfl (by decide +kernel) ⟨Nat.le_of_ble_eq_true rfl, Nat.le_of_ble_eq_true rfl⟩) ⟨ct_blind, ct_rv X.1 hP 1 rfl rfl, ct_pre X hP hD hS [1, 2, 3, 4, 5, 6, 7, 8] (by decide) hC _⟩ rfl rfl hl.1 rfl (lv_room (Nat.le_of_ble_eq_true rfl)) dX11_fleetIs_5 ⟨Nat.zero_le _, Nat.zero_le _⟩) (fun H locs hP hD hS => ?_)
  clear hC
  refine lv_if_ne (tgt := 13) hx hb dX11_fleetIs_8 (by decide) (fun c2 => ?_) (fun c2 => ?_)
  · have h := it_f h c2
    refine lv_iload_n hx hb dX11_fleetIs_13 rfl (lv_at hl 2 rfl) ?_
    refine lv_if_ne (tgt := 26) hx hb dX11_fleetIs_14 (by decide) (fun c3 => ?_) (fun c3 => ?_)
    · have h := it_f h c3
      refine lv_iload_n hx hb dX11_fleetIs_26 rfl (lv_at hl 2 rfl) ?_
      refine lv_iconst (v := 1) hx hb dX11_fleetIs_27 (by decide) ?_
      refine lv_icmp_ne (tgt := 41) hx hb dX11_fleetIs_28 (by decide) (fun c4 => ?_) (fun c4 => ?_)
      · have h := it_f h c4
        refine lv_iload_n hx hb dX11_fleetIs_41 rfl (lv_at hl 2 rfl) ?_
        refine lv_iconst (v := 2) hx hb dX11_fleetIs_42 (by decide) ?_
        refine lv_icmp_ne (tgt := 57) hx hb dX11_fleetIs_43 (by decide) (fun c5 => ?_) (fun c5 => ?_)
        · have h := it_f h c5
          refine lv_iconst (v := (-1)) hx hb dX11_fleetIs_57 (by decide) ?_
          exact RT (-1) _ _ _ _ h rfl hP hD hS dX11_fleetIs_58
        · have h := it_t h c5
          refine lv_aload_n hx hb dX11_fleetIs_46 rfl (lv_at hl 0 rfl) ?_
          refine va_get (D := E.1) (ci := 10) (v := .ref (q1 0)) (C := RX11) (T := TX11) (N := 13) hx hb hg in_X11 hown X.1 hP 0 rfl rfl 9 (by decide) (hg _ wf_X11_71) (fun _ h9 => h9) rfl dX11_fleetIs_47 ?_
          refine lv_iload_n hx hb dX11_fleetIs_50 rfl (lv_at hl 1 rfl) ?_
          obtain ⟨u6, hc, h⟩ := bd_el h
          have hC : ([1, 2, 3, 4, 5, 6, 7, 8] : List Nat).map (fun i => (cw_X11 E q0 t0 t1 t2 t3 t4 t5 t6 t7 t8 (q1 0) t10 t11 S0 ++ (cw_X7 E q1 S1))[i]?) = (cw_X7 E q1 S1).map some := rfl
          refine ct_iR X hP hD hS [1, 2, 3, 4, 5, 6, 7, 8] hC (va_runV (C := RX7) (As := [.int x1]) (rest := []) ⟨hx, hb, hml, hown, hg⟩ (c_X7_toldCourse l E q1 H.size S1 x1 u6 hc) (cwV 1 hg (gwV wm_X11_149 wi_X7_toldCourse wsl_X7_toldCourse wini_X7 wco_X7_toldCourse) rfl rfl rfl (by decide +kernel) ⟨Nat.le_of_ble_eq_true rfl, Nat.le_of_ble_eq_true rfl⟩) ⟨ct_blind, ct_rv X.1 hP 1 rfl rfl, ct_pre X hP hD hS [1, 2, 3, 4, 5, 6, 7, 8] (by decide) hC _⟩ rfl rfl hl.1 rfl (lv_room (Nat.le_of_ble_eq_true rfl)) dX11_fleetIs_51 ⟨Nat.zero_le _, Nat.zero_le _⟩) (fun H locs hP hD hS => ?_)
          clear hC
          refine lv_goto (tgt := 58) hx hb dX11_fleetIs_54 (by decide) ?_
          exact RT u6 _ _ _ _ h rfl hP hD hS dX11_fleetIs_58
      · have h := it_t h c4
        refine lv_aload_n hx hb dX11_fleetIs_31 rfl (lv_at hl 0 rfl) ?_
        refine va_get (D := E.1) (ci := 10) (v := .ref (q1 0)) (C := RX11) (T := TX11) (N := 13) hx hb hg in_X11 hown X.1 hP 0 rfl rfl 9 (by decide) (hg _ wf_X11_71) (fun _ h9 => h9) rfl dX11_fleetIs_32 ?_
        refine va_getN (D := E.1) (ci := 6) (v := .ref (q1 6)) (C := RX7) (T := TX7) (N := 11) hx hb hg in_X7 hown X.1 hP 1 rfl rfl 7 (by decide) (va_Nw.use rfl (nf_X11_170 X.2.1)) (fun _ h9 => h9) rfl dX11_fleetIs_35 ?_
        refine lv_iload_n hx hb dX11_fleetIs_38 rfl (lv_at hl 1 rfl) ?_
        obtain ⟨hi, v7, ev7, h⟩ := rd_el h
        refine va_iald hx hb X.1 hP 7 0 rfl rfl hi dX11_fleetIs_39 ?_
        refine lv_top' ev7 ?_
        exact RT v7 _ _ _ _ h rfl hP hD hS dX11_fleetIs_40
    · have h := it_t h c3
      refine lv_aload_n hx hb dX11_fleetIs_17 rfl (lv_at hl 0 rfl) ?_
      refine va_get (D := E.1) (ci := 10) (v := .ref (q1 0)) (C := RX11) (T := TX11) (N := 13) hx hb hg in_X11 hown X.1 hP 0 rfl rfl 9 (by decide) (hg _ wf_X11_71) (fun _ h9 => h9) rfl dX11_fleetIs_18 ?_
      refine lv_iload_n hx hb dX11_fleetIs_21 rfl (lv_at hl 1 rfl) ?_
      obtain ⟨u8, hc, h⟩ := bd_el h
      have hC : ([1, 2, 3, 4, 5, 6, 7, 8] : List Nat).map (fun i => (cw_X11 E q0 t0 t1 t2 t3 t4 t5 t6 t7 t8 (q1 0) t10 t11 S0 ++ (cw_X7 E q1 S1))[i]?) = (cw_X7 E q1 S1).map some := rfl
      refine ct_iR X hP hD hS [1, 2, 3, 4, 5, 6, 7, 8] hC (va_runV (C := RX7) (As := [.int x1]) (rest := []) ⟨hx, hb, hml, hown, hg⟩ (c_X7_placeOfFleet l E q1 H.size S1 x1 u8 hc) (cwV 1 hg (gwV wm_X11_146 wi_X7_placeOfFleet wsl_X7_placeOfFleet wini_X7 wco_X7_placeOfFleet) rfl rfl rfl (by decide +kernel) ⟨Nat.le_of_ble_eq_true rfl, Nat.le_of_ble_eq_true rfl⟩) ⟨ct_blind, ct_rv X.1 hP 1 rfl rfl, ct_pre X hP hD hS [1, 2, 3, 4, 5, 6, 7, 8] (by decide) hC _⟩ rfl rfl hl.1 rfl (lv_room (Nat.le_of_ble_eq_true rfl)) dX11_fleetIs_22 ⟨Nat.zero_le _, Nat.zero_le _⟩) (fun H locs hP hD hS => ?_)
      clear hC
      exact RT u8 _ _ _ _ h rfl hP hD hS dX11_fleetIs_25
  · have h := it_t h c2
    refine lv_iconst (v := (-1)) hx hb dX11_fleetIs_11 (by decide) ?_
    exact RT (-1) _ _ _ _ h rfl hP hD hS dX11_fleetIs_12
theorem dX11_hangs_0 : decode cX11_hangs 0 = .ok (.iload_n 1, 1) := by decide +kernel
theorem dX11_hangs_1 : decode cX11_hangs 1 = .ok (.iconst 3, 1) := by decide +kernel
theorem dX11_hangs_2 : decode cX11_hangs 2 = .ok (.bipush 30, 2) := by decide +kernel
theorem dX11_hangs_4 : decode cX11_hangs 4 = .ok (.invokestatic 89, 3) := by decide +kernel
theorem dX11_hangs_7 : decode cX11_hangs 7 = .ok (.ifCond .ne 7, 3) := by decide +kernel
theorem dX11_hangs_10 : decode cX11_hangs 10 = .ok (.ldc2_w 236, 3) := by decide +kernel
theorem dX11_hangs_13 : decode cX11_hangs 13 = .ok (.lreturn, 1) := by decide +kernel
theorem dX11_hangs_14 : decode cX11_hangs 14 = .ok (.ldc2_w 238, 3) := by decide +kernel
theorem dX11_hangs_17 : decode cX11_hangs 17 = .ok (.lstore_n 2, 1) := by decide +kernel
theorem dX11_hangs_18 : decode cX11_hangs 18 = .ok (.lconst 1, 1) := by decide +kernel
theorem dX11_hangs_19 : decode cX11_hangs 19 = .ok (.lstore 4, 2) := by decide +kernel
theorem dX11_hangs_21 : decode cX11_hangs 21 = .ok (.iconst 0, 1) := by decide +kernel
theorem dX11_hangs_22 : decode cX11_hangs 22 = .ok (.istore 6, 2) := by decide +kernel
theorem dX11_hangs_24 : decode cX11_hangs 24 = .ok (.iload 6, 2) := by decide +kernel
theorem dX11_hangs_26 : decode cX11_hangs 26 = .ok (.iconst 2, 1) := by decide +kernel
theorem dX11_hangs_27 : decode cX11_hangs 27 = .ok (.iload_n 1, 1) := by decide +kernel
theorem dX11_hangs_28 : decode cX11_hangs 28 = .ok (.imul, 1) := by decide +kernel
theorem dX11_hangs_29 : decode cX11_hangs 29 = .ok (.if_icmp .ge 22, 3) := by decide +kernel
theorem dX11_hangs_32 : decode cX11_hangs 32 = .ok (.lload_n 2, 1) := by decide +kernel
theorem dX11_hangs_33 : decode cX11_hangs 33 = .ok (.lload 4, 2) := by decide +kernel
theorem dX11_hangs_35 : decode cX11_hangs 35 = .ok (.ladd, 1) := by decide +kernel
theorem dX11_hangs_36 : decode cX11_hangs 36 = .ok (.lstore 7, 2) := by decide +kernel
theorem dX11_hangs_38 : decode cX11_hangs 38 = .ok (.lload 4, 2) := by decide +kernel
theorem dX11_hangs_40 : decode cX11_hangs 40 = .ok (.lstore_n 2, 1) := by decide +kernel
theorem dX11_hangs_41 : decode cX11_hangs 41 = .ok (.lload 7, 2) := by decide +kernel
theorem dX11_hangs_43 : decode cX11_hangs 43 = .ok (.lstore 4, 2) := by decide +kernel
theorem dX11_hangs_45 : decode cX11_hangs 45 = .ok (.iinc 6 1, 3) := by decide +kernel
theorem dX11_hangs_48 : decode cX11_hangs 48 = .ok (.goto (-24), 3) := by decide +kernel
theorem dX11_hangs_51 : decode cX11_hangs 51 = .ok (.lload_n 2, 1) := by decide +kernel
theorem dX11_hangs_52 : decode cX11_hangs 52 = .ok (.ldc2_w 238, 3) := by decide +kernel
theorem dX11_hangs_55 : decode cX11_hangs 55 = .ok (.lsub, 1) := by decide +kernel
theorem dX11_hangs_56 : decode cX11_hangs 56 = .ok (.lreturn, 1) := by decide +kernel
def f_X11_hangs_n24 (S0 : Gr) (x1 : Int32) : Nat → Int64 → Int64 → Int32 → Option (Int64)
  | 0, _, _, _ => none
  | n + 1, x2, x4, x6 => if (2 * x1) ≤ x6 then (some (x2 - 2)) else (lt' ((x2 + x4)) fun v4 => lt' (x6 + 1) fun v5 => f_X11_hangs_n24 S0 x1 n x4 v4 v5)
def f_X11_hangs (S0 : Gr) (x1 : Int32) : Option (Int64) := (f_X11_within x1 3 30).bind fun u1 => if u1 = 0 then (some (-1)) else (f_X11_hangs_n24 S0 x1 fu 2 1 0)
set_option maxHeartbeats 4000000 in
set_option maxRecDepth 100000 in
theorem c_X11_hangs (l : Launch) (E : Ec) (q0 : Nat → Nat) (t0 t1 t2 t3 t4 t5 t6 t7 t8 t9 t10 t11 : Nat) (sz : Nat) (S0 : Gr) (x1 : Int32) (Rv : Int64) (h : f_X11_hangs S0 x1 = some Rv) : Met l yX11_hangs (wsM (.code yX11_hangs cX11_hangs 9 (some .long))) ({ frames := 1, cells := 0, slots := 0, locals := 22 } : Room) (va_Pc [.ref (q0 0), .int x1] (ctP E (cw_X11 E q0 t0 t1 t2 t3 t4 t5 t6 t7 t8 t9 t10 t11 S0) sz)) (ctL E (cw_X11 E q0 t0 t1 t2 t3 t4 t5 t6 t7 t8 t9 t10 t11 S0) (cw_X11 E q0 t0 t1 t2 t3 t4 t5 t6 t7 t8 t9 t10 t11 S0) sz Rv) 0 0 (va_A (cw_X11 E q0 t0 t1 t2 t3 t4 t5 t6 t7 t8 t9 t10 t11 S0) sz) := by
  refine ct_metL (by decide) (Nat.le_of_ble_eq_true rfl) ?_
  intro p e s m ar below meth c A QM hx hb hml hown hg X hP hD hS RET ls hl
  have hown : s.vm.findClass RX11 = some m.cls := hown
  have hl : lv_has ls 9 [(0, .ref (q0 0)), (1, .int x1)] := hl
  have RT : ∀ (v : Int64) (H : Heap) (locs : List Loc) (ls : Array Slot) (pc : Nat), some v = some Rv → va_P E.1 vwCl (cw_X11 E q0 t0 t1 t2 t3 t4 t5 t6 t7 t8 t9 t10 t11 S0) H → va_D A (cw_X11 E q0 t0 t1 t2 t3 t4 t5 t6 t7 t8 t9 t10 t11 S0) → va_S A s.heap H locs → decode cX11_hangs pc = .ok (.lreturn, 1) → W p l e ({ frames := 1, cells := 0, slots := 0, locals := 22 } : Room) s m ar below meth c H locs 0 0 QM (F0 m pc ls [.long v]) := by
    intro v H locs ls pc e hP hD hS d
    obtain rfl := sm_e e
    exact RET H locs pc ls hP hD hS d
  clear RET
  have N24 : ∀ (n : Nat) (x2 : Int64) (x4 : Int64) (x6 : Int32) (H : Heap) (locs : List Loc) (ls : Array Slot), f_X11_hangs_n24 S0 x1 n x2 x4 x6 = some Rv → va_P E.1 vwCl (cw_X11 E q0 t0 t1 t2 t3 t4 t5 t6 t7 t8 t9 t10 t11 S0) H → va_D A (cw_X11 E q0 t0 t1 t2 t3 t4 t5 t6 t7 t8 t9 t10 t11 S0) → va_S A s.heap H locs → lv_has ls 9 [(1, .int x1), (2, .long x2), (4, .long x4), (6, .int x6)] → W p l e ({ frames := 1, cells := 0, slots := 0, locals := 22 } : Room) s m ar below meth c H locs 0 0 QM (F0 m 24 ls []) := by
    intro n
    induction n with
    | zero => intro x2 x4 x6 H locs ls h; exact nn_el h
    | succ n ih =>
      intro x2 x4 x6 H locs ls h hP hD hS hl
      refine lv_iload hx hb dX11_hangs_24 (lv_at hl 3 rfl) ?_
      refine lv_iconst (v := 2) hx hb dX11_hangs_26 (by decide) ?_
      refine lv_iload_n hx hb dX11_hangs_27 rfl (lv_at hl 0 rfl) ?_
      refine lv_imul hx hb dX11_hangs_28 ?_
      refine lv_icmp_ge (tgt := 51) hx hb dX11_hangs_29 (by decide) (fun c3 => ?_) (fun c3 => ?_)
      · have h := it_t h c3
        refine lv_lload_n hx hb dX11_hangs_51 rfl (lv_at hl 1 rfl) ?_
        refine lv_ldc2 hx hb hown (hg _ wcn_X11_238) dX11_hangs_52 ?_
        refine lv_lsub hx hb dX11_hangs_55 ?_
        exact RT (x2 - 2) _ _ _ _ h hP hD hS dX11_hangs_56
      · have h := it_f h c3
        refine lv_lload_n hx hb dX11_hangs_32 rfl (lv_at hl 1 rfl) ?_
        refine lv_lload hx hb dX11_hangs_33 (lv_at hl 2 rfl) ?_
        refine lv_ladd hx hb dX11_hangs_35 ?_
        obtain ⟨v4, ev4, h⟩ := lt_el h
        refine lv_topl' ev4 ?_
        refine lv_lstore (lv' := [(7, .long v4), (1, .int x1), (2, .long x2), (4, .long x4), (6, .int x6)]) hx hb dX11_hangs_36 hl (by decide) rfl (fun ls hl => ?_)
        refine lv_lload hx hb dX11_hangs_38 (lv_at hl 3 rfl) ?_
        refine lv_lstore_n (lv' := [(2, .long x4), (7, .long v4), (1, .int x1), (4, .long x4), (6, .int x6)]) hx hb dX11_hangs_40 rfl hl (by decide) rfl (fun ls hl => ?_)
        refine lv_lload hx hb dX11_hangs_41 (lv_at hl 1 rfl) ?_
        refine lv_lstore (lv' := [(4, .long v4), (2, .long x4), (7, .long v4), (1, .int x1), (6, .int x6)]) hx hb dX11_hangs_43 hl (by decide) rfl (fun ls hl => ?_)
        obtain ⟨v5, ev5, h⟩ := lt_el h
        refine lv_iinc (v := v5) (lv' := [(6, .int v5), (4, .long v4), (2, .long x4), (7, .long v4), (1, .int x1)]) hx hb dX11_hangs_45 hl (k := 4) rfl (by rw [ev5]; rfl) (by decide) rfl (fun ls hl => ?_)
        refine lv_goto (tgt := 24) hx hb dX11_hangs_48 (by decide) ?_
        exact ih x4 v4 v5 _ _ _ h hP hD hS (lv_sub hl [4, 2, 1, 0] rfl)
  obtain ⟨H, eH⟩ : ∃ z, z = s.heap := ⟨_, rfl⟩
  rw [← eH]
  have hP : va_P E.1 vwCl (cw_X11 E q0 t0 t1 t2 t3 t4 t5 t6 t7 t8 t9 t10 t11 S0) H := by rw [eH]; exact hP
  have hS : va_S A s.heap H [] := by rw [eH]; exact hS
  clear eH
  obtain ⟨locs, el⟩ : ∃ z : List Loc, z = [] := ⟨_, rfl⟩
  rw [← el] at hS ⊢
  clear el
  refine lv_iload_n hx hb dX11_hangs_0 rfl (lv_at hl 1 rfl) ?_
  refine lv_iconst (v := 3) hx hb dX11_hangs_1 (by decide) ?_
  refine lv_bipush (v := 30) hx hb dX11_hangs_2 (by decide) ?_
  obtain ⟨u1, hc, h⟩ := bd_el h
  refine ct_iN X hP hD hS (va_runS (As := [.int x1, .int 3, .int 30]) (rest := []) ⟨hx, hb, hml, hown, hg⟩ (c_X11_within l E  H.size x1 3 30 u1 hc) (va_cwS 3 hg (gwS wm_X11_89 wst_X11_within wini_X11 wco_X11_within) rfl rfl rfl (by decide +kernel) ⟨Nat.le_of_ble_eq_true rfl, Nat.le_of_ble_eq_true rfl⟩) ⟨ct_blind, ct_preN X hS _⟩ rfl rfl hl.1 rfl (lv_room (Nat.le_of_ble_eq_true rfl)) dX11_hangs_4 ⟨Nat.zero_le _, Nat.zero_le _⟩) (fun H locs hP hD hS => ?_)
  refine lv_if_ne (tgt := 14) hx hb dX11_hangs_7 (by decide) (fun c2 => ?_) (fun c2 => ?_)
  · have h := it_f h c2
    refine lv_ldc2 hx hb hown (hg _ wcn_X11_238) dX11_hangs_14 ?_
    refine lv_lstore_n (lv' := [(2, .long 2), (0, .ref (q0 0)), (1, .int x1)]) hx hb dX11_hangs_17 rfl hl (by decide) rfl (fun ls hl => ?_)
    refine lv_lconst (v := 1) hx hb dX11_hangs_18 (by decide) ?_
    refine lv_lstore (lv' := [(4, .long 1), (2, .long 2), (0, .ref (q0 0)), (1, .int x1)]) hx hb dX11_hangs_19 hl (by decide) rfl (fun ls hl => ?_)
    refine lv_iconst (v := 0) hx hb dX11_hangs_21 (by decide) ?_
    refine lv_istore (lv' := [(6, .int 0), (4, .long 1), (2, .long 2), (0, .ref (q0 0)), (1, .int x1)]) hx hb dX11_hangs_22 hl (by decide) rfl (fun ls hl => ?_)
    exact N24 fu 2 1 0 _ _ _ h hP hD hS (lv_sub hl [4, 2, 1, 0] rfl)
  · have h := it_t h c2
    refine lv_ldc2 hx hb hown (hg _ wcn_X11_236) dX11_hangs_10 ?_
    exact RT (-1) _ _ _ _ h hP hD hS dX11_hangs_13
theorem dX11_hours_0 : decode cX11_hours 0 = .ok (.iload_n 1, 1) := by decide +kernel
theorem dX11_hours_1 : decode cX11_hours 1 = .ok (.iconst 1, 1) := by decide +kernel
theorem dX11_hours_2 : decode cX11_hours 2 = .ok (.bipush 100, 2) := by decide +kernel
theorem dX11_hours_4 : decode cX11_hours 4 = .ok (.invokestatic 89, 3) := by decide +kernel
theorem dX11_hours_7 : decode cX11_hours 7 = .ok (.ifCond .ne 5, 3) := by decide +kernel
theorem dX11_hours_10 : decode cX11_hours 10 = .ok (.iconst (-1), 1) := by decide +kernel
theorem dX11_hours_11 : decode cX11_hours 11 = .ok (.ireturn, 1) := by decide +kernel
theorem dX11_hours_12 : decode cX11_hours 12 = .ok (.aload_n 0, 1) := by decide +kernel
theorem dX11_hours_13 : decode cX11_hours 13 = .ok (.getfield 71, 3) := by decide +kernel
theorem dX11_hours_16 : decode cX11_hours 16 = .ok (.aload_n 0, 1) := by decide +kernel
theorem dX11_hours_17 : decode cX11_hours 17 = .ok (.getfield 61, 3) := by decide +kernel
theorem dX11_hours_20 : decode cX11_hours 20 = .ok (.iload_n 1, 1) := by decide +kernel
theorem dX11_hours_21 : decode cX11_hours 21 = .ok (.invokevirtual 128, 3) := by decide +kernel
theorem dX11_hours_24 : decode cX11_hours 24 = .ok (.ireturn, 1) := by decide +kernel
def f_X11_hours (S0 : Gr) (S1 : Gr) (S2 : Gr) (x1 : Int32) : Option (Int32 × Gr × Gr) := (f_X11_within x1 1 100).bind fun u1 => if u1 = 0 then (some ((-1), S1, S2)) else ((f_X7_passHours S1 S2 x1).bind fun u3 => some (u3.1, u3.2.1, u3.2.2))
set_option maxHeartbeats 4000000 in
set_option maxRecDepth 100000 in
theorem c_X11_hours (l : Launch) (E : Ec) (q0 q1 q2 : Nat → Nat) (t0 t1 t2 t3 t4 t5 t6 t8 t10 t11 : Nat) (sz : Nat) (S0 : Gr) (S1 : Gr) (S2 : Gr) (x1 : Int32) (Rv : Int32 × Gr × Gr) (h : f_X11_hours S0 S1 S2 x1 = some Rv) : Met l yX11_hours (wsM (.code yX11_hours cX11_hours 2 (some .int))) ({ frames := 7, cells := 0, slots := 0, locals := 171 } : Room) (va_Pc [.ref (q0 0), .int x1] (ctP E (cw_X11 E q0 t0 t1 t2 t3 t4 t5 t6 (q2 0) t8 (q1 0) t10 t11 S0 ++ (cw_X7 E q1 S1 ++ (cw_X3 E q2 S2))) sz)) (ctI E (cw_X11 E q0 t0 t1 t2 t3 t4 t5 t6 (q2 0) t8 (q1 0) t10 t11 S0 ++ (cw_X7 E q1 S1 ++ (cw_X3 E q2 S2))) (cw_X11 E q0 t0 t1 t2 t3 t4 t5 t6 (q2 0) t8 (q1 0) t10 t11 S0 ++ (cw_X7 E q1 Rv.2.1 ++ (cw_X3 E q2 Rv.2.2))) sz Rv.1) 0 0 (va_A (cw_X11 E q0 t0 t1 t2 t3 t4 t5 t6 (q2 0) t8 (q1 0) t10 t11 S0 ++ (cw_X7 E q1 S1 ++ (cw_X3 E q2 S2))) sz) := by
  refine ct_metI (by decide) (Nat.le_of_ble_eq_true rfl) ?_
  intro p e s m ar below meth c A QM hx hb hml hown hg X hP hD hS RET ls hl
  have hown : s.vm.findClass RX11 = some m.cls := hown
  have hl : lv_has ls 2 [(0, .ref (q0 0)), (1, .int x1)] := hl
  have RT : ∀ (v : Int32) (S1 : Gr) (S2 : Gr) (H : Heap) (locs : List Loc) (ls : Array Slot) (pc : Nat), some (v, S1, S2) = some Rv → narrow .int (.int v) = .int v → va_P E.1 vwCl (cw_X11 E q0 t0 t1 t2 t3 t4 t5 t6 (q2 0) t8 (q1 0) t10 t11 S0 ++ (cw_X7 E q1 S1 ++ (cw_X3 E q2 S2))) H → va_D A (cw_X11 E q0 t0 t1 t2 t3 t4 t5 t6 (q2 0) t8 (q1 0) t10 t11 S0 ++ (cw_X7 E q1 S1 ++ (cw_X3 E q2 S2))) → va_S A s.heap H locs → decode cX11_hours pc = .ok (.ireturn, 1) → W p l e ({ frames := 7, cells := 0, slots := 0, locals := 171 } : Room) s m ar below meth c H locs 0 0 QM (F0 m pc ls [.int v]) := by
    intro v S1 S2 H locs ls pc e hn hP hD hS d
    obtain rfl := sm_e e
    exact RET H locs pc ls hn hP hD hS d
  clear RET
  obtain ⟨H, eH⟩ : ∃ z, z = s.heap := ⟨_, rfl⟩
  rw [← eH]
  have hP : va_P E.1 vwCl (cw_X11 E q0 t0 t1 t2 t3 t4 t5 t6 (q2 0) t8 (q1 0) t10 t11 S0 ++ (cw_X7 E q1 S1 ++ (cw_X3 E q2 S2))) H := by rw [eH]; exact hP
  have hS : va_S A s.heap H [] := by rw [eH]; exact hS
  clear eH
  obtain ⟨locs, el⟩ : ∃ z : List Loc, z = [] := ⟨_, rfl⟩
  rw [← el] at hS ⊢
  clear el
  refine lv_iload_n hx hb dX11_hours_0 rfl (lv_at hl 1 rfl) ?_
  refine lv_iconst (v := 1) hx hb dX11_hours_1 (by decide) ?_
  refine lv_bipush (v := 100) hx hb dX11_hours_2 (by decide) ?_
  obtain ⟨u1, hc, h⟩ := bd_el h
  refine ct_iN X hP hD hS (va_runS (As := [.int x1, .int 1, .int 100]) (rest := []) ⟨hx, hb, hml, hown, hg⟩ (c_X11_within l E  H.size x1 1 100 u1 hc) (va_cwS 3 hg (gwS wm_X11_89 wst_X11_within wini_X11 wco_X11_within) rfl rfl rfl (by decide +kernel) ⟨Nat.le_of_ble_eq_true rfl, Nat.le_of_ble_eq_true rfl⟩) ⟨ct_blind, ct_preN X hS _⟩ rfl rfl hl.1 rfl (lv_room (Nat.le_of_ble_eq_true rfl)) dX11_hours_4 ⟨Nat.zero_le _, Nat.zero_le _⟩) (fun H locs hP hD hS => ?_)
  refine lv_if_ne (tgt := 12) hx hb dX11_hours_7 (by decide) (fun c2 => ?_) (fun c2 => ?_)
  · have h := it_f h c2
    refine lv_aload_n hx hb dX11_hours_12 rfl (lv_at hl 0 rfl) ?_
    refine va_get (D := E.1) (ci := 10) (v := .ref (q1 0)) (C := RX11) (T := TX11) (N := 13) hx hb hg in_X11 hown X.1 hP 0 rfl rfl 9 (by decide) (hg _ wf_X11_71) (fun _ h9 => h9) rfl dX11_hours_13 ?_
    refine lv_aload_n hx hb dX11_hours_16 rfl (lv_at hl 0 rfl) ?_
    refine va_get (D := E.1) (ci := 10) (v := .ref (q2 0)) (C := RX11) (T := TX11) (N := 13) hx hb hg in_X11 hown X.1 hP 0 rfl rfl 7 (by decide) (hg _ wf_X11_61) (fun _ h9 => h9) rfl dX11_hours_17 ?_
    refine lv_iload_n hx hb dX11_hours_20 rfl (lv_at hl 1 rfl) ?_
    obtain ⟨u3, hc, h⟩ := bd_el h
    have hC : ([1, 2, 3, 4, 5, 6, 7, 8, 9, 10, 11, 12, 13, 14, 15, 16] : List Nat).map (fun i => (cw_X11 E q0 t0 t1 t2 t3 t4 t5 t6 (q2 0) t8 (q1 0) t10 t11 S0 ++ (cw_X7 E q1 S1 ++ (cw_X3 E q2 S2)))[i]?) = (cw_X7 E q1 S1 ++ (cw_X3 E q2 S2)).map some := rfl
    refine ct_i (ws' := cw_X11 E q0 t0 t1 t2 t3 t4 t5 t6 (q2 0) t8 (q1 0) t10 t11 S0 ++ (cw_X7 E q1 u3.2.1 ++ (cw_X3 E q2 u3.2.2))) X hP hD hS [1, 2, 3, 4, 5, 6, 7, 8, 9, 10, 11, 12, 13, 14, 15, 16] (va_runV (C := RX7) (As := [.ref (q2 0), .int x1]) (rest := []) ⟨hx, hb, hml, hown, hg⟩ (c_X7_passHours l E q1 q2 H.size S1 S2 x1 u3 hc) (cwV 2 hg (gwV wm_X11_128 wi_X7_passHours wsl_X7_passHours wini_X7 wco_X7_passHours) rfl rfl rfl (by decide +kernel) ⟨Nat.le_of_ble_eq_true rfl, Nat.le_of_ble_eq_true rfl⟩) ⟨ct_blind, ct_rv X.1 hP 1 rfl rfl, ct_pre X hP hD hS [1, 2, 3, 4, 5, 6, 7, 8, 9, 10, 11, 12, 13, 14, 15, 16] (by decide) hC _⟩ rfl rfl hl.1 rfl (lv_room (Nat.le_of_ble_eq_true rfl)) dX11_hours_21 ⟨Nat.zero_le _, Nat.zero_le _⟩) hC rfl rfl (fun H locs hP hD hS => ?_)
    clear hC
    exact RT u3.1 u3.2.1 u3.2.2 _ _ _ _ h rfl hP hD hS dX11_hours_24
  · have h := it_t h c2
    refine lv_iconst (v := (-1)) hx hb dX11_hours_10 (by decide) ?_
    exact RT (-1) S1 S2 _ _ _ _ h rfl hP hD hS dX11_hours_11
theorem dX11_inCommon_0 : decode cX11_inCommon 0 = .ok (.iload_n 1, 1) := by decide +kernel
theorem dX11_inCommon_1 : decode cX11_inCommon 1 = .ok (.iconst 1, 1) := by decide +kernel
theorem dX11_inCommon_2 : decode cX11_inCommon 2 = .ok (.bipush 30, 2) := by decide +kernel
theorem dX11_inCommon_4 : decode cX11_inCommon 4 = .ok (.invokestatic 89, 3) := by decide +kernel
theorem dX11_inCommon_7 : decode cX11_inCommon 7 = .ok (.ifCond .eq 26, 3) := by decide +kernel
theorem dX11_inCommon_10 : decode cX11_inCommon 10 = .ok (.iload_n 2, 1) := by decide +kernel
theorem dX11_inCommon_11 : decode cX11_inCommon 11 = .ok (.iconst 1, 1) := by decide +kernel
theorem dX11_inCommon_12 : decode cX11_inCommon 12 = .ok (.bipush 30, 2) := by decide +kernel
theorem dX11_inCommon_14 : decode cX11_inCommon 14 = .ok (.invokestatic 89, 3) := by decide +kernel
theorem dX11_inCommon_17 : decode cX11_inCommon 17 = .ok (.ifCond .eq 16, 3) := by decide +kernel
theorem dX11_inCommon_20 : decode cX11_inCommon 20 = .ok (.aload_n 0, 1) := by decide +kernel
theorem dX11_inCommon_21 : decode cX11_inCommon 21 = .ok (.getfield 10, 3) := by decide +kernel
theorem dX11_inCommon_24 : decode cX11_inCommon 24 = .ok (.iload_n 1, 1) := by decide +kernel
theorem dX11_inCommon_25 : decode cX11_inCommon 25 = .ok (.iload_n 2, 1) := by decide +kernel
theorem dX11_inCommon_26 : decode cX11_inCommon 26 = .ok (.iadd, 1) := by decide +kernel
theorem dX11_inCommon_27 : decode cX11_inCommon 27 = .ok (.invokevirtual 108, 3) := by decide +kernel
theorem dX11_inCommon_30 : decode cX11_inCommon 30 = .ok (.ifCond .ne 5, 3) := by decide +kernel
theorem dX11_inCommon_33 : decode cX11_inCommon 33 = .ok (.iconst (-1), 1) := by decide +kernel
theorem dX11_inCommon_34 : decode cX11_inCommon 34 = .ok (.ireturn, 1) := by decide +kernel
theorem dX11_inCommon_35 : decode cX11_inCommon 35 = .ok (.aload_n 0, 1) := by decide +kernel
theorem dX11_inCommon_36 : decode cX11_inCommon 36 = .ok (.getfield 47, 3) := by decide +kernel
theorem dX11_inCommon_39 : decode cX11_inCommon 39 = .ok (.aload_n 0, 1) := by decide +kernel
theorem dX11_inCommon_40 : decode cX11_inCommon 40 = .ok (.getfield 10, 3) := by decide +kernel
theorem dX11_inCommon_43 : decode cX11_inCommon 43 = .ok (.iload_n 1, 1) := by decide +kernel
theorem dX11_inCommon_44 : decode cX11_inCommon 44 = .ok (.iload_n 2, 1) := by decide +kernel
theorem dX11_inCommon_45 : decode cX11_inCommon 45 = .ok (.invokevirtual 225, 3) := by decide +kernel
theorem dX11_inCommon_48 : decode cX11_inCommon 48 = .ok (.istore_n 3, 1) := by decide +kernel
theorem dX11_inCommon_49 : decode cX11_inCommon 49 = .ok (.aload_n 0, 1) := by decide +kernel
theorem dX11_inCommon_50 : decode cX11_inCommon 50 = .ok (.getfield 10, 3) := by decide +kernel
theorem dX11_inCommon_53 : decode cX11_inCommon 53 = .ok (.invokevirtual 115, 3) := by decide +kernel
theorem dX11_inCommon_56 : decode cX11_inCommon 56 = .ok (.iload_n 3, 1) := by decide +kernel
theorem dX11_inCommon_57 : decode cX11_inCommon 57 = .ok (.ireturn, 1) := by decide +kernel
def f_X11_inCommon (S0 : Gr) (S1 : Gr) (S2 : Gr) (x1 : Int32) (x2 : Int32) : Option (Int32 × Gr × Gr) := (f_X11_within x1 1 30).bind fun u1 => if u1 = 0 then (some ((-1), S1, S2)) else ((f_X11_within x2 1 30).bind fun u3 => if u3 = 0 then (some ((-1), S1, S2)) else ((f_X8_has S1 (x1 + x2)).bind fun u5 => if u5 = 0 then (some ((-1), S1, S2)) else ((f_X2_commonBytes S2 S1 x1 x2).bind fun u7 => (f_X8_empty S1).bind fun u8 => some (u7.1, u8, u7.2))))
set_option maxHeartbeats 4000000 in
set_option maxRecDepth 100000 in
theorem c_X11_inCommon (l : Launch) (E : Ec) (q0 q1 q2 : Nat → Nat) (t1 t2 t3 t4 t6 t7 t8 t9 t10 t11 : Nat) (sz : Nat) (S0 : Gr) (S1 : Gr) (S2 : Gr) (x1 : Int32) (x2 : Int32) (Rv : Int32 × Gr × Gr) (h : f_X11_inCommon S0 S1 S2 x1 x2 = some Rv) : Met l yX11_inCommon (wsM (.code yX11_inCommon cX11_inCommon 4 (some .int))) ({ frames := 3, cells := 0, slots := 0, locals := 72 } : Room) (va_Pc [.ref (q0 0), .int x1, .int x2] (ctP E (cw_X11 E q0 (q1 0) t1 t2 t3 t4 (q2 0) t6 t7 t8 t9 t10 t11 S0 ++ (cw_X8 E q1 S1 ++ (cw_X2 E q2 S2))) sz)) (ctI E (cw_X11 E q0 (q1 0) t1 t2 t3 t4 (q2 0) t6 t7 t8 t9 t10 t11 S0 ++ (cw_X8 E q1 S1 ++ (cw_X2 E q2 S2))) (cw_X11 E q0 (q1 0) t1 t2 t3 t4 (q2 0) t6 t7 t8 t9 t10 t11 S0 ++ (cw_X8 E q1 Rv.2.1 ++ (cw_X2 E q2 Rv.2.2))) sz Rv.1) 0 0 (va_A (cw_X11 E q0 (q1 0) t1 t2 t3 t4 (q2 0) t6 t7 t8 t9 t10 t11 S0 ++ (cw_X8 E q1 S1 ++ (cw_X2 E q2 S2))) sz) := by
  refine ct_metI (by decide) (Nat.le_of_ble_eq_true rfl) ?_
  intro p e s m ar below meth c A QM hx hb hml hown hg X hP hD hS RET ls hl
  have hown : s.vm.findClass RX11 = some m.cls := hown
  have hl : lv_has ls 4 [(0, .ref (q0 0)), (1, .int x1), (2, .int x2)] := hl
  have RT : ∀ (v : Int32) (S1 : Gr) (S2 : Gr) (H : Heap) (locs : List Loc) (ls : Array Slot) (pc : Nat), some (v, S1, S2) = some Rv → narrow .int (.int v) = .int v → va_P E.1 vwCl (cw_X11 E q0 (q1 0) t1 t2 t3 t4 (q2 0) t6 t7 t8 t9 t10 t11 S0 ++ (cw_X8 E q1 S1 ++ (cw_X2 E q2 S2))) H → va_D A (cw_X11 E q0 (q1 0) t1 t2 t3 t4 (q2 0) t6 t7 t8 t9 t10 t11 S0 ++ (cw_X8 E q1 S1 ++ (cw_X2 E q2 S2))) → va_S A s.heap H locs → decode cX11_inCommon pc = .ok (.ireturn, 1) → W p l e ({ frames := 3, cells := 0, slots := 0, locals := 72 } : Room) s m ar below meth c H locs 0 0 QM (F0 m pc ls [.int v]) := by
    intro v S1 S2 H locs ls pc e hn hP hD hS d
    obtain rfl := sm_e e
    exact RET H locs pc ls hn hP hD hS d
  clear RET
  obtain ⟨H, eH⟩ : ∃ z, z = s.heap := ⟨_, rfl⟩
  rw [← eH]
  have hP : va_P E.1 vwCl (cw_X11 E q0 (q1 0) t1 t2 t3 t4 (q2 0) t6 t7 t8 t9 t10 t11 S0 ++ (cw_X8 E q1 S1 ++ (cw_X2 E q2 S2))) H := by rw [eH]; exact hP
  have hS : va_S A s.heap H [] := by rw [eH]; exact hS
  clear eH
  obtain ⟨locs, el⟩ : ∃ z : List Loc, z = [] := ⟨_, rfl⟩
  rw [← el] at hS ⊢
  clear el
  refine lv_iload_n hx hb dX11_inCommon_0 rfl (lv_at hl 1 rfl) ?_
  refine lv_iconst (v := 1) hx hb dX11_inCommon_1 (by decide) ?_
  refine lv_bipush (v := 30) hx hb dX11_inCommon_2 (by decide) ?_
  obtain ⟨u1, hc, h⟩ := bd_el h
  refine ct_iN X hP hD hS (va_runS (As := [.int x1, .int 1, .int 30]) (rest := []) ⟨hx, hb, hml, hown, hg⟩ (c_X11_within l E  H.size x1 1 30 u1 hc) (va_cwS 3 hg (gwS wm_X11_89 wst_X11_within wini_X11 wco_X11_within) rfl rfl rfl (by decide +kernel) ⟨Nat.le_of_ble_eq_true rfl, Nat.le_of_ble_eq_true rfl⟩) ⟨ct_blind, ct_preN X hS _⟩ rfl rfl hl.1 rfl (lv_room (Nat.le_of_ble_eq_true rfl)) dX11_inCommon_4 ⟨Nat.zero_le _, Nat.zero_le _⟩) (fun H locs hP hD hS => ?_)
  refine lv_if_eq (tgt := 33) hx hb dX11_inCommon_7 (by decide) (fun c2 => ?_) (fun c2 => ?_)
  · have h := it_t h c2
    refine lv_iconst (v := (-1)) hx hb dX11_inCommon_33 (by decide) ?_
    exact RT (-1) S1 S2 _ _ _ _ h rfl hP hD hS dX11_inCommon_34
  · have h := it_f h c2
    refine lv_iload_n hx hb dX11_inCommon_10 rfl (lv_at hl 2 rfl) ?_
    refine lv_iconst (v := 1) hx hb dX11_inCommon_11 (by decide) ?_
    refine lv_bipush (v := 30) hx hb dX11_inCommon_12 (by decide) ?_
    obtain ⟨u3, hc, h⟩ := bd_el h
    refine ct_iN X hP hD hS (va_runS (As := [.int x2, .int 1, .int 30]) (rest := []) ⟨hx, hb, hml, hown, hg⟩ (c_X11_within l E  H.size x2 1 30 u3 hc) (va_cwS 3 hg (gwS wm_X11_89 wst_X11_within wini_X11 wco_X11_within) rfl rfl rfl (by decide +kernel) ⟨Nat.le_of_ble_eq_true rfl, Nat.le_of_ble_eq_true rfl⟩) ⟨ct_blind, ct_preN X hS _⟩ rfl rfl hl.1 rfl (lv_room (Nat.le_of_ble_eq_true rfl)) dX11_inCommon_14 ⟨Nat.zero_le _, Nat.zero_le _⟩) (fun H locs hP hD hS => ?_)
    refine lv_if_eq (tgt := 33) hx hb dX11_inCommon_17 (by decide) (fun c4 => ?_) (fun c4 => ?_)
    · have h := it_t h c4
      refine lv_iconst (v := (-1)) hx hb dX11_inCommon_33 (by decide) ?_
      exact RT (-1) S1 S2 _ _ _ _ h rfl hP hD hS dX11_inCommon_34
    · have h := it_f h c4
      refine lv_aload_n hx hb dX11_inCommon_20 rfl (lv_at hl 0 rfl) ?_
      refine va_get (D := E.1) (ci := 10) (v := .ref (q1 0)) (C := RX11) (T := TX11) (N := 13) hx hb hg in_X11 hown X.1 hP 0 rfl rfl 0 (by decide) (hg _ wf_X11_10) (fun _ h9 => h9) rfl dX11_inCommon_21 ?_
      refine lv_iload_n hx hb dX11_inCommon_24 rfl (lv_at hl 1 rfl) ?_
      refine lv_iload_n hx hb dX11_inCommon_25 rfl (lv_at hl 2 rfl) ?_
      refine lv_iadd hx hb dX11_inCommon_26 ?_
      obtain ⟨u5, hc, h⟩ := bd_el h
      have hC : ([1, 2] : List Nat).map (fun i => (cw_X11 E q0 (q1 0) t1 t2 t3 t4 (q2 0) t6 t7 t8 t9 t10 t11 S0 ++ (cw_X8 E q1 S1 ++ (cw_X2 E q2 S2)))[i]?) = (cw_X8 E q1 S1).map some := rfl
      refine ct_iR X hP hD hS [1, 2] hC (va_runV (C := RX8) (As := [.int (x1 + x2)]) (rest := []) ⟨hx, hb, hml, hown, hg⟩ (c_X8_has l E q1 H.size S1 (x1 + x2) u5 hc) (cwV 1 hg (gwV wm_X11_108 wi_X8_has wsl_X8_has wini_X8 wco_X8_has) rfl rfl rfl (by decide +kernel) ⟨Nat.le_of_ble_eq_true rfl, Nat.le_of_ble_eq_true rfl⟩) ⟨ct_blind, ct_rv X.1 hP 1 rfl rfl, ct_pre X hP hD hS [1, 2] (by decide) hC _⟩ rfl rfl hl.1 rfl (lv_room (Nat.le_of_ble_eq_true rfl)) dX11_inCommon_27 ⟨Nat.zero_le _, Nat.zero_le _⟩) (fun H locs hP hD hS => ?_)
      clear hC
      refine lv_if_ne (tgt := 35) hx hb dX11_inCommon_30 (by decide) (fun c6 => ?_) (fun c6 => ?_)
      · have h := it_f h c6
        refine lv_aload_n hx hb dX11_inCommon_35 rfl (lv_at hl 0 rfl) ?_
        refine va_get (D := E.1) (ci := 10) (v := .ref (q2 0)) (C := RX11) (T := TX11) (N := 13) hx hb hg in_X11 hown X.1 hP 0 rfl rfl 5 (by decide) (hg _ wf_X11_47) (fun _ h9 => h9) rfl dX11_inCommon_36 ?_
        refine lv_aload_n hx hb dX11_inCommon_39 rfl (lv_at hl 0 rfl) ?_
        refine va_get (D := E.1) (ci := 10) (v := .ref (q1 0)) (C := RX11) (T := TX11) (N := 13) hx hb hg in_X11 hown X.1 hP 0 rfl rfl 0 (by decide) (hg _ wf_X11_10) (fun _ h9 => h9) rfl dX11_inCommon_40 ?_
        refine lv_iload_n hx hb dX11_inCommon_43 rfl (lv_at hl 1 rfl) ?_
        refine lv_iload_n hx hb dX11_inCommon_44 rfl (lv_at hl 2 rfl) ?_
        obtain ⟨u7, hc, h⟩ := bd_el h
        have hC : ([3, 4, 5, 6, 7, 8, 9, 1, 2] : List Nat).map (fun i => (cw_X11 E q0 (q1 0) t1 t2 t3 t4 (q2 0) t6 t7 t8 t9 t10 t11 S0 ++ (cw_X8 E q1 S1 ++ (cw_X2 E q2 S2)))[i]?) = (cw_X2 E q2 S2 ++ (cw_X8 E q1 S1)).map some := rfl
        refine ct_i (ws' := cw_X11 E q0 (q1 0) t1 t2 t3 t4 (q2 0) t6 t7 t8 t9 t10 t11 S0 ++ (cw_X8 E q1 S1 ++ (cw_X2 E q2 u7.2))) X hP hD hS [3, 4, 5, 6, 7, 8, 9, 1, 2] (va_runV (C := RX2) (As := [.ref (q1 0), .int x1, .int x2]) (rest := []) ⟨hx, hb, hml, hown, hg⟩ (c_X2_commonBytes l E q2 q1 H.size S2 S1 x1 x2 u7 hc) (cwV 3 hg (gwV wm_X11_225 wi_X2_commonBytes wsl_X2_commonBytes wini_X2 wco_X2_commonBytes) rfl rfl rfl (by decide +kernel) ⟨Nat.le_of_ble_eq_true rfl, Nat.le_of_ble_eq_true rfl⟩) ⟨ct_blind, ct_rv X.1 hP 3 rfl rfl, ct_pre X hP hD hS [3, 4, 5, 6, 7, 8, 9, 1, 2] (by decide) hC _⟩ rfl rfl hl.1 rfl (lv_room (Nat.le_of_ble_eq_true rfl)) dX11_inCommon_45 ⟨Nat.zero_le _, Nat.zero_le _⟩) hC rfl rfl (fun H locs hP hD hS => ?_)
        clear hC
        refine lv_istore_n (lv' := [(3, .int u7.1), (0, .ref (q0 0)), (1, .int x1), (2, .int x2)]) hx hb dX11_inCommon_48 rfl hl (by decide) rfl (fun ls hl => ?_)
        refine lv_aload_n hx hb dX11_inCommon_49 rfl (lv_at hl 1 rfl) ?_
        refine va_get (D := E.1) (ci := 10) (v := .ref (q1 0)) (C := RX11) (T := TX11) (N := 13) hx hb hg in_X11 hown X.1 hP 0 rfl rfl 0 (by decide) (hg _ wf_X11_10) (fun _ h9 => h9) rfl dX11_inCommon_50 ?_
        obtain ⟨u8, hc, h⟩ := bd_el h
        have hC : ([1, 2] : List Nat).map (fun i => (cw_X11 E q0 (q1 0) t1 t2 t3 t4 (q2 0) t6 t7 t8 t9 t10 t11 S0 ++ (cw_X8 E q1 S1 ++ (cw_X2 E q2 u7.2)))[i]?) = (cw_X8 E q1 S1).map some := rfl
        refine ct_v (ws' := cw_X11 E q0 (q1 0) t1 t2 t3 t4 (q2 0) t6 t7 t8 t9 t10 t11 S0 ++ (cw_X8 E q1 u8 ++ (cw_X2 E q2 u7.2))) X hP hD hS [1, 2] (va_runV (C := RX8) (As := []) (rest := []) ⟨hx, hb, hml, hown, hg⟩ (c_X8_empty l E q1 H.size S1 u8 hc) (cwV 0 hg (gwV wm_X11_115 wi_X8_empty wsl_X8_empty wini_X8 wco_X8_empty) rfl rfl rfl (by decide +kernel) ⟨Nat.le_of_ble_eq_true rfl, Nat.le_of_ble_eq_true rfl⟩) ⟨ct_blind, ct_rv X.1 hP 1 rfl rfl, ct_pre X hP hD hS [1, 2] (by decide) hC _⟩ rfl rfl hl.1 rfl (lv_room (Nat.le_of_ble_eq_true rfl)) dX11_inCommon_53 ⟨Nat.zero_le _, Nat.zero_le _⟩) hC rfl rfl (fun H locs hP hD hS => ?_)
        clear hC
        refine lv_iload_n hx hb dX11_inCommon_56 rfl (lv_at hl 0 rfl) ?_
        exact RT u7.1 u8 u7.2 _ _ _ _ h rfl hP hD hS dX11_inCommon_57
      · have h := it_t h c6
        refine lv_iconst (v := (-1)) hx hb dX11_inCommon_33 (by decide) ?_
        exact RT (-1) S1 S2 _ _ _ _ h rfl hP hD hS dX11_inCommon_34
theorem dX11_keep_0 : decode cX11_keep 0 = .ok (.aload_n 0, 1) := by decide +kernel
theorem dX11_keep_1 : decode cX11_keep 1 = .ok (.getfield 78, 3) := by decide +kernel
theorem dX11_keep_4 : decode cX11_keep 4 = .ok (.aload_n 0, 1) := by decide +kernel
theorem dX11_keep_5 : decode cX11_keep 5 = .ok (.getfield 71, 3) := by decide +kernel
theorem dX11_keep_8 : decode cX11_keep 8 = .ok (.invokevirtual 135, 3) := by decide +kernel
theorem dX11_keep_11 : decode cX11_keep 11 = .ok (.aload_n 0, 1) := by decide +kernel
theorem dX11_keep_12 : decode cX11_keep 12 = .ok (.iconst 1, 1) := by decide +kernel
theorem dX11_keep_13 : decode cX11_keep 13 = .ok (.putfield 81, 3) := by decide +kernel
theorem dX11_keep_16 : decode cX11_keep 16 = .ok (.aload_n 0, 1) := by decide +kernel
theorem dX11_keep_17 : decode cX11_keep 17 = .ok (.getfield 71, 3) := by decide +kernel
theorem dX11_keep_20 : decode cX11_keep 20 = .ok (.getfield 121, 3) := by decide +kernel
theorem dX11_keep_23 : decode cX11_keep 23 = .ok (.ireturn, 1) := by decide +kernel
def f_X11_keep (S0 : Gr) (S1 : Gr) (S2 : Gr) : Option (Int32 × Gr × Gr) := (f_X7_copyFrom S1 S2).bind fun u1 => lt' (sI S0 12 1) fun S0_2 => some ((S2.1 9), S0_2, u1)
set_option maxHeartbeats 4000000 in
set_option maxRecDepth 100000 in
theorem c_X11_keep (l : Launch) (E : Ec) (q0 q1 q2 : Nat → Nat) (t0 t1 t2 t3 t4 t5 t6 t7 t8 t10 : Nat) (sz : Nat) (S0 : Gr) (S1 : Gr) (S2 : Gr) (Rv : Int32 × Gr × Gr) (h : f_X11_keep S0 S1 S2 = some Rv) : Met l yX11_keep (wsM (.code yX11_keep cX11_keep 1 (some .int))) ({ frames := 2, cells := 0, slots := 0, locals := 81 } : Room) (va_Pc [.ref (q0 0)] (ctP E (cw_X11 E q0 t0 t1 t2 t3 t4 t5 t6 t7 t8 (q2 0) t10 (q1 0) S0 ++ (cw_X7 E q1 S1 ++ (cw_X7 E q2 S2))) sz)) (ctI E (cw_X11 E q0 t0 t1 t2 t3 t4 t5 t6 t7 t8 (q2 0) t10 (q1 0) S0 ++ (cw_X7 E q1 S1 ++ (cw_X7 E q2 S2))) (cw_X11 E q0 t0 t1 t2 t3 t4 t5 t6 t7 t8 (q2 0) t10 (q1 0) Rv.2.1 ++ (cw_X7 E q1 Rv.2.2 ++ (cw_X7 E q2 S2))) sz Rv.1) 0 0 (va_A (cw_X11 E q0 t0 t1 t2 t3 t4 t5 t6 t7 t8 (q2 0) t10 (q1 0) S0 ++ (cw_X7 E q1 S1 ++ (cw_X7 E q2 S2))) sz) := by
  refine ct_metI (by decide) (Nat.le_of_ble_eq_true rfl) ?_
  intro p e s m ar below meth c A QM hx hb hml hown hg X hP hD hS RET ls hl
  have hown : s.vm.findClass RX11 = some m.cls := hown
  have hl : lv_has ls 1 [(0, .ref (q0 0))] := hl
  have RT : ∀ (v : Int32) (S0 : Gr) (S1 : Gr) (H : Heap) (locs : List Loc) (ls : Array Slot) (pc : Nat), some (v, S0, S1) = some Rv → narrow .int (.int v) = .int v → va_P E.1 vwCl (cw_X11 E q0 t0 t1 t2 t3 t4 t5 t6 t7 t8 (q2 0) t10 (q1 0) S0 ++ (cw_X7 E q1 S1 ++ (cw_X7 E q2 S2))) H → va_D A (cw_X11 E q0 t0 t1 t2 t3 t4 t5 t6 t7 t8 (q2 0) t10 (q1 0) S0 ++ (cw_X7 E q1 S1 ++ (cw_X7 E q2 S2))) → va_S A s.heap H locs → decode cX11_keep pc = .ok (.ireturn, 1) → W p l e ({ frames := 2, cells := 0, slots := 0, locals := 81 } : Room) s m ar below meth c H locs 0 0 QM (F0 m pc ls [.int v]) := by
    intro v S0 S1 H locs ls pc e hn hP hD hS d
    obtain rfl := sm_e e
    exact RET H locs pc ls hn hP hD hS d
  clear RET
  obtain ⟨H, eH⟩ : ∃ z, z = s.heap := ⟨_, rfl⟩
  rw [← eH]
  have hP : va_P E.1 vwCl (cw_X11 E q0 t0 t1 t2 t3 t4 t5 t6 t7 t8 (q2 0) t10 (q1 0) S0 ++ (cw_X7 E q1 S1 ++ (cw_X7 E q2 S2))) H := by rw [eH]; exact hP
  have hS : va_S A s.heap H [] := by rw [eH]; exact hS
  clear eH
  obtain ⟨locs, el⟩ : ∃ z : List Loc, z = [] := ⟨_, rfl⟩
  rw [← el] at hS ⊢
  clear el
  refine lv_aload_n hx hb dX11_keep_0 rfl (lv_at hl 0 rfl) ?_
  refine va_get (D := E.1) (ci := 10) (v := .ref (q1 0)) (C := RX11) (T := TX11) (N := 13) hx hb hg in_X11 hown X.1 hP 0 rfl rfl 11 (by decide) (hg _ wf_X11_78) (fun _ h9 => h9) rfl dX11_keep_1 ?_
  refine lv_aload_n hx hb dX11_keep_4 rfl (lv_at hl 0 rfl) ?_
  refine va_get (D := E.1) (ci := 10) (v := .ref (q2 0)) (C := RX11) (T := TX11) (N := 13) hx hb hg in_X11 hown X.1 hP 0 rfl rfl 9 (by decide) (hg _ wf_X11_71) (fun _ h9 => h9) rfl dX11_keep_5 ?_
  obtain ⟨u1, hc, h⟩ := bd_el h
  have hC : ([1, 2, 3, 4, 5, 6, 7, 8, 9, 10, 11, 12, 13, 14, 15, 16] : List Nat).map (fun i => (cw_X11 E q0 t0 t1 t2 t3 t4 t5 t6 t7 t8 (q2 0) t10 (q1 0) S0 ++ (cw_X7 E q1 S1 ++ (cw_X7 E q2 S2)))[i]?) = (cw_X7 E q1 S1 ++ (cw_X7 E q2 S2)).map some := rfl
  refine ct_v (ws' := cw_X11 E q0 t0 t1 t2 t3 t4 t5 t6 t7 t8 (q2 0) t10 (q1 0) S0 ++ (cw_X7 E q1 u1 ++ (cw_X7 E q2 S2))) X hP hD hS [1, 2, 3, 4, 5, 6, 7, 8, 9, 10, 11, 12, 13, 14, 15, 16] (va_runV (C := RX7) (As := [.ref (q2 0)]) (rest := []) ⟨hx, hb, hml, hown, hg⟩ (c_X7_copyFrom l E q1 q2 H.size S1 S2 u1 hc) (cwV 1 hg (gwV wm_X11_135 wi_X7_copyFrom wsl_X7_copyFrom wini_X7 wco_X7_copyFrom) rfl rfl rfl (by decide +kernel) ⟨Nat.le_of_ble_eq_true rfl, Nat.le_of_ble_eq_true rfl⟩) ⟨ct_blind, ct_rv X.1 hP 1 rfl rfl, ct_pre X hP hD hS [1, 2, 3, 4, 5, 6, 7, 8, 9, 10, 11, 12, 13, 14, 15, 16] (by decide) hC _⟩ rfl rfl hl.1 rfl (lv_room (Nat.le_of_ble_eq_true rfl)) dX11_keep_8 ⟨Nat.zero_le _, Nat.zero_le _⟩) hC rfl rfl (fun H locs hP hD hS => ?_)
  clear hC
  refine lv_aload_n hx hb dX11_keep_11 rfl (lv_at hl 0 rfl) ?_
  refine lv_iconst (v := 1) hx hb dX11_keep_12 (by decide) ?_
  obtain ⟨S0_2, eS, h⟩ := lt_el h
  refine va_put (D := E.1) (ci := 10) (v := .int 1) (ty := .boolean) (C := RX11) (T := TX11) (N := 13) hx hb hg in_X11 tyX11 tyX11_ok nmX11 hown X.1 hP hD hS 0 rfl rfl 12 (by decide) (hg _ wf_X11_81) (fun _ h9 => h9) rfl (by decide +kernel) (by decide +kernel) (by decide +kernel) (Nat.le_of_ble_eq_true rfl) dX11_keep_13 (fun H locs hP hD hS => ?_)
  have hP : va_P E.1 vwCl (cw_X11 E q0 t0 t1 t2 t3 t4 t5 t6 t7 t8 (q2 0) t10 (q1 0) S0_2 ++ (cw_X7 E q1 u1 ++ (cw_X7 E q2 S2))) H := by rw [eS]; exact hP
  have hD : va_D A (cw_X11 E q0 t0 t1 t2 t3 t4 t5 t6 t7 t8 (q2 0) t10 (q1 0) S0_2 ++ (cw_X7 E q1 u1 ++ (cw_X7 E q2 S2))) := by rw [eS]; exact hD
  clear eS
  refine lv_aload_n hx hb dX11_keep_16 rfl (lv_at hl 0 rfl) ?_
  refine va_get (D := E.1) (ci := 10) (v := .ref (q2 0)) (C := RX11) (T := TX11) (N := 13) hx hb hg in_X11 hown X.1 hP 0 rfl rfl 9 (by decide) (hg _ wf_X11_71) (fun _ h9 => h9) rfl dX11_keep_17 ?_
  refine va_getN (D := E.1) (ci := 6) (v := .int (S2.1 9)) (C := RX7) (T := TX7) (N := 11) hx hb hg in_X7 hown X.1 hP 9 rfl rfl 9 (by decide) (va_Nw.use rfl (nf_X11_121 X.2.1)) (fun _ h9 => h9) rfl dX11_keep_20 ?_
  exact RT (S2.1 9) S0_2 u1 _ _ _ _ h rfl hP hD hS dX11_keep_23
theorem dX11_nearest_0 : decode cX11_nearest 0 = .ok (.iload_n 1, 1) := by decide +kernel
theorem dX11_nearest_1 : decode cX11_nearest 1 = .ok (.iload_n 2, 1) := by decide +kernel
theorem dX11_nearest_2 : decode cX11_nearest 2 = .ok (.invokestatic 208, 3) := by decide +kernel
theorem dX11_nearest_5 : decode cX11_nearest 5 = .ok (.ifCond .ne 5, 3) := by decide +kernel
theorem dX11_nearest_8 : decode cX11_nearest 8 = .ok (.iconst (-1), 1) := by decide +kernel
theorem dX11_nearest_9 : decode cX11_nearest 9 = .ok (.ireturn, 1) := by decide +kernel
theorem dX11_nearest_10 : decode cX11_nearest 10 = .ok (.aload_n 0, 1) := by decide +kernel
theorem dX11_nearest_11 : decode cX11_nearest 11 = .ok (.getfield 40, 3) := by decide +kernel
theorem dX11_nearest_14 : decode cX11_nearest 14 = .ok (.aload_n 0, 1) := by decide +kernel
theorem dX11_nearest_15 : decode cX11_nearest 15 = .ok (.getfield 71, 3) := by decide +kernel
theorem dX11_nearest_18 : decode cX11_nearest 18 = .ok (.iload_n 1, 1) := by decide +kernel
theorem dX11_nearest_19 : decode cX11_nearest 19 = .ok (.iload_n 2, 1) := by decide +kernel
theorem dX11_nearest_20 : decode cX11_nearest 20 = .ok (.invokevirtual 212, 3) := by decide +kernel
theorem dX11_nearest_23 : decode cX11_nearest 23 = .ok (.ireturn, 1) := by decide +kernel
def f_X11_nearest (S0 : Gr) (S1 : Gr) (S2 : Gr) (x1 : Int32) (x2 : Int32) : Option (Int32) := (f_X1_onChart x1 x2).bind fun u1 => if u1 = 0 then (some (-1)) else ((f_X6_webNearTo S1 S2 x1 x2).bind fun u3 => some u3)
set_option maxHeartbeats 4000000 in
set_option maxRecDepth 100000 in
theorem c_X11_nearest (l : Launch) (E : Ec) (q0 q1 q2 : Nat → Nat) (t0 t1 t2 t3 t5 t6 t7 t8 t10 t11 : Nat) (sz : Nat) (S0 : Gr) (S1 : Gr) (S2 : Gr) (x1 : Int32) (x2 : Int32) (Rv : Int32) (h : f_X11_nearest S0 S1 S2 x1 x2 = some Rv) : Met l yX11_nearest (wsM (.code yX11_nearest cX11_nearest 3 (some .int))) ({ frames := 4, cells := 0, slots := 0, locals := 101 } : Room) (va_Pc [.ref (q0 0), .int x1, .int x2] (ctP E (cw_X11 E q0 t0 t1 t2 t3 (q1 0) t5 t6 t7 t8 (q2 0) t10 t11 S0 ++ (cw_X6 E q1 S1 ++ (cw_X7 E q2 S2))) sz)) (ctI E (cw_X11 E q0 t0 t1 t2 t3 (q1 0) t5 t6 t7 t8 (q2 0) t10 t11 S0 ++ (cw_X6 E q1 S1 ++ (cw_X7 E q2 S2))) (cw_X11 E q0 t0 t1 t2 t3 (q1 0) t5 t6 t7 t8 (q2 0) t10 t11 S0 ++ (cw_X6 E q1 S1 ++ (cw_X7 E q2 S2))) sz Rv) 0 0 (va_A (cw_X11 E q0 t0 t1 t2 t3 (q1 0) t5 t6 t7 t8 (q2 0) t10 t11 S0 ++ (cw_X6 E q1 S1 ++ (cw_X7 E q2 S2))) sz) := by
  refine ct_metI (by decide) (Nat.le_of_ble_eq_true rfl) ?_
  intro p e s m ar below meth c A QM hx hb hml hown hg X hP hD hS RET ls hl
  have hown : s.vm.findClass RX11 = some m.cls := hown
  have hl : lv_has ls 3 [(0, .ref (q0 0)), (1, .int x1), (2, .int x2)] := hl
  have RT : ∀ (v : Int32) (H : Heap) (locs : List Loc) (ls : Array Slot) (pc : Nat), some v = some Rv → narrow .int (.int v) = .int v → va_P E.1 vwCl (cw_X11 E q0 t0 t1 t2 t3 (q1 0) t5 t6 t7 t8 (q2 0) t10 t11 S0 ++ (cw_X6 E q1 S1 ++ (cw_X7 E q2 S2))) H → va_D A (cw_X11 E q0 t0 t1 t2 t3 (q1 0) t5 t6 t7 t8 (q2 0) t10 t11 S0 ++ (cw_X6 E q1 S1 ++ (cw_X7 E q2 S2))) → va_S A s.heap H locs → decode cX11_nearest pc = .ok (.ireturn, 1) → W p l e ({ frames := 4, cells := 0, slots := 0, locals := 101 } : Room) s m ar below meth c H locs 0 0 QM (F0 m pc ls [.int v]) := by
    intro v H locs ls pc e hn hP hD hS d
    obtain rfl := sm_e e
    exact RET H locs pc ls hn hP hD hS d
  clear RET
  obtain ⟨H, eH⟩ : ∃ z, z = s.heap := ⟨_, rfl⟩
  rw [← eH]
  have hP : va_P E.1 vwCl (cw_X11 E q0 t0 t1 t2 t3 (q1 0) t5 t6 t7 t8 (q2 0) t10 t11 S0 ++ (cw_X6 E q1 S1 ++ (cw_X7 E q2 S2))) H := by rw [eH]; exact hP
  have hS : va_S A s.heap H [] := by rw [eH]; exact hS
  clear eH
  obtain ⟨locs, el⟩ : ∃ z : List Loc, z = [] := ⟨_, rfl⟩
  rw [← el] at hS ⊢
  clear el
  refine lv_iload_n hx hb dX11_nearest_0 rfl (lv_at hl 1 rfl) ?_
  refine lv_iload_n hx hb dX11_nearest_1 rfl (lv_at hl 2 rfl) ?_
  obtain ⟨u1, hc, h⟩ := bd_el h
  refine ct_iN X hP hD hS (va_runS (As := [.int x1, .int x2]) (rest := []) ⟨hx, hb, hml, hown, hg⟩ (c_X1_onChart l E  H.size x1 x2 u1 hc) (va_cwS 2 hg (gwS wm_X11_208 wst_X1_onChart wini_X1 wco_X1_onChart) rfl rfl rfl (by decide +kernel) ⟨Nat.le_of_ble_eq_true rfl, Nat.le_of_ble_eq_true rfl⟩) ⟨ct_blind, ct_preN X hS _⟩ rfl rfl hl.1 rfl (lv_room (Nat.le_of_ble_eq_true rfl)) dX11_nearest_2 ⟨Nat.zero_le _, Nat.zero_le _⟩) (fun H locs hP hD hS => ?_)
  refine lv_if_ne (tgt := 10) hx hb dX11_nearest_5 (by decide) (fun c2 => ?_) (fun c2 => ?_)
  · have h := it_f h c2
    refine lv_aload_n hx hb dX11_nearest_10 rfl (lv_at hl 0 rfl) ?_
    refine va_get (D := E.1) (ci := 10) (v := .ref (q1 0)) (C := RX11) (T := TX11) (N := 13) hx hb hg in_X11 hown X.1 hP 0 rfl rfl 4 (by decide) (hg _ wf_X11_40) (fun _ h9 => h9) rfl dX11_nearest_11 ?_
    refine lv_aload_n hx hb dX11_nearest_14 rfl (lv_at hl 0 rfl) ?_
    refine va_get (D := E.1) (ci := 10) (v := .ref (q2 0)) (C := RX11) (T := TX11) (N := 13) hx hb hg in_X11 hown X.1 hP 0 rfl rfl 9 (by decide) (hg _ wf_X11_71) (fun _ h9 => h9) rfl dX11_nearest_15 ?_
    refine lv_iload_n hx hb dX11_nearest_18 rfl (lv_at hl 1 rfl) ?_
    refine lv_iload_n hx hb dX11_nearest_19 rfl (lv_at hl 2 rfl) ?_
    obtain ⟨u3, hc, h⟩ := bd_el h
    have hC : ([1, 2, 3, 4, 5, 6, 7, 8, 9, 10, 11] : List Nat).map (fun i => (cw_X11 E q0 t0 t1 t2 t3 (q1 0) t5 t6 t7 t8 (q2 0) t10 t11 S0 ++ (cw_X6 E q1 S1 ++ (cw_X7 E q2 S2)))[i]?) = (cw_X6 E q1 S1 ++ (cw_X7 E q2 S2)).map some := rfl
    refine ct_iR X hP hD hS [1, 2, 3, 4, 5, 6, 7, 8, 9, 10, 11] hC (va_runV (C := RX6) (As := [.ref (q2 0), .int x1, .int x2]) (rest := []) ⟨hx, hb, hml, hown, hg⟩ (c_X6_webNearTo l E q1 q2 H.size S1 S2 x1 x2 u3 hc) (cwV 3 hg (gwV wm_X11_212 wi_X6_webNearTo wsl_X6_webNearTo wini_X6 wco_X6_webNearTo) rfl rfl rfl (by decide +kernel) ⟨Nat.le_of_ble_eq_true rfl, Nat.le_of_ble_eq_true rfl⟩) ⟨ct_blind, ct_rv X.1 hP 1 rfl rfl, ct_pre X hP hD hS [1, 2, 3, 4, 5, 6, 7, 8, 9, 10, 11] (by decide) hC _⟩ rfl rfl hl.1 rfl (lv_room (Nat.le_of_ble_eq_true rfl)) dX11_nearest_20 ⟨Nat.zero_le _, Nat.zero_le _⟩) (fun H locs hP hD hS => ?_)
    clear hC
    exact RT u3 _ _ _ _ h rfl hP hD hS dX11_nearest_23
  · have h := it_t h c2
    refine lv_iconst (v := (-1)) hx hb dX11_nearest_8 (by decide) ?_
    exact RT (-1) _ _ _ _ h rfl hP hD hS dX11_nearest_9
theorem dX11_quiet_0 : decode cX11_quiet 0 = .ok (.iload_n 1, 1) := by decide +kernel
theorem dX11_quiet_1 : decode cX11_quiet 1 = .ok (.iconst 0, 1) := by decide +kernel
theorem dX11_quiet_2 : decode cX11_quiet 2 = .ok (.bipush 23, 2) := by decide +kernel
theorem dX11_quiet_4 : decode cX11_quiet 4 = .ok (.invokestatic 89, 3) := by decide +kernel
theorem dX11_quiet_7 : decode cX11_quiet 7 = .ok (.ifCond .eq 12, 3) := by decide +kernel
theorem dX11_quiet_10 : decode cX11_quiet 10 = .ok (.iload_n 2, 1) := by decide +kernel
theorem dX11_quiet_11 : decode cX11_quiet 11 = .ok (.iconst 0, 1) := by decide +kernel
theorem dX11_quiet_12 : decode cX11_quiet 12 = .ok (.iconst 1, 1) := by decide +kernel
theorem dX11_quiet_13 : decode cX11_quiet 13 = .ok (.invokestatic 89, 3) := by decide +kernel
theorem dX11_quiet_16 : decode cX11_quiet 16 = .ok (.ifCond .ne 5, 3) := by decide +kernel
theorem dX11_quiet_19 : decode cX11_quiet 19 = .ok (.iconst (-1), 1) := by decide +kernel
theorem dX11_quiet_20 : decode cX11_quiet 20 = .ok (.ireturn, 1) := by decide +kernel
theorem dX11_quiet_21 : decode cX11_quiet 21 = .ok (.iload_n 2, 1) := by decide +kernel
theorem dX11_quiet_22 : decode cX11_quiet 22 = .ok (.ifCond .ne 18, 3) := by decide +kernel
theorem dX11_quiet_25 : decode cX11_quiet 25 = .ok (.aload_n 0, 1) := by decide +kernel
theorem dX11_quiet_26 : decode cX11_quiet 26 = .ok (.getfield 40, 3) := by decide +kernel
theorem dX11_quiet_29 : decode cX11_quiet 29 = .ok (.aload_n 0, 1) := by decide +kernel
theorem dX11_quiet_30 : decode cX11_quiet 30 = .ok (.getfield 71, 3) := by decide +kernel
theorem dX11_quiet_33 : decode cX11_quiet 33 = .ok (.iload_n 1, 1) := by decide +kernel
theorem dX11_quiet_34 : decode cX11_quiet 34 = .ok (.invokevirtual 202, 3) := by decide +kernel
theorem dX11_quiet_37 : decode cX11_quiet 37 = .ok (.goto 15, 3) := by decide +kernel
theorem dX11_quiet_40 : decode cX11_quiet 40 = .ok (.aload_n 0, 1) := by decide +kernel
theorem dX11_quiet_41 : decode cX11_quiet 41 = .ok (.getfield 40, 3) := by decide +kernel
theorem dX11_quiet_44 : decode cX11_quiet 44 = .ok (.aload_n 0, 1) := by decide +kernel
theorem dX11_quiet_45 : decode cX11_quiet 45 = .ok (.getfield 71, 3) := by decide +kernel
theorem dX11_quiet_48 : decode cX11_quiet 48 = .ok (.iload_n 1, 1) := by decide +kernel
theorem dX11_quiet_49 : decode cX11_quiet 49 = .ok (.invokevirtual 205, 3) := by decide +kernel
theorem dX11_quiet_52 : decode cX11_quiet 52 = .ok (.ireturn, 1) := by decide +kernel
def f_X11_quiet (S0 : Gr) (S1 : Gr) (S2 : Gr) (x1 : Int32) (x2 : Int32) : Option (Int32) := (f_X11_within x1 0 23).bind fun u1 => if u1 = 0 then (some (-1)) else ((f_X11_within x2 0 1).bind fun u3 => if u3 = 0 then (some (-1)) else (if x2 = 0 then ((f_X6_quietPlaces S1 S2 x1).bind fun u7 => some u7) else ((f_X6_firstQuiet S1 S2 x1).bind fun u6 => some u6)))
set_option maxHeartbeats 4000000 in
set_option maxRecDepth 100000 in
theorem c_X11_quiet (l : Launch) (E : Ec) (q0 q1 q2 : Nat → Nat) (t0 t1 t2 t3 t5 t6 t7 t8 t10 t11 : Nat) (sz : Nat) (S0 : Gr) (S1 : Gr) (S2 : Gr) (x1 : Int32) (x2 : Int32) (Rv : Int32) (h : f_X11_quiet S0 S1 S2 x1 x2 = some Rv) : Met l yX11_quiet (wsM (.code yX11_quiet cX11_quiet 3 (some .int))) ({ frames := 5, cells := 0, slots := 0, locals := 124 } : Room) (va_Pc [.ref (q0 0), .int x1, .int x2] (ctP E (cw_X11 E q0 t0 t1 t2 t3 (q1 0) t5 t6 t7 t8 (q2 0) t10 t11 S0 ++ (cw_X6 E q1 S1 ++ (cw_X7 E q2 S2))) sz)) (ctI E (cw_X11 E q0 t0 t1 t2 t3 (q1 0) t5 t6 t7 t8 (q2 0) t10 t11 S0 ++ (cw_X6 E q1 S1 ++ (cw_X7 E q2 S2))) (cw_X11 E q0 t0 t1 t2 t3 (q1 0) t5 t6 t7 t8 (q2 0) t10 t11 S0 ++ (cw_X6 E q1 S1 ++ (cw_X7 E q2 S2))) sz Rv) 0 0 (va_A (cw_X11 E q0 t0 t1 t2 t3 (q1 0) t5 t6 t7 t8 (q2 0) t10 t11 S0 ++ (cw_X6 E q1 S1 ++ (cw_X7 E q2 S2))) sz) := by
  refine ct_metI (by decide) (Nat.le_of_ble_eq_true rfl) ?_
  intro p e s m ar below meth c A QM hx hb hml hown hg X hP hD hS RET ls hl
  have hown : s.vm.findClass RX11 = some m.cls := hown
  have hl : lv_has ls 3 [(0, .ref (q0 0)), (1, .int x1), (2, .int x2)] := hl
  have RT : ∀ (v : Int32) (H : Heap) (locs : List Loc) (ls : Array Slot) (pc : Nat), some v = some Rv → narrow .int (.int v) = .int v → va_P E.1 vwCl (cw_X11 E q0 t0 t1 t2 t3 (q1 0) t5 t6 t7 t8 (q2 0) t10 t11 S0 ++ (cw_X6 E q1 S1 ++ (cw_X7 E q2 S2))) H → va_D A (cw_X11 E q0 t0 t1 t2 t3 (q1 0) t5 t6 t7 t8 (q2 0) t10 t11 S0 ++ (cw_X6 E q1 S1 ++ (cw_X7 E q2 S2))) → va_S A s.heap H locs → decode cX11_quiet pc = .ok (.ireturn, 1) → W p l e ({ frames := 5, cells := 0, slots := 0, locals := 124 } : Room) s m ar below meth c H locs 0 0 QM (F0 m pc ls [.int v]) := by
    intro v H locs ls pc e hn hP hD hS d
    obtain rfl := sm_e e
    exact RET H locs pc ls hn hP hD hS d
  clear RET
  obtain ⟨H, eH⟩ : ∃ z, z = s.heap := ⟨_, rfl⟩
  rw [← eH]
  have hP : va_P E.1 vwCl (cw_X11 E q0 t0 t1 t2 t3 (q1 0) t5 t6 t7 t8 (q2 0) t10 t11 S0 ++ (cw_X6 E q1 S1 ++ (cw_X7 E q2 S2))) H := by rw [eH]; exact hP
  have hS : va_S A s.heap H [] := by rw [eH]; exact hS
  clear eH
  obtain ⟨locs, el⟩ : ∃ z : List Loc, z = [] := ⟨_, rfl⟩
  rw [← el] at hS ⊢
  clear el
  refine lv_iload_n hx hb dX11_quiet_0 rfl (lv_at hl 1 rfl) ?_
  refine lv_iconst (v := 0) hx hb dX11_quiet_1 (by decide) ?_
  refine lv_bipush (v := 23) hx hb dX11_quiet_2 (by decide) ?_
  obtain ⟨u1, hc, h⟩ := bd_el h
  refine ct_iN X hP hD hS (va_runS (As := [.int x1, .int 0, .int 23]) (rest := []) ⟨hx, hb, hml, hown, hg⟩ (c_X11_within l E  H.size x1 0 23 u1 hc) (va_cwS 3 hg (gwS wm_X11_89 wst_X11_within wini_X11 wco_X11_within) rfl rfl rfl (by decide +kernel) ⟨Nat.le_of_ble_eq_true rfl, Nat.le_of_ble_eq_true rfl⟩) ⟨ct_blind, ct_preN X hS _⟩ rfl rfl hl.1 rfl (lv_room (Nat.le_of_ble_eq_true rfl)) dX11_quiet_4 ⟨Nat.zero_le _, Nat.zero_le _⟩) (fun H locs hP hD hS => ?_)
  refine lv_if_eq (tgt := 19) hx hb dX11_quiet_7 (by decide) (fun c2 => ?_) (fun c2 => ?_)
  · have h := it_t h c2
    refine lv_iconst (v := (-1)) hx hb dX11_quiet_19 (by decide) ?_
    exact RT (-1) _ _ _ _ h rfl hP hD hS dX11_quiet_20
  · have h := it_f h c2
    refine lv_iload_n hx hb dX11_quiet_10 rfl (lv_at hl 2 rfl) ?_
    refine lv_iconst (v := 0) hx hb dX11_quiet_11 (by decide) ?_
    refine lv_iconst (v := 1) hx hb dX11_quiet_12 (by decide) ?_
    obtain ⟨u3, hc, h⟩ := bd_el h
    refine ct_iN X hP hD hS (va_runS (As := [.int x2, .int 0, .int 1]) (rest := []) ⟨hx, hb, hml, hown, hg⟩ (c_X11_within l E  H.size x2 0 1 u3 hc) (va_cwS 3 hg (gwS wm_X11_89 wst_X11_within wini_X11 wco_X11_within) rfl rfl rfl (by decide +kernel) ⟨Nat.le_of_ble_eq_true rfl, Nat.le_of_ble_eq_true rfl⟩) ⟨ct_blind, ct_preN X hS _⟩ rfl rfl hl.1 rfl (lv_room (Nat.le_of_ble_eq_true rfl)) dX11_quiet_13 ⟨Nat.zero_le _, Nat.zero_le _⟩) (fun H locs hP hD hS => ?_)
    refine lv_if_ne (tgt := 21) hx hb dX11_quiet_16 (by decide) (fun c4 => ?_) (fun c4 => ?_)
    · have h := it_f h c4
      refine lv_iload_n hx hb dX11_quiet_21 rfl (lv_at hl 2 rfl) ?_
      refine lv_if_ne (tgt := 40) hx hb dX11_quiet_22 (by decide) (fun c5 => ?_) (fun c5 => ?_)
      · have h := it_f h c5
        refine lv_aload_n hx hb dX11_quiet_40 rfl (lv_at hl 0 rfl) ?_
        refine va_get (D := E.1) (ci := 10) (v := .ref (q1 0)) (C := RX11) (T := TX11) (N := 13) hx hb hg in_X11 hown X.1 hP 0 rfl rfl 4 (by decide) (hg _ wf_X11_40) (fun _ h9 => h9) rfl dX11_quiet_41 ?_
        refine lv_aload_n hx hb dX11_quiet_44 rfl (lv_at hl 0 rfl) ?_
        refine va_get (D := E.1) (ci := 10) (v := .ref (q2 0)) (C := RX11) (T := TX11) (N := 13) hx hb hg in_X11 hown X.1 hP 0 rfl rfl 9 (by decide) (hg _ wf_X11_71) (fun _ h9 => h9) rfl dX11_quiet_45 ?_
        refine lv_iload_n hx hb dX11_quiet_48 rfl (lv_at hl 1 rfl) ?_
        obtain ⟨u6, hc, h⟩ := bd_el h
        have hC : ([1, 2, 3, 4, 5, 6, 7, 8, 9, 10, 11] : List Nat).map (fun i => (cw_X11 E q0 t0 t1 t2 t3 (q1 0) t5 t6 t7 t8 (q2 0) t10 t11 S0 ++ (cw_X6 E q1 S1 ++ (cw_X7 E q2 S2)))[i]?) = (cw_X6 E q1 S1 ++ (cw_X7 E q2 S2)).map some := rfl
        refine ct_iR X hP hD hS [1, 2, 3, 4, 5, 6, 7, 8, 9, 10, 11] hC (va_runV (C := RX6) (As := [.ref (q2 0), .int x1]) (rest := []) ⟨hx, hb, hml, hown, hg⟩ (c_X6_firstQuiet l E q1 q2 H.size S1 S2 x1 u6 hc) (cwV 2 hg (gwV wm_X11_205 wi_X6_firstQuiet wsl_X6_firstQuiet wini_X6 wco_X6_firstQuiet) rfl rfl rfl (by decide +kernel) ⟨Nat.le_of_ble_eq_true rfl, Nat.le_of_ble_eq_true rfl⟩) ⟨ct_blind, ct_rv X.1 hP 1 rfl rfl, ct_pre X hP hD hS [1, 2, 3, 4, 5, 6, 7, 8, 9, 10, 11] (by decide) hC _⟩ rfl rfl hl.1 rfl (lv_room (Nat.le_of_ble_eq_true rfl)) dX11_quiet_49 ⟨Nat.zero_le _, Nat.zero_le _⟩) (fun H locs hP hD hS => ?_)
        clear hC
        exact RT u6 _ _ _ _ h rfl hP hD hS dX11_quiet_52
      · have h := it_t h c5
        refine lv_aload_n hx hb dX11_quiet_25 rfl (lv_at hl 0 rfl) ?_
        refine va_get (D := E.1) (ci := 10) (v := .ref (q1 0)) (C := RX11) (T := TX11) (N := 13) hx hb hg in_X11 hown X.1 hP 0 rfl rfl 4 (by decide) (hg _ wf_X11_40) (fun _ h9 => h9) rfl dX11_quiet_26 ?_
        refine lv_aload_n hx hb dX11_quiet_29 rfl (lv_at hl 0 rfl) ?_
        refine va_get (D := E.1) (ci := 10) (v := .ref (q2 0)) (C := RX11) (T := TX11) (N := 13) hx hb hg in_X11 hown X.1 hP 0 rfl rfl 9 (by decide) (hg _ wf_X11_71) (fun _ h9 => h9) rfl dX11_quiet_30 ?_
        refine lv_iload_n hx hb dX11_quiet_33 rfl (lv_at hl 1 rfl) ?_
        obtain ⟨u7, hc, h⟩ := bd_el h
        have hC : ([1, 2, 3, 4, 5, 6, 7, 8, 9, 10, 11] : List Nat).map (fun i => (cw_X11 E q0 t0 t1 t2 t3 (q1 0) t5 t6 t7 t8 (q2 0) t10 t11 S0 ++ (cw_X6 E q1 S1 ++ (cw_X7 E q2 S2)))[i]?) = (cw_X6 E q1 S1 ++ (cw_X7 E q2 S2)).map some := rfl
        refine ct_iR X hP hD hS [1, 2, 3, 4, 5, 6, 7, 8, 9, 10, 11] hC (va_runV (C := RX6) (As := [.ref (q2 0), .int x1]) (rest := []) ⟨hx, hb, hml, hown, hg⟩ (c_X6_quietPlaces l E q1 q2 H.size S1 S2 x1 u7 hc) (cwV 2 hg (gwV wm_X11_202 wi_X6_quietPlaces wsl_X6_quietPlaces wini_X6 wco_X6_quietPlaces) rfl rfl rfl (by decide +kernel) ⟨Nat.le_of_ble_eq_true rfl, Nat.le_of_ble_eq_true rfl⟩) ⟨ct_blind, ct_rv X.1 hP 1 rfl rfl, ct_pre X hP hD hS [1, 2, 3, 4, 5, 6, 7, 8, 9, 10, 11] (by decide) hC _⟩ rfl rfl hl.1 rfl (lv_room (Nat.le_of_ble_eq_true rfl)) dX11_quiet_34 ⟨Nat.zero_le _, Nat.zero_le _⟩) (fun H locs hP hD hS => ?_)
        clear hC
        refine lv_goto (tgt := 52) hx hb dX11_quiet_37 (by decide) ?_
        exact RT u7 _ _ _ _ h rfl hP hD hS dX11_quiet_52
    · have h := it_t h c4
      refine lv_iconst (v := (-1)) hx hb dX11_quiet_19 (by decide) ?_
      exact RT (-1) _ _ _ _ h rfl hP hD hS dX11_quiet_20
theorem dX11_rent_0 : decode cX11_rent 0 = .ok (.iload_n 1, 1) := by decide +kernel
theorem dX11_rent_1 : decode cX11_rent 1 = .ok (.iconst 2, 1) := by decide +kernel
theorem dX11_rent_2 : decode cX11_rent 2 = .ok (.bipush 12, 2) := by decide +kernel
theorem dX11_rent_4 : decode cX11_rent 4 = .ok (.invokestatic 89, 3) := by decide +kernel
theorem dX11_rent_7 : decode cX11_rent 7 = .ok (.ifCond .eq 23, 3) := by decide +kernel
theorem dX11_rent_10 : decode cX11_rent 10 = .ok (.iload_n 2, 1) := by decide +kernel
theorem dX11_rent_11 : decode cX11_rent 11 = .ok (.iconst 0, 1) := by decide +kernel
theorem dX11_rent_12 : decode cX11_rent 12 = .ok (.iconst 1, 1) := by decide +kernel
theorem dX11_rent_13 : decode cX11_rent 13 = .ok (.invokestatic 89, 3) := by decide +kernel
theorem dX11_rent_16 : decode cX11_rent 16 = .ok (.ifCond .eq 14, 3) := by decide +kernel
theorem dX11_rent_19 : decode cX11_rent 19 = .ok (.aload_n 0, 1) := by decide +kernel
theorem dX11_rent_20 : decode cX11_rent 20 = .ok (.getfield 10, 3) := by decide +kernel
theorem dX11_rent_23 : decode cX11_rent 23 = .ok (.iload_n 1, 1) := by decide +kernel
theorem dX11_rent_24 : decode cX11_rent 24 = .ok (.invokevirtual 108, 3) := by decide +kernel
theorem dX11_rent_27 : decode cX11_rent 27 = .ok (.ifCond .ne 5, 3) := by decide +kernel
theorem dX11_rent_30 : decode cX11_rent 30 = .ok (.iconst (-1), 1) := by decide +kernel
theorem dX11_rent_31 : decode cX11_rent 31 = .ok (.ireturn, 1) := by decide +kernel
theorem dX11_rent_32 : decode cX11_rent 32 = .ok (.aload_n 0, 1) := by decide +kernel
theorem dX11_rent_33 : decode cX11_rent 33 = .ok (.getfield 47, 3) := by decide +kernel
theorem dX11_rent_36 : decode cX11_rent 36 = .ok (.aload_n 0, 1) := by decide +kernel
theorem dX11_rent_37 : decode cX11_rent 37 = .ok (.getfield 10, 3) := by decide +kernel
theorem dX11_rent_40 : decode cX11_rent 40 = .ok (.iload_n 1, 1) := by decide +kernel
theorem dX11_rent_41 : decode cX11_rent 41 = .ok (.iload_n 2, 1) := by decide +kernel
theorem dX11_rent_42 : decode cX11_rent 42 = .ok (.invokevirtual 250, 3) := by decide +kernel
theorem dX11_rent_45 : decode cX11_rent 45 = .ok (.istore_n 3, 1) := by decide +kernel
theorem dX11_rent_46 : decode cX11_rent 46 = .ok (.aload_n 0, 1) := by decide +kernel
theorem dX11_rent_47 : decode cX11_rent 47 = .ok (.getfield 10, 3) := by decide +kernel
theorem dX11_rent_50 : decode cX11_rent 50 = .ok (.invokevirtual 115, 3) := by decide +kernel
theorem dX11_rent_53 : decode cX11_rent 53 = .ok (.iload_n 3, 1) := by decide +kernel
theorem dX11_rent_54 : decode cX11_rent 54 = .ok (.ireturn, 1) := by decide +kernel
def f_X11_rent (S0 : Gr) (S1 : Gr) (S2 : Gr) (x1 : Int32) (x2 : Int32) : Option (Int32 × Gr) := (f_X11_within x1 2 12).bind fun u1 => if u1 = 0 then (some ((-1), S1)) else ((f_X11_within x2 0 1).bind fun u3 => if u3 = 0 then (some ((-1), S1)) else ((f_X8_has S1 x1).bind fun u5 => if u5 = 0 then (some ((-1), S1)) else ((f_X2_highestOffer S2 S1 x1 x2).bind fun u7 => (f_X8_empty S1).bind fun u8 => some (u7, u8))))
set_option maxHeartbeats 4000000 in
set_option maxRecDepth 100000 in
theorem c_X11_rent (l : Launch) (E : Ec) (q0 q1 q2 : Nat → Nat) (t1 t2 t3 t4 t6 t7 t8 t9 t10 t11 : Nat) (sz : Nat) (S0 : Gr) (S1 : Gr) (S2 : Gr) (x1 : Int32) (x2 : Int32) (Rv : Int32 × Gr) (h : f_X11_rent S0 S1 S2 x1 x2 = some Rv) : Met l yX11_rent (wsM (.code yX11_rent cX11_rent 4 (some .int))) ({ frames := 3, cells := 0, slots := 0, locals := 69 } : Room) (va_Pc [.ref (q0 0), .int x1, .int x2] (ctP E (cw_X11 E q0 (q1 0) t1 t2 t3 t4 (q2 0) t6 t7 t8 t9 t10 t11 S0 ++ (cw_X8 E q1 S1 ++ (cw_X2 E q2 S2))) sz)) (ctI E (cw_X11 E q0 (q1 0) t1 t2 t3 t4 (q2 0) t6 t7 t8 t9 t10 t11 S0 ++ (cw_X8 E q1 S1 ++ (cw_X2 E q2 S2))) (cw_X11 E q0 (q1 0) t1 t2 t3 t4 (q2 0) t6 t7 t8 t9 t10 t11 S0 ++ (cw_X8 E q1 Rv.2 ++ (cw_X2 E q2 S2))) sz Rv.1) 0 0 (va_A (cw_X11 E q0 (q1 0) t1 t2 t3 t4 (q2 0) t6 t7 t8 t9 t10 t11 S0 ++ (cw_X8 E q1 S1 ++ (cw_X2 E q2 S2))) sz) := by
  refine ct_metI (by decide) (Nat.le_of_ble_eq_true rfl) ?_
  intro p e s m ar below meth c A QM hx hb hml hown hg X hP hD hS RET ls hl
  have hown : s.vm.findClass RX11 = some m.cls := hown
  have hl : lv_has ls 4 [(0, .ref (q0 0)), (1, .int x1), (2, .int x2)] := hl
  have RT : ∀ (v : Int32) (S1 : Gr) (H : Heap) (locs : List Loc) (ls : Array Slot) (pc : Nat), some (v, S1) = some Rv → narrow .int (.int v) = .int v → va_P E.1 vwCl (cw_X11 E q0 (q1 0) t1 t2 t3 t4 (q2 0) t6 t7 t8 t9 t10 t11 S0 ++ (cw_X8 E q1 S1 ++ (cw_X2 E q2 S2))) H → va_D A (cw_X11 E q0 (q1 0) t1 t2 t3 t4 (q2 0) t6 t7 t8 t9 t10 t11 S0 ++ (cw_X8 E q1 S1 ++ (cw_X2 E q2 S2))) → va_S A s.heap H locs → decode cX11_rent pc = .ok (.ireturn, 1) → W p l e ({ frames := 3, cells := 0, slots := 0, locals := 69 } : Room) s m ar below meth c H locs 0 0 QM (F0 m pc ls [.int v]) := by
    intro v S1 H locs ls pc e hn hP hD hS d
    obtain rfl := sm_e e
    exact RET H locs pc ls hn hP hD hS d
  clear RET
  obtain ⟨H, eH⟩ : ∃ z, z = s.heap := ⟨_, rfl⟩
  rw [← eH]
  have hP : va_P E.1 vwCl (cw_X11 E q0 (q1 0) t1 t2 t3 t4 (q2 0) t6 t7 t8 t9 t10 t11 S0 ++ (cw_X8 E q1 S1 ++ (cw_X2 E q2 S2))) H := by rw [eH]; exact hP
  have hS : va_S A s.heap H [] := by rw [eH]; exact hS
  clear eH
  obtain ⟨locs, el⟩ : ∃ z : List Loc, z = [] := ⟨_, rfl⟩
  rw [← el] at hS ⊢
  clear el
  refine lv_iload_n hx hb dX11_rent_0 rfl (lv_at hl 1 rfl) ?_
  refine lv_iconst (v := 2) hx hb dX11_rent_1 (by decide) ?_
  refine lv_bipush (v := 12) hx hb dX11_rent_2 (by decide) ?_
  obtain ⟨u1, hc, h⟩ := bd_el h
  refine ct_iN X hP hD hS (va_runS (As := [.int x1, .int 2, .int 12]) (rest := []) ⟨hx, hb, hml, hown, hg⟩ (c_X11_within l E  H.size x1 2 12 u1 hc) (va_cwS 3 hg (gwS wm_X11_89 wst_X11_within wini_X11 wco_X11_within) rfl rfl rfl (by decide +kernel) ⟨Nat.le_of_ble_eq_true rfl, Nat.le_of_ble_eq_true rfl⟩) ⟨ct_blind, ct_preN X hS _⟩ rfl rfl hl.1 rfl (lv_room (Nat.le_of_ble_eq_true rfl)) dX11_rent_4 ⟨Nat.zero_le _, Nat.zero_le _⟩) (fun H locs hP hD hS => ?_)
  refine lv_if_eq (tgt := 30) hx hb dX11_rent_7 (by decide) (fun c2 => ?_) (fun c2 => ?_)
  · have h := it_t h c2
    refine lv_iconst (v := (-1)) hx hb dX11_rent_30 (by decide) ?_
    exact RT (-1) S1 _ _ _ _ h rfl hP hD hS dX11_rent_31
  · have h := it_f h c2
    refine lv_iload_n hx hb dX11_rent_10 rfl (lv_at hl 2 rfl) ?_
    refine lv_iconst (v := 0) hx hb dX11_rent_11 (by decide) ?_
    refine lv_iconst (v := 1) hx hb dX11_rent_12 (by decide) ?_
    obtain ⟨u3, hc, h⟩ := bd_el h
    refine ct_iN X hP hD hS (va_runS (As := [.int x2, .int 0, .int 1]) (rest := []) ⟨hx, hb, hml, hown, hg⟩ (c_X11_within l E  H.size x2 0 1 u3 hc) (va_cwS 3 hg (gwS wm_X11_89 wst_X11_within wini_X11 wco_X11_within) rfl rfl rfl (by decide +kernel) ⟨Nat.le_of_ble_eq_true rfl, Nat.le_of_ble_eq_true rfl⟩) ⟨ct_blind, ct_preN X hS _⟩ rfl rfl hl.1 rfl (lv_room (Nat.le_of_ble_eq_true rfl)) dX11_rent_13 ⟨Nat.zero_le _, Nat.zero_le _⟩) (fun H locs hP hD hS => ?_)
    refine lv_if_eq (tgt := 30) hx hb dX11_rent_16 (by decide) (fun c4 => ?_) (fun c4 => ?_)
    · have h := it_t h c4
      refine lv_iconst (v := (-1)) hx hb dX11_rent_30 (by decide) ?_
      exact RT (-1) S1 _ _ _ _ h rfl hP hD hS dX11_rent_31
    · have h := it_f h c4
      refine lv_aload_n hx hb dX11_rent_19 rfl (lv_at hl 0 rfl) ?_
      refine va_get (D := E.1) (ci := 10) (v := .ref (q1 0)) (C := RX11) (T := TX11) (N := 13) hx hb hg in_X11 hown X.1 hP 0 rfl rfl 0 (by decide) (hg _ wf_X11_10) (fun _ h9 => h9) rfl dX11_rent_20 ?_
      refine lv_iload_n hx hb dX11_rent_23 rfl (lv_at hl 1 rfl) ?_
      obtain ⟨u5, hc, h⟩ := bd_el h
      have hC : ([1, 2] : List Nat).map (fun i => (cw_X11 E q0 (q1 0) t1 t2 t3 t4 (q2 0) t6 t7 t8 t9 t10 t11 S0 ++ (cw_X8 E q1 S1 ++ (cw_X2 E q2 S2)))[i]?) = (cw_X8 E q1 S1).map some := rfl
      refine ct_iR X hP hD hS [1, 2] hC (va_runV (C := RX8) (As := [.int x1]) (rest := []) ⟨hx, hb, hml, hown, hg⟩ (c_X8_has l E q1 H.size S1 x1 u5 hc) (cwV 1 hg (gwV wm_X11_108 wi_X8_has wsl_X8_has wini_X8 wco_X8_has) rfl rfl rfl (by decide +kernel) ⟨Nat.le_of_ble_eq_true rfl, Nat.le_of_ble_eq_true rfl⟩) ⟨ct_blind, ct_rv X.1 hP 1 rfl rfl, ct_pre X hP hD hS [1, 2] (by decide) hC _⟩ rfl rfl hl.1 rfl (lv_room (Nat.le_of_ble_eq_true rfl)) dX11_rent_24 ⟨Nat.zero_le _, Nat.zero_le _⟩) (fun H locs hP hD hS => ?_)
      clear hC
      refine lv_if_ne (tgt := 32) hx hb dX11_rent_27 (by decide) (fun c6 => ?_) (fun c6 => ?_)
      · have h := it_f h c6
        refine lv_aload_n hx hb dX11_rent_32 rfl (lv_at hl 0 rfl) ?_
        refine va_get (D := E.1) (ci := 10) (v := .ref (q2 0)) (C := RX11) (T := TX11) (N := 13) hx hb hg in_X11 hown X.1 hP 0 rfl rfl 5 (by decide) (hg _ wf_X11_47) (fun _ h9 => h9) rfl dX11_rent_33 ?_
        refine lv_aload_n hx hb dX11_rent_36 rfl (lv_at hl 0 rfl) ?_
        refine va_get (D := E.1) (ci := 10) (v := .ref (q1 0)) (C := RX11) (T := TX11) (N := 13) hx hb hg in_X11 hown X.1 hP 0 rfl rfl 0 (by decide) (hg _ wf_X11_10) (fun _ h9 => h9) rfl dX11_rent_37 ?_
        refine lv_iload_n hx hb dX11_rent_40 rfl (lv_at hl 1 rfl) ?_
        refine lv_iload_n hx hb dX11_rent_41 rfl (lv_at hl 2 rfl) ?_
        obtain ⟨u7, hc, h⟩ := bd_el h
        have hC : ([3, 4, 5, 6, 7, 8, 9, 1, 2] : List Nat).map (fun i => (cw_X11 E q0 (q1 0) t1 t2 t3 t4 (q2 0) t6 t7 t8 t9 t10 t11 S0 ++ (cw_X8 E q1 S1 ++ (cw_X2 E q2 S2)))[i]?) = (cw_X2 E q2 S2 ++ (cw_X8 E q1 S1)).map some := rfl
        refine ct_iR X hP hD hS [3, 4, 5, 6, 7, 8, 9, 1, 2] hC (va_runV (C := RX2) (As := [.ref (q1 0), .int x1, .int x2]) (rest := []) ⟨hx, hb, hml, hown, hg⟩ (c_X2_highestOffer l E q2 q1 H.size S2 S1 x1 x2 u7 hc) (cwV 3 hg (gwV wm_X11_250 wi_X2_highestOffer wsl_X2_highestOffer wini_X2 wco_X2_highestOffer) rfl rfl rfl (by decide +kernel) ⟨Nat.le_of_ble_eq_true rfl, Nat.le_of_ble_eq_true rfl⟩) ⟨ct_blind, ct_rv X.1 hP 3 rfl rfl, ct_pre X hP hD hS [3, 4, 5, 6, 7, 8, 9, 1, 2] (by decide) hC _⟩ rfl rfl hl.1 rfl (lv_room (Nat.le_of_ble_eq_true rfl)) dX11_rent_42 ⟨Nat.zero_le _, Nat.zero_le _⟩) (fun H locs hP hD hS => ?_)
        clear hC
        refine lv_istore_n (lv' := [(3, .int u7), (0, .ref (q0 0)), (1, .int x1), (2, .int x2)]) hx hb dX11_rent_45 rfl hl (by decide) rfl (fun ls hl => ?_)
        refine lv_aload_n hx hb dX11_rent_46 rfl (lv_at hl 1 rfl) ?_
        refine va_get (D := E.1) (ci := 10) (v := .ref (q1 0)) (C := RX11) (T := TX11) (N := 13) hx hb hg in_X11 hown X.1 hP 0 rfl rfl 0 (by decide) (hg _ wf_X11_10) (fun _ h9 => h9) rfl dX11_rent_47 ?_
        obtain ⟨u8, hc, h⟩ := bd_el h
        have hC : ([1, 2] : List Nat).map (fun i => (cw_X11 E q0 (q1 0) t1 t2 t3 t4 (q2 0) t6 t7 t8 t9 t10 t11 S0 ++ (cw_X8 E q1 S1 ++ (cw_X2 E q2 S2)))[i]?) = (cw_X8 E q1 S1).map some := rfl
        refine ct_v (ws' := cw_X11 E q0 (q1 0) t1 t2 t3 t4 (q2 0) t6 t7 t8 t9 t10 t11 S0 ++ (cw_X8 E q1 u8 ++ (cw_X2 E q2 S2))) X hP hD hS [1, 2] (va_runV (C := RX8) (As := []) (rest := []) ⟨hx, hb, hml, hown, hg⟩ (c_X8_empty l E q1 H.size S1 u8 hc) (cwV 0 hg (gwV wm_X11_115 wi_X8_empty wsl_X8_empty wini_X8 wco_X8_empty) rfl rfl rfl (by decide +kernel) ⟨Nat.le_of_ble_eq_true rfl, Nat.le_of_ble_eq_true rfl⟩) ⟨ct_blind, ct_rv X.1 hP 1 rfl rfl, ct_pre X hP hD hS [1, 2] (by decide) hC _⟩ rfl rfl hl.1 rfl (lv_room (Nat.le_of_ble_eq_true rfl)) dX11_rent_50 ⟨Nat.zero_le _, Nat.zero_le _⟩) hC rfl rfl (fun H locs hP hD hS => ?_)
        clear hC
        refine lv_iload_n hx hb dX11_rent_53 rfl (lv_at hl 0 rfl) ?_
        exact RT u7 u8 _ _ _ _ h rfl hP hD hS dX11_rent_54
      · have h := it_t h c6
        refine lv_iconst (v := (-1)) hx hb dX11_rent_30 (by decide) ?_
        exact RT (-1) S1 _ _ _ _ h rfl hP hD hS dX11_rent_31
theorem dX11_salutes_0 : decode cX11_salutes 0 = .ok (.iload_n 1, 1) := by decide +kernel
theorem dX11_salutes_1 : decode cX11_salutes 1 = .ok (.iconst 1, 1) := by decide +kernel
theorem dX11_salutes_2 : decode cX11_salutes 2 = .ok (.bipush 12, 2) := by decide +kernel
theorem dX11_salutes_4 : decode cX11_salutes 4 = .ok (.invokestatic 89, 3) := by decide +kernel
theorem dX11_salutes_7 : decode cX11_salutes 7 = .ok (.ifCond .eq 16, 3) := by decide +kernel
theorem dX11_salutes_10 : decode cX11_salutes 10 = .ok (.aload_n 0, 1) := by decide +kernel
theorem dX11_salutes_11 : decode cX11_salutes 11 = .ok (.getfield 10, 3) := by decide +kernel
theorem dX11_salutes_14 : decode cX11_salutes 14 = .ok (.iconst 2, 1) := by decide +kernel
theorem dX11_salutes_15 : decode cX11_salutes 15 = .ok (.iload_n 1, 1) := by decide +kernel
theorem dX11_salutes_16 : decode cX11_salutes 16 = .ok (.imul, 1) := by decide +kernel
theorem dX11_salutes_17 : decode cX11_salutes 17 = .ok (.invokevirtual 108, 3) := by decide +kernel
theorem dX11_salutes_20 : decode cX11_salutes 20 = .ok (.ifCond .ne 5, 3) := by decide +kernel
theorem dX11_salutes_23 : decode cX11_salutes 23 = .ok (.iconst (-1), 1) := by decide +kernel
theorem dX11_salutes_24 : decode cX11_salutes 24 = .ok (.ireturn, 1) := by decide +kernel
theorem dX11_salutes_25 : decode cX11_salutes 25 = .ok (.aload_n 0, 1) := by decide +kernel
theorem dX11_salutes_26 : decode cX11_salutes 26 = .ok (.getfield 47, 3) := by decide +kernel
theorem dX11_salutes_29 : decode cX11_salutes 29 = .ok (.aload_n 0, 1) := by decide +kernel
theorem dX11_salutes_30 : decode cX11_salutes 30 = .ok (.getfield 10, 3) := by decide +kernel
theorem dX11_salutes_33 : decode cX11_salutes 33 = .ok (.iload_n 1, 1) := by decide +kernel
theorem dX11_salutes_34 : decode cX11_salutes 34 = .ok (.invokevirtual 247, 3) := by decide +kernel
theorem dX11_salutes_37 : decode cX11_salutes 37 = .ok (.istore_n 2, 1) := by decide +kernel
theorem dX11_salutes_38 : decode cX11_salutes 38 = .ok (.aload_n 0, 1) := by decide +kernel
theorem dX11_salutes_39 : decode cX11_salutes 39 = .ok (.getfield 10, 3) := by decide +kernel
theorem dX11_salutes_42 : decode cX11_salutes 42 = .ok (.invokevirtual 115, 3) := by decide +kernel
theorem dX11_salutes_45 : decode cX11_salutes 45 = .ok (.iload_n 2, 1) := by decide +kernel
theorem dX11_salutes_46 : decode cX11_salutes 46 = .ok (.ireturn, 1) := by decide +kernel
def f_X11_salutes (S0 : Gr) (S1 : Gr) (S2 : Gr) (x1 : Int32) : Option (Int32 × Gr) := (f_X11_within x1 1 12).bind fun u1 => if u1 = 0 then (some ((-1), S1)) else ((f_X8_has S1 (2 * x1)).bind fun u3 => if u3 = 0 then (some ((-1), S1)) else ((f_X2_mostSalutes S2 S1 x1).bind fun u5 => (f_X8_empty S1).bind fun u6 => some (u5, u6)))
set_option maxHeartbeats 4000000 in
set_option maxRecDepth 100000 in
theorem c_X11_salutes (l : Launch) (E : Ec) (q0 q1 q2 : Nat → Nat) (t1 t2 t3 t4 t6 t7 t8 t9 t10 t11 : Nat) (sz : Nat) (S0 : Gr) (S1 : Gr) (S2 : Gr) (x1 : Int32) (Rv : Int32 × Gr) (h : f_X11_salutes S0 S1 S2 x1 = some Rv) : Met l yX11_salutes (wsM (.code yX11_salutes cX11_salutes 3 (some .int))) ({ frames := 4, cells := 0, slots := 0, locals := 95 } : Room) (va_Pc [.ref (q0 0), .int x1] (ctP E (cw_X11 E q0 (q1 0) t1 t2 t3 t4 (q2 0) t6 t7 t8 t9 t10 t11 S0 ++ (cw_X8 E q1 S1 ++ (cw_X2 E q2 S2))) sz)) (ctI E (cw_X11 E q0 (q1 0) t1 t2 t3 t4 (q2 0) t6 t7 t8 t9 t10 t11 S0 ++ (cw_X8 E q1 S1 ++ (cw_X2 E q2 S2))) (cw_X11 E q0 (q1 0) t1 t2 t3 t4 (q2 0) t6 t7 t8 t9 t10 t11 S0 ++ (cw_X8 E q1 Rv.2 ++ (cw_X2 E q2 S2))) sz Rv.1) 0 0 (va_A (cw_X11 E q0 (q1 0) t1 t2 t3 t4 (q2 0) t6 t7 t8 t9 t10 t11 S0 ++ (cw_X8 E q1 S1 ++ (cw_X2 E q2 S2))) sz) := by
  refine ct_metI (by decide) (Nat.le_of_ble_eq_true rfl) ?_
  intro p e s m ar below meth c A QM hx hb hml hown hg X hP hD hS RET ls hl
  have hown : s.vm.findClass RX11 = some m.cls := hown
  have hl : lv_has ls 3 [(0, .ref (q0 0)), (1, .int x1)] := hl
  have RT : ∀ (v : Int32) (S1 : Gr) (H : Heap) (locs : List Loc) (ls : Array Slot) (pc : Nat), some (v, S1) = some Rv → narrow .int (.int v) = .int v → va_P E.1 vwCl (cw_X11 E q0 (q1 0) t1 t2 t3 t4 (q2 0) t6 t7 t8 t9 t10 t11 S0 ++ (cw_X8 E q1 S1 ++ (cw_X2 E q2 S2))) H → va_D A (cw_X11 E q0 (q1 0) t1 t2 t3 t4 (q2 0) t6 t7 t8 t9 t10 t11 S0 ++ (cw_X8 E q1 S1 ++ (cw_X2 E q2 S2))) → va_S A s.heap H locs → decode cX11_salutes pc = .ok (.ireturn, 1) → W p l e ({ frames := 4, cells := 0, slots := 0, locals := 95 } : Room) s m ar below meth c H locs 0 0 QM (F0 m pc ls [.int v]) := by
    intro v S1 H locs ls pc e hn hP hD hS d
    obtain rfl := sm_e e
    exact RET H locs pc ls hn hP hD hS d
  clear RET
  obtain ⟨H, eH⟩ : ∃ z, z = s.heap := ⟨_, rfl⟩
  rw [← eH]
  have hP : va_P E.1 vwCl (cw_X11 E q0 (q1 0) t1 t2 t3 t4 (q2 0) t6 t7 t8 t9 t10 t11 S0 ++ (cw_X8 E q1 S1 ++ (cw_X2 E q2 S2))) H := by rw [eH]; exact hP
  have hS : va_S A s.heap H [] := by rw [eH]; exact hS
  clear eH
  obtain ⟨locs, el⟩ : ∃ z : List Loc, z = [] := ⟨_, rfl⟩
  rw [← el] at hS ⊢
  clear el
  refine lv_iload_n hx hb dX11_salutes_0 rfl (lv_at hl 1 rfl) ?_
  refine lv_iconst (v := 1) hx hb dX11_salutes_1 (by decide) ?_
  refine lv_bipush (v := 12) hx hb dX11_salutes_2 (by decide) ?_
  obtain ⟨u1, hc, h⟩ := bd_el h
  refine ct_iN X hP hD hS (va_runS (As := [.int x1, .int 1, .int 12]) (rest := []) ⟨hx, hb, hml, hown, hg⟩ (c_X11_within l E  H.size x1 1 12 u1 hc) (va_cwS 3 hg (gwS wm_X11_89 wst_X11_within wini_X11 wco_X11_within) rfl rfl rfl (by decide +kernel) ⟨Nat.le_of_ble_eq_true rfl, Nat.le_of_ble_eq_true rfl⟩) ⟨ct_blind, ct_preN X hS _⟩ rfl rfl hl.1 rfl (lv_room (Nat.le_of_ble_eq_true rfl)) dX11_salutes_4 ⟨Nat.zero_le _, Nat.zero_le _⟩) (fun H locs hP hD hS => ?_)
  refine lv_if_eq (tgt := 23) hx hb dX11_salutes_7 (by decide) (fun c2 => ?_) (fun c2 => ?_)
  · have h := it_t h c2
    refine lv_iconst (v := (-1)) hx hb dX11_salutes_23 (by decide) ?_
    exact RT (-1) S1 _ _ _ _ h rfl hP hD hS dX11_salutes_24
  · have h := it_f h c2
    refine lv_aload_n hx hb dX11_salutes_10 rfl (lv_at hl 0 rfl) ?_
    refine va_get (D := E.1) (ci := 10) (v := .ref (q1 0)) (C := RX11) (T := TX11) (N := 13) hx hb hg in_X11 hown X.1 hP 0 rfl rfl 0 (by decide) (hg _ wf_X11_10) (fun _ h9 => h9) rfl dX11_salutes_11 ?_
    refine lv_iconst (v := 2) hx hb dX11_salutes_14 (by decide) ?_
    refine lv_iload_n hx hb dX11_salutes_15 rfl (lv_at hl 1 rfl) ?_
    refine lv_imul hx hb dX11_salutes_16 ?_
    obtain ⟨u3, hc, h⟩ := bd_el h
    have hC : ([1, 2] : List Nat).map (fun i => (cw_X11 E q0 (q1 0) t1 t2 t3 t4 (q2 0) t6 t7 t8 t9 t10 t11 S0 ++ (cw_X8 E q1 S1 ++ (cw_X2 E q2 S2)))[i]?) = (cw_X8 E q1 S1).map some := rfl
    refine ct_iR X hP hD hS [1, 2] hC (va_runV (C := RX8) (As := [.int (2 * x1)]) (rest := []) ⟨hx, hb, hml, hown, hg⟩ (c_X8_has l E q1 H.size S1 (2 * x1) u3 hc) (cwV 1 hg (gwV wm_X11_108 wi_X8_has wsl_X8_has wini_X8 wco_X8_has) rfl rfl rfl (by decide +kernel) ⟨Nat.le_of_ble_eq_true rfl, Nat.le_of_ble_eq_true rfl⟩) ⟨ct_blind, ct_rv X.1 hP 1 rfl rfl, ct_pre X hP hD hS [1, 2] (by decide) hC _⟩ rfl rfl hl.1 rfl (lv_room (Nat.le_of_ble_eq_true rfl)) dX11_salutes_17 ⟨Nat.zero_le _, Nat.zero_le _⟩) (fun H locs hP hD hS => ?_)
    clear hC
    refine lv_if_ne (tgt := 25) hx hb dX11_salutes_20 (by decide) (fun c4 => ?_) (fun c4 => ?_)
    · have h := it_f h c4
      refine lv_aload_n hx hb dX11_salutes_25 rfl (lv_at hl 0 rfl) ?_
      refine va_get (D := E.1) (ci := 10) (v := .ref (q2 0)) (C := RX11) (T := TX11) (N := 13) hx hb hg in_X11 hown X.1 hP 0 rfl rfl 5 (by decide) (hg _ wf_X11_47) (fun _ h9 => h9) rfl dX11_salutes_26 ?_
      refine lv_aload_n hx hb dX11_salutes_29 rfl (lv_at hl 0 rfl) ?_
      refine va_get (D := E.1) (ci := 10) (v := .ref (q1 0)) (C := RX11) (T := TX11) (N := 13) hx hb hg in_X11 hown X.1 hP 0 rfl rfl 0 (by decide) (hg _ wf_X11_10) (fun _ h9 => h9) rfl dX11_salutes_30 ?_
      refine lv_iload_n hx hb dX11_salutes_33 rfl (lv_at hl 1 rfl) ?_
      obtain ⟨u5, hc, h⟩ := bd_el h
      have hC : ([3, 4, 5, 6, 7, 8, 9, 1, 2] : List Nat).map (fun i => (cw_X11 E q0 (q1 0) t1 t2 t3 t4 (q2 0) t6 t7 t8 t9 t10 t11 S0 ++ (cw_X8 E q1 S1 ++ (cw_X2 E q2 S2)))[i]?) = (cw_X2 E q2 S2 ++ (cw_X8 E q1 S1)).map some := rfl
      refine ct_iR X hP hD hS [3, 4, 5, 6, 7, 8, 9, 1, 2] hC (va_runV (C := RX2) (As := [.ref (q1 0), .int x1]) (rest := []) ⟨hx, hb, hml, hown, hg⟩ (c_X2_mostSalutes l E q2 q1 H.size S2 S1 x1 u5 hc) (cwV 2 hg (gwV wm_X11_247 wi_X2_mostSalutes wsl_X2_mostSalutes wini_X2 wco_X2_mostSalutes) rfl rfl rfl (by decide +kernel) ⟨Nat.le_of_ble_eq_true rfl, Nat.le_of_ble_eq_true rfl⟩) ⟨ct_blind, ct_rv X.1 hP 3 rfl rfl, ct_pre X hP hD hS [3, 4, 5, 6, 7, 8, 9, 1, 2] (by decide) hC _⟩ rfl rfl hl.1 rfl (lv_room (Nat.le_of_ble_eq_true rfl)) dX11_salutes_34 ⟨Nat.zero_le _, Nat.zero_le _⟩) (fun H locs hP hD hS => ?_)
      clear hC
      refine lv_istore_n (lv' := [(2, .int u5), (0, .ref (q0 0)), (1, .int x1)]) hx hb dX11_salutes_37 rfl hl (by decide) rfl (fun ls hl => ?_)
      refine lv_aload_n hx hb dX11_salutes_38 rfl (lv_at hl 1 rfl) ?_
      refine va_get (D := E.1) (ci := 10) (v := .ref (q1 0)) (C := RX11) (T := TX11) (N := 13) hx hb hg in_X11 hown X.1 hP 0 rfl rfl 0 (by decide) (hg _ wf_X11_10) (fun _ h9 => h9) rfl dX11_salutes_39 ?_
      obtain ⟨u6, hc, h⟩ := bd_el h
      have hC : ([1, 2] : List Nat).map (fun i => (cw_X11 E q0 (q1 0) t1 t2 t3 t4 (q2 0) t6 t7 t8 t9 t10 t11 S0 ++ (cw_X8 E q1 S1 ++ (cw_X2 E q2 S2)))[i]?) = (cw_X8 E q1 S1).map some := rfl
      refine ct_v (ws' := cw_X11 E q0 (q1 0) t1 t2 t3 t4 (q2 0) t6 t7 t8 t9 t10 t11 S0 ++ (cw_X8 E q1 u6 ++ (cw_X2 E q2 S2))) X hP hD hS [1, 2] (va_runV (C := RX8) (As := []) (rest := []) ⟨hx, hb, hml, hown, hg⟩ (c_X8_empty l E q1 H.size S1 u6 hc) (cwV 0 hg (gwV wm_X11_115 wi_X8_empty wsl_X8_empty wini_X8 wco_X8_empty) rfl rfl rfl (by decide +kernel) ⟨Nat.le_of_ble_eq_true rfl, Nat.le_of_ble_eq_true rfl⟩) ⟨ct_blind, ct_rv X.1 hP 1 rfl rfl, ct_pre X hP hD hS [1, 2] (by decide) hC _⟩ rfl rfl hl.1 rfl (lv_room (Nat.le_of_ble_eq_true rfl)) dX11_salutes_42 ⟨Nat.zero_le _, Nat.zero_le _⟩) hC rfl rfl (fun H locs hP hD hS => ?_)
      clear hC
      refine lv_iload_n hx hb dX11_salutes_45 rfl (lv_at hl 0 rfl) ?_
      exact RT u5 u6 _ _ _ _ h rfl hP hD hS dX11_salutes_46
    · have h := it_t h c4
      refine lv_iconst (v := (-1)) hx hb dX11_salutes_23 (by decide) ?_
      exact RT (-1) S1 _ _ _ _ h rfl hP hD hS dX11_salutes_24
theorem dX11_seed_0 : decode cX11_seed 0 = .ok (.iload_n 1, 1) := by decide +kernel
theorem dX11_seed_1 : decode cX11_seed 1 = .ok (.iconst 0, 1) := by decide +kernel
theorem dX11_seed_2 : decode cX11_seed 2 = .ok (.ldc 253, 2) := by decide +kernel
theorem dX11_seed_4 : decode cX11_seed 4 = .ok (.invokestatic 89, 3) := by decide +kernel
theorem dX11_seed_7 : decode cX11_seed 7 = .ok (.ifCond .ne 5, 3) := by decide +kernel
theorem dX11_seed_10 : decode cX11_seed 10 = .ok (.iconst 0, 1) := by decide +kernel
theorem dX11_seed_11 : decode cX11_seed 11 = .ok (.ireturn, 1) := by decide +kernel
theorem dX11_seed_12 : decode cX11_seed 12 = .ok (.aload_n 0, 1) := by decide +kernel
theorem dX11_seed_13 : decode cX11_seed 13 = .ok (.getfield 71, 3) := by decide +kernel
theorem dX11_seed_16 : decode cX11_seed 16 = .ok (.iload_n 1, 1) := by decide +kernel
theorem dX11_seed_17 : decode cX11_seed 17 = .ok (.putfield 125, 3) := by decide +kernel
theorem dX11_seed_20 : decode cX11_seed 20 = .ok (.iconst 1, 1) := by decide +kernel
theorem dX11_seed_21 : decode cX11_seed 21 = .ok (.ireturn, 1) := by decide +kernel
def f_X11_seed (S0 : Gr) (S1 : Gr) (x1 : Int32) : Option (Int32 × Gr) := (f_X11_within x1 0 65535).bind fun u1 => if u1 = 0 then (some (0, S1)) else (lt' (sI S1 10 x1) fun S1_3 => some (1, S1_3))
set_option maxHeartbeats 4000000 in
set_option maxRecDepth 100000 in
theorem c_X11_seed (l : Launch) (E : Ec) (q0 q1 : Nat → Nat) (t0 t1 t2 t3 t4 t5 t6 t7 t8 t10 t11 : Nat) (sz : Nat) (S0 : Gr) (S1 : Gr) (x1 : Int32) (Rv : Int32 × Gr) (h : f_X11_seed S0 S1 x1 = some Rv) : Met l yX11_seed (wsM (.code yX11_seed cX11_seed 2 (some .boolean))) ({ frames := 1, cells := 0, slots := 0, locals := 22 } : Room) (va_Pc [.ref (q0 0), .int x1] (ctP E (cw_X11 E q0 t0 t1 t2 t3 t4 t5 t6 t7 t8 (q1 0) t10 t11 S0 ++ (cw_X7 E q1 S1)) sz)) (ctI E (cw_X11 E q0 t0 t1 t2 t3 t4 t5 t6 t7 t8 (q1 0) t10 t11 S0 ++ (cw_X7 E q1 S1)) (cw_X11 E q0 t0 t1 t2 t3 t4 t5 t6 t7 t8 (q1 0) t10 t11 S0 ++ (cw_X7 E q1 Rv.2)) sz Rv.1) 0 0 (va_A (cw_X11 E q0 t0 t1 t2 t3 t4 t5 t6 t7 t8 (q1 0) t10 t11 S0 ++ (cw_X7 E q1 S1)) sz) := by
  refine ct_metI (by decide) (Nat.le_of_ble_eq_true rfl) ?_
  intro p e s m ar below meth c A QM hx hb hml hown hg X hP hD hS RET ls hl
  have hown : s.vm.findClass RX11 = some m.cls := hown
  have hl : lv_has ls 2 [(0, .ref (q0 0)), (1, .int x1)] := hl
  have RT : ∀ (v : Int32) (S1 : Gr) (H : Heap) (locs : List Loc) (ls : Array Slot) (pc : Nat), some (v, S1) = some Rv → narrow .boolean (.int v) = .int v → va_P E.1 vwCl (cw_X11 E q0 t0 t1 t2 t3 t4 t5 t6 t7 t8 (q1 0) t10 t11 S0 ++ (cw_X7 E q1 S1)) H → va_D A (cw_X11 E q0 t0 t1 t2 t3 t4 t5 t6 t7 t8 (q1 0) t10 t11 S0 ++ (cw_X7 E q1 S1)) → va_S A s.heap H locs → decode cX11_seed pc = .ok (.ireturn, 1) → W p l e ({ frames := 1, cells := 0, slots := 0, locals := 22 } : Room) s m ar below meth c H locs 0 0 QM (F0 m pc ls [.int v]) := by
    intro v S1 H locs ls pc e hn hP hD hS d
    obtain rfl := sm_e e
    exact RET H locs pc ls hn hP hD hS d
  clear RET
  obtain ⟨H, eH⟩ : ∃ z, z = s.heap := ⟨_, rfl⟩
  rw [← eH]
  have hP : va_P E.1 vwCl (cw_X11 E q0 t0 t1 t2 t3 t4 t5 t6 t7 t8 (q1 0) t10 t11 S0 ++ (cw_X7 E q1 S1)) H := by rw [eH]; exact hP
  have hS : va_S A s.heap H [] := by rw [eH]; exact hS
  clear eH
  obtain ⟨locs, el⟩ : ∃ z : List Loc, z = [] := ⟨_, rfl⟩
  rw [← el] at hS ⊢
  clear el
  refine lv_iload_n hx hb dX11_seed_0 rfl (lv_at hl 1 rfl) ?_
  refine lv_iconst (v := 0) hx hb dX11_seed_1 (by decide) ?_
  refine lv_ldc hx hb hown (hg _ wcn_X11_253) dX11_seed_2 ?_
  obtain ⟨u1, hc, h⟩ := bd_el h
  refine ct_iN X hP hD hS (va_runS (As := [.int x1, .int 0, .int 65535]) (rest := []) ⟨hx, hb, hml, hown, hg⟩ (c_X11_within l E  H.size x1 0 65535 u1 hc) (va_cwS 3 hg (gwS wm_X11_89 wst_X11_within wini_X11 wco_X11_within) rfl rfl rfl (by decide +kernel) ⟨Nat.le_of_ble_eq_true rfl, Nat.le_of_ble_eq_true rfl⟩) ⟨ct_blind, ct_preN X hS _⟩ rfl rfl hl.1 rfl (lv_room (Nat.le_of_ble_eq_true rfl)) dX11_seed_4 ⟨Nat.zero_le _, Nat.zero_le _⟩) (fun H locs hP hD hS => ?_)
  refine lv_if_ne (tgt := 12) hx hb dX11_seed_7 (by decide) (fun c2 => ?_) (fun c2 => ?_)
  · have h := it_f h c2
    refine lv_aload_n hx hb dX11_seed_12 rfl (lv_at hl 0 rfl) ?_
    refine va_get (D := E.1) (ci := 10) (v := .ref (q1 0)) (C := RX11) (T := TX11) (N := 13) hx hb hg in_X11 hown X.1 hP 0 rfl rfl 9 (by decide) (hg _ wf_X11_71) (fun _ h9 => h9) rfl dX11_seed_13 ?_
    refine lv_iload_n hx hb dX11_seed_16 rfl (lv_at hl 1 rfl) ?_
    obtain ⟨S1_3, eS, h⟩ := lt_el h
    refine va_putN (D := E.1) (ci := 6) (v := .int x1) (ty := .int) (C := RX7) (T := TX7) (N := 11) hx hb hg in_X7 tyX7 tyX7_ok nmX7 hown X.1 hP hD hS 1 rfl rfl 10 (by decide) (va_Nw.use rfl (nf_X11_125 X.2.1)) (fun _ h9 => h9) rfl (by decide +kernel) rfl rfl (Nat.le_of_ble_eq_true rfl) dX11_seed_17 (fun H locs hP hD hS => ?_)
    have hP : va_P E.1 vwCl (cw_X11 E q0 t0 t1 t2 t3 t4 t5 t6 t7 t8 (q1 0) t10 t11 S0 ++ (cw_X7 E q1 S1_3)) H := by rw [eS]; exact hP
    have hD : va_D A (cw_X11 E q0 t0 t1 t2 t3 t4 t5 t6 t7 t8 (q1 0) t10 t11 S0 ++ (cw_X7 E q1 S1_3)) := by rw [eS]; exact hD
    clear eS
    refine lv_iconst (v := 1) hx hb dX11_seed_20 (by decide) ?_
    exact RT 1 S1_3 _ _ _ _ h (by decide +kernel) hP hD hS dX11_seed_21
  · have h := it_t h c2
    refine lv_iconst (v := 0) hx hb dX11_seed_10 (by decide) ?_
    exact RT 0 S1 _ _ _ _ h (by decide +kernel) hP hD hS dX11_seed_11
theorem dX11_share_0 : decode cX11_share 0 = .ok (.aload_n 0, 1) := by decide +kernel
theorem dX11_share_1 : decode cX11_share 1 = .ok (.getfield 71, 3) := by decide +kernel
theorem dX11_share_4 : decode cX11_share 4 = .ok (.iload_n 1, 1) := by decide +kernel
theorem dX11_share_5 : decode cX11_share 5 = .ok (.invokevirtual 85, 3) := by decide +kernel
theorem dX11_share_8 : decode cX11_share 8 = .ok (.ifCond .ne 5, 3) := by decide +kernel
theorem dX11_share_11 : decode cX11_share 11 = .ok (.iconst (-1), 1) := by decide +kernel
theorem dX11_share_12 : decode cX11_share 12 = .ok (.ireturn, 1) := by decide +kernel
theorem dX11_share_13 : decode cX11_share 13 = .ok (.aload_n 0, 1) := by decide +kernel
theorem dX11_share_14 : decode cX11_share 14 = .ok (.getfield 40, 3) := by decide +kernel
theorem dX11_share_17 : decode cX11_share 17 = .ok (.aload_n 0, 1) := by decide +kernel
theorem dX11_share_18 : decode cX11_share 18 = .ok (.getfield 71, 3) := by decide +kernel
theorem dX11_share_21 : decode cX11_share 21 = .ok (.iload_n 1, 1) := by decide +kernel
theorem dX11_share_22 : decode cX11_share 22 = .ok (.invokevirtual 216, 3) := by decide +kernel
theorem dX11_share_25 : decode cX11_share 25 = .ok (.ireturn, 1) := by decide +kernel
def f_X11_share (S0 : Gr) (S1 : Gr) (S2 : Gr) (x1 : Int32) : Option (Int32) := (f_X7_hasWeb S1 x1).bind fun u1 => if u1 = 0 then (some (-1)) else ((f_X6_placesNearTo S2 S1 x1).bind fun u3 => some u3)
set_option maxHeartbeats 4000000 in
set_option maxRecDepth 100000 in
theorem c_X11_share (l : Launch) (E : Ec) (q0 q1 q2 : Nat → Nat) (t0 t1 t2 t3 t5 t6 t7 t8 t10 t11 : Nat) (sz : Nat) (S0 : Gr) (S1 : Gr) (S2 : Gr) (x1 : Int32) (Rv : Int32) (h : f_X11_share S0 S1 S2 x1 = some Rv) : Met l yX11_share (wsM (.code yX11_share cX11_share 2 (some .int))) ({ frames := 5, cells := 0, slots := 0, locals := 125 } : Room) (va_Pc [.ref (q0 0), .int x1] (ctP E (cw_X11 E q0 t0 t1 t2 t3 (q2 0) t5 t6 t7 t8 (q1 0) t10 t11 S0 ++ (cw_X7 E q1 S1 ++ (cw_X6 E q2 S2))) sz)) (ctI E (cw_X11 E q0 t0 t1 t2 t3 (q2 0) t5 t6 t7 t8 (q1 0) t10 t11 S0 ++ (cw_X7 E q1 S1 ++ (cw_X6 E q2 S2))) (cw_X11 E q0 t0 t1 t2 t3 (q2 0) t5 t6 t7 t8 (q1 0) t10 t11 S0 ++ (cw_X7 E q1 S1 ++ (cw_X6 E q2 S2))) sz Rv) 0 0 (va_A (cw_X11 E q0 t0 t1 t2 t3 (q2 0) t5 t6 t7 t8 (q1 0) t10 t11 S0 ++ (cw_X7 E q1 S1 ++ (cw_X6 E q2 S2))) sz) := by
  refine ct_metI (by decide) (Nat.le_of_ble_eq_true rfl) ?_
  intro p e s m ar below meth c A QM hx hb hml hown hg X hP hD hS RET ls hl
  have hown : s.vm.findClass RX11 = some m.cls := hown
  have hl : lv_has ls 2 [(0, .ref (q0 0)), (1, .int x1)] := hl
  have RT : ∀ (v : Int32) (H : Heap) (locs : List Loc) (ls : Array Slot) (pc : Nat), some v = some Rv → narrow .int (.int v) = .int v → va_P E.1 vwCl (cw_X11 E q0 t0 t1 t2 t3 (q2 0) t5 t6 t7 t8 (q1 0) t10 t11 S0 ++ (cw_X7 E q1 S1 ++ (cw_X6 E q2 S2))) H → va_D A (cw_X11 E q0 t0 t1 t2 t3 (q2 0) t5 t6 t7 t8 (q1 0) t10 t11 S0 ++ (cw_X7 E q1 S1 ++ (cw_X6 E q2 S2))) → va_S A s.heap H locs → decode cX11_share pc = .ok (.ireturn, 1) → W p l e ({ frames := 5, cells := 0, slots := 0, locals := 125 } : Room) s m ar below meth c H locs 0 0 QM (F0 m pc ls [.int v]) := by
    intro v H locs ls pc e hn hP hD hS d
    obtain rfl := sm_e e
    exact RET H locs pc ls hn hP hD hS d
  clear RET
  obtain ⟨H, eH⟩ : ∃ z, z = s.heap := ⟨_, rfl⟩
  rw [← eH]
  have hP : va_P E.1 vwCl (cw_X11 E q0 t0 t1 t2 t3 (q2 0) t5 t6 t7 t8 (q1 0) t10 t11 S0 ++ (cw_X7 E q1 S1 ++ (cw_X6 E q2 S2))) H := by rw [eH]; exact hP
  have hS : va_S A s.heap H [] := by rw [eH]; exact hS
  clear eH
  obtain ⟨locs, el⟩ : ∃ z : List Loc, z = [] := ⟨_, rfl⟩
  rw [← el] at hS ⊢
  clear el
  refine lv_aload_n hx hb dX11_share_0 rfl (lv_at hl 0 rfl) ?_
  refine va_get (D := E.1) (ci := 10) (v := .ref (q1 0)) (C := RX11) (T := TX11) (N := 13) hx hb hg in_X11 hown X.1 hP 0 rfl rfl 9 (by decide) (hg _ wf_X11_71) (fun _ h9 => h9) rfl dX11_share_1 ?_
  refine lv_iload_n hx hb dX11_share_4 rfl (lv_at hl 1 rfl) ?_
  obtain ⟨u1, hc, h⟩ := bd_el h
  have hC : ([1, 2, 3, 4, 5, 6, 7, 8] : List Nat).map (fun i => (cw_X11 E q0 t0 t1 t2 t3 (q2 0) t5 t6 t7 t8 (q1 0) t10 t11 S0 ++ (cw_X7 E q1 S1 ++ (cw_X6 E q2 S2)))[i]?) = (cw_X7 E q1 S1).map some := rfl
  refine ct_iR X hP hD hS [1, 2, 3, 4, 5, 6, 7, 8] hC (va_runV (C := RX7) (As := [.int x1]) (rest := []) ⟨hx, hb, hml, hown, hg⟩ (c_X7_hasWeb l E q1 H.size S1 x1 u1 hc) (cwV 1 hg (gwV wm_X11_85 wi_X7_hasWeb wsl_X7_hasWeb wini_X7 wco_X7_hasWeb) rfl rfl rfl (by decide +kernel) ⟨Nat.le_of_ble_eq_true rfl, Nat.le_of_ble_eq_true rfl⟩) ⟨ct_blind, ct_rv X.1 hP 1 rfl rfl, ct_pre X hP hD hS [1, 2, 3, 4, 5, 6, 7, 8] (by decide) hC _⟩ rfl rfl hl.1 rfl (lv_room (Nat.le_of_ble_eq_true rfl)) dX11_share_5 ⟨Nat.zero_le _, Nat.zero_le _⟩) (fun H locs hP hD hS => ?_)
  clear hC
  refine lv_if_ne (tgt := 13) hx hb dX11_share_8 (by decide) (fun c2 => ?_) (fun c2 => ?_)
  · have h := it_f h c2
    refine lv_aload_n hx hb dX11_share_13 rfl (lv_at hl 0 rfl) ?_
    refine va_get (D := E.1) (ci := 10) (v := .ref (q2 0)) (C := RX11) (T := TX11) (N := 13) hx hb hg in_X11 hown X.1 hP 0 rfl rfl 4 (by decide) (hg _ wf_X11_40) (fun _ h9 => h9) rfl dX11_share_14 ?_
    refine lv_aload_n hx hb dX11_share_17 rfl (lv_at hl 0 rfl) ?_
    refine va_get (D := E.1) (ci := 10) (v := .ref (q1 0)) (C := RX11) (T := TX11) (N := 13) hx hb hg in_X11 hown X.1 hP 0 rfl rfl 9 (by decide) (hg _ wf_X11_71) (fun _ h9 => h9) rfl dX11_share_18 ?_
    refine lv_iload_n hx hb dX11_share_21 rfl (lv_at hl 1 rfl) ?_
    obtain ⟨u3, hc, h⟩ := bd_el h
    have hC : ([9, 10, 11, 1, 2, 3, 4, 5, 6, 7, 8] : List Nat).map (fun i => (cw_X11 E q0 t0 t1 t2 t3 (q2 0) t5 t6 t7 t8 (q1 0) t10 t11 S0 ++ (cw_X7 E q1 S1 ++ (cw_X6 E q2 S2)))[i]?) = (cw_X6 E q2 S2 ++ (cw_X7 E q1 S1)).map some := rfl
    refine ct_iR X hP hD hS [9, 10, 11, 1, 2, 3, 4, 5, 6, 7, 8] hC (va_runV (C := RX6) (As := [.ref (q1 0), .int x1]) (rest := []) ⟨hx, hb, hml, hown, hg⟩ (c_X6_placesNearTo l E q2 q1 H.size S2 S1 x1 u3 hc) (cwV 2 hg (gwV wm_X11_216 wi_X6_placesNearTo wsl_X6_placesNearTo wini_X6 wco_X6_placesNearTo) rfl rfl rfl (by decide +kernel) ⟨Nat.le_of_ble_eq_true rfl, Nat.le_of_ble_eq_true rfl⟩) ⟨ct_blind, ct_rv X.1 hP 9 rfl rfl, ct_pre X hP hD hS [9, 10, 11, 1, 2, 3, 4, 5, 6, 7, 8] (by decide) hC _⟩ rfl rfl hl.1 rfl (lv_room (Nat.le_of_ble_eq_true rfl)) dX11_share_22 ⟨Nat.zero_le _, Nat.zero_le _⟩) (fun H locs hP hD hS => ?_)
    clear hC
    exact RT u3 _ _ _ _ h rfl hP hD hS dX11_share_25
  · have h := it_t h c2
    refine lv_iconst (v := (-1)) hx hb dX11_share_11 (by decide) ?_
    exact RT (-1) _ _ _ _ h rfl hP hD hS dX11_share_12
theorem dX11_smoothed_0 : decode cX11_smoothed 0 = .ok (.iload_n 1, 1) := by decide +kernel
theorem dX11_smoothed_1 : decode cX11_smoothed 1 = .ok (.iconst 3, 1) := by decide +kernel
theorem dX11_smoothed_2 : decode cX11_smoothed 2 = .ok (.bipush 30, 2) := by decide +kernel
theorem dX11_smoothed_4 : decode cX11_smoothed 4 = .ok (.invokestatic 89, 3) := by decide +kernel
theorem dX11_smoothed_7 : decode cX11_smoothed 7 = .ok (.ifCond .eq 23, 3) := by decide +kernel
theorem dX11_smoothed_10 : decode cX11_smoothed 10 = .ok (.iload_n 2, 1) := by decide +kernel
theorem dX11_smoothed_11 : decode cX11_smoothed 11 = .ok (.iconst 0, 1) := by decide +kernel
theorem dX11_smoothed_12 : decode cX11_smoothed 12 = .ok (.iconst 1, 1) := by decide +kernel
theorem dX11_smoothed_13 : decode cX11_smoothed 13 = .ok (.invokestatic 89, 3) := by decide +kernel
theorem dX11_smoothed_16 : decode cX11_smoothed 16 = .ok (.ifCond .eq 14, 3) := by decide +kernel
theorem dX11_smoothed_19 : decode cX11_smoothed 19 = .ok (.aload_n 0, 1) := by decide +kernel
theorem dX11_smoothed_20 : decode cX11_smoothed 20 = .ok (.getfield 10, 3) := by decide +kernel
theorem dX11_smoothed_23 : decode cX11_smoothed 23 = .ok (.iload_n 1, 1) := by decide +kernel
theorem dX11_smoothed_24 : decode cX11_smoothed 24 = .ok (.invokevirtual 108, 3) := by decide +kernel
theorem dX11_smoothed_27 : decode cX11_smoothed 27 = .ok (.ifCond .ne 5, 3) := by decide +kernel
theorem dX11_smoothed_30 : decode cX11_smoothed 30 = .ok (.iconst (-1), 1) := by decide +kernel
theorem dX11_smoothed_31 : decode cX11_smoothed 31 = .ok (.ireturn, 1) := by decide +kernel
theorem dX11_smoothed_32 : decode cX11_smoothed 32 = .ok (.aload_n 0, 1) := by decide +kernel
theorem dX11_smoothed_33 : decode cX11_smoothed 33 = .ok (.getfield 47, 3) := by decide +kernel
theorem dX11_smoothed_36 : decode cX11_smoothed 36 = .ok (.aload_n 0, 1) := by decide +kernel
theorem dX11_smoothed_37 : decode cX11_smoothed 37 = .ok (.getfield 10, 3) := by decide +kernel
theorem dX11_smoothed_40 : decode cX11_smoothed 40 = .ok (.iload_n 1, 1) := by decide +kernel
theorem dX11_smoothed_41 : decode cX11_smoothed 41 = .ok (.iload_n 2, 1) := by decide +kernel
theorem dX11_smoothed_42 : decode cX11_smoothed 42 = .ok (.invokevirtual 240, 3) := by decide +kernel
theorem dX11_smoothed_45 : decode cX11_smoothed 45 = .ok (.istore_n 3, 1) := by decide +kernel
theorem dX11_smoothed_46 : decode cX11_smoothed 46 = .ok (.aload_n 0, 1) := by decide +kernel
theorem dX11_smoothed_47 : decode cX11_smoothed 47 = .ok (.getfield 10, 3) := by decide +kernel
theorem dX11_smoothed_50 : decode cX11_smoothed 50 = .ok (.invokevirtual 115, 3) := by decide +kernel
theorem dX11_smoothed_53 : decode cX11_smoothed 53 = .ok (.iload_n 3, 1) := by decide +kernel
theorem dX11_smoothed_54 : decode cX11_smoothed 54 = .ok (.ireturn, 1) := by decide +kernel
def f_X11_smoothed (S0 : Gr) (S1 : Gr) (S2 : Gr) (x1 : Int32) (x2 : Int32) : Option (Int32 × Gr × Gr) := (f_X11_within x1 3 30).bind fun u1 => if u1 = 0 then (some ((-1), S1, S2)) else ((f_X11_within x2 0 1).bind fun u3 => if u3 = 0 then (some ((-1), S1, S2)) else ((f_X8_has S1 x1).bind fun u5 => if u5 = 0 then (some ((-1), S1, S2)) else ((f_X2_smooth S2 S1 x1 x2).bind fun u7 => (f_X8_empty S1).bind fun u8 => some (u7.1, u8, u7.2))))
set_option maxHeartbeats 4000000 in
set_option maxRecDepth 100000 in
theorem c_X11_smoothed (l : Launch) (E : Ec) (q0 q1 q2 : Nat → Nat) (t1 t2 t3 t4 t6 t7 t8 t9 t10 t11 : Nat) (sz : Nat) (S0 : Gr) (S1 : Gr) (S2 : Gr) (x1 : Int32) (x2 : Int32) (Rv : Int32 × Gr × Gr) (h : f_X11_smoothed S0 S1 S2 x1 x2 = some Rv) : Met l yX11_smoothed (wsM (.code yX11_smoothed cX11_smoothed 4 (some .int))) ({ frames := 4, cells := 0, slots := 0, locals := 102 } : Room) (va_Pc [.ref (q0 0), .int x1, .int x2] (ctP E (cw_X11 E q0 (q1 0) t1 t2 t3 t4 (q2 0) t6 t7 t8 t9 t10 t11 S0 ++ (cw_X8 E q1 S1 ++ (cw_X2 E q2 S2))) sz)) (ctI E (cw_X11 E q0 (q1 0) t1 t2 t3 t4 (q2 0) t6 t7 t8 t9 t10 t11 S0 ++ (cw_X8 E q1 S1 ++ (cw_X2 E q2 S2))) (cw_X11 E q0 (q1 0) t1 t2 t3 t4 (q2 0) t6 t7 t8 t9 t10 t11 S0 ++ (cw_X8 E q1 Rv.2.1 ++ (cw_X2 E q2 Rv.2.2))) sz Rv.1) 0 0 (va_A (cw_X11 E q0 (q1 0) t1 t2 t3 t4 (q2 0) t6 t7 t8 t9 t10 t11 S0 ++ (cw_X8 E q1 S1 ++ (cw_X2 E q2 S2))) sz) := by
  refine ct_metI (by decide) (Nat.le_of_ble_eq_true rfl) ?_
  intro p e s m ar below meth c A QM hx hb hml hown hg X hP hD hS RET ls hl
  have hown : s.vm.findClass RX11 = some m.cls := hown
  have hl : lv_has ls 4 [(0, .ref (q0 0)), (1, .int x1), (2, .int x2)] := hl
  have RT : ∀ (v : Int32) (S1 : Gr) (S2 : Gr) (H : Heap) (locs : List Loc) (ls : Array Slot) (pc : Nat), some (v, S1, S2) = some Rv → narrow .int (.int v) = .int v → va_P E.1 vwCl (cw_X11 E q0 (q1 0) t1 t2 t3 t4 (q2 0) t6 t7 t8 t9 t10 t11 S0 ++ (cw_X8 E q1 S1 ++ (cw_X2 E q2 S2))) H → va_D A (cw_X11 E q0 (q1 0) t1 t2 t3 t4 (q2 0) t6 t7 t8 t9 t10 t11 S0 ++ (cw_X8 E q1 S1 ++ (cw_X2 E q2 S2))) → va_S A s.heap H locs → decode cX11_smoothed pc = .ok (.ireturn, 1) → W p l e ({ frames := 4, cells := 0, slots := 0, locals := 102 } : Room) s m ar below meth c H locs 0 0 QM (F0 m pc ls [.int v]) := by
    intro v S1 S2 H locs ls pc e hn hP hD hS d
    obtain rfl := sm_e e
    exact RET H locs pc ls hn hP hD hS d
  clear RET
  obtain ⟨H, eH⟩ : ∃ z, z = s.heap := ⟨_, rfl⟩
  rw [← eH]
  have hP : va_P E.1 vwCl (cw_X11 E q0 (q1 0) t1 t2 t3 t4 (q2 0) t6 t7 t8 t9 t10 t11 S0 ++ (cw_X8 E q1 S1 ++ (cw_X2 E q2 S2))) H := by rw [eH]; exact hP
  have hS : va_S A s.heap H [] := by rw [eH]; exact hS
  clear eH
  obtain ⟨locs, el⟩ : ∃ z : List Loc, z = [] := ⟨_, rfl⟩
  rw [← el] at hS ⊢
  clear el
  refine lv_iload_n hx hb dX11_smoothed_0 rfl (lv_at hl 1 rfl) ?_
  refine lv_iconst (v := 3) hx hb dX11_smoothed_1 (by decide) ?_
  refine lv_bipush (v := 30) hx hb dX11_smoothed_2 (by decide) ?_
  obtain ⟨u1, hc, h⟩ := bd_el h
  refine ct_iN X hP hD hS (va_runS (As := [.int x1, .int 3, .int 30]) (rest := []) ⟨hx, hb, hml, hown, hg⟩ (c_X11_within l E  H.size x1 3 30 u1 hc) (va_cwS 3 hg (gwS wm_X11_89 wst_X11_within wini_X11 wco_X11_within) rfl rfl rfl (by decide +kernel) ⟨Nat.le_of_ble_eq_true rfl, Nat.le_of_ble_eq_true rfl⟩) ⟨ct_blind, ct_preN X hS _⟩ rfl rfl hl.1 rfl (lv_room (Nat.le_of_ble_eq_true rfl)) dX11_smoothed_4 ⟨Nat.zero_le _, Nat.zero_le _⟩) (fun H locs hP hD hS => ?_)
  refine lv_if_eq (tgt := 30) hx hb dX11_smoothed_7 (by decide) (fun c2 => ?_) (fun c2 => ?_)
  · have h := it_t h c2
    refine lv_iconst (v := (-1)) hx hb dX11_smoothed_30 (by decide) ?_
    exact RT (-1) S1 S2 _ _ _ _ h rfl hP hD hS dX11_smoothed_31
  · have h := it_f h c2
    refine lv_iload_n hx hb dX11_smoothed_10 rfl (lv_at hl 2 rfl) ?_
    refine lv_iconst (v := 0) hx hb dX11_smoothed_11 (by decide) ?_
    refine lv_iconst (v := 1) hx hb dX11_smoothed_12 (by decide) ?_
    obtain ⟨u3, hc, h⟩ := bd_el h
    refine ct_iN X hP hD hS (va_runS (As := [.int x2, .int 0, .int 1]) (rest := []) ⟨hx, hb, hml, hown, hg⟩ (c_X11_within l E  H.size x2 0 1 u3 hc) (va_cwS 3 hg (gwS wm_X11_89 wst_X11_within wini_X11 wco_X11_within) rfl rfl rfl (by decide +kernel) ⟨Nat.le_of_ble_eq_true rfl, Nat.le_of_ble_eq_true rfl⟩) ⟨ct_blind, ct_preN X hS _⟩ rfl rfl hl.1 rfl (lv_room (Nat.le_of_ble_eq_true rfl)) dX11_smoothed_13 ⟨Nat.zero_le _, Nat.zero_le _⟩) (fun H locs hP hD hS => ?_)
    refine lv_if_eq (tgt := 30) hx hb dX11_smoothed_16 (by decide) (fun c4 => ?_) (fun c4 => ?_)
    · have h := it_t h c4
      refine lv_iconst (v := (-1)) hx hb dX11_smoothed_30 (by decide) ?_
      exact RT (-1) S1 S2 _ _ _ _ h rfl hP hD hS dX11_smoothed_31
    · have h := it_f h c4
      refine lv_aload_n hx hb dX11_smoothed_19 rfl (lv_at hl 0 rfl) ?_
      refine va_get (D := E.1) (ci := 10) (v := .ref (q1 0)) (C := RX11) (T := TX11) (N := 13) hx hb hg in_X11 hown X.1 hP 0 rfl rfl 0 (by decide) (hg _ wf_X11_10) (fun _ h9 => h9) rfl dX11_smoothed_20 ?_
      refine lv_iload_n hx hb dX11_smoothed_23 rfl (lv_at hl 1 rfl) ?_
      obtain ⟨u5, hc, h⟩ := bd_el h
      have hC : ([1, 2] : List Nat).map (fun i => (cw_X11 E q0 (q1 0) t1 t2 t3 t4 (q2 0) t6 t7 t8 t9 t10 t11 S0 ++ (cw_X8 E q1 S1 ++ (cw_X2 E q2 S2)))[i]?) = (cw_X8 E q1 S1).map some := rfl
      refine ct_iR X hP hD hS [1, 2] hC (va_runV (C := RX8) (As := [.int x1]) (rest := []) ⟨hx, hb, hml, hown, hg⟩ (c_X8_has l E q1 H.size S1 x1 u5 hc) (cwV 1 hg (gwV wm_X11_108 wi_X8_has wsl_X8_has wini_X8 wco_X8_has) rfl rfl rfl (by decide +kernel) ⟨Nat.le_of_ble_eq_true rfl, Nat.le_of_ble_eq_true rfl⟩) ⟨ct_blind, ct_rv X.1 hP 1 rfl rfl, ct_pre X hP hD hS [1, 2] (by decide) hC _⟩ rfl rfl hl.1 rfl (lv_room (Nat.le_of_ble_eq_true rfl)) dX11_smoothed_24 ⟨Nat.zero_le _, Nat.zero_le _⟩) (fun H locs hP hD hS => ?_)
      clear hC
      refine lv_if_ne (tgt := 32) hx hb dX11_smoothed_27 (by decide) (fun c6 => ?_) (fun c6 => ?_)
      · have h := it_f h c6
        refine lv_aload_n hx hb dX11_smoothed_32 rfl (lv_at hl 0 rfl) ?_
        refine va_get (D := E.1) (ci := 10) (v := .ref (q2 0)) (C := RX11) (T := TX11) (N := 13) hx hb hg in_X11 hown X.1 hP 0 rfl rfl 5 (by decide) (hg _ wf_X11_47) (fun _ h9 => h9) rfl dX11_smoothed_33 ?_
        refine lv_aload_n hx hb dX11_smoothed_36 rfl (lv_at hl 0 rfl) ?_
        refine va_get (D := E.1) (ci := 10) (v := .ref (q1 0)) (C := RX11) (T := TX11) (N := 13) hx hb hg in_X11 hown X.1 hP 0 rfl rfl 0 (by decide) (hg _ wf_X11_10) (fun _ h9 => h9) rfl dX11_smoothed_37 ?_
        refine lv_iload_n hx hb dX11_smoothed_40 rfl (lv_at hl 1 rfl) ?_
        refine lv_iload_n hx hb dX11_smoothed_41 rfl (lv_at hl 2 rfl) ?_
        obtain ⟨u7, hc, h⟩ := bd_el h
        have hC : ([3, 4, 5, 6, 7, 8, 9, 1, 2] : List Nat).map (fun i => (cw_X11 E q0 (q1 0) t1 t2 t3 t4 (q2 0) t6 t7 t8 t9 t10 t11 S0 ++ (cw_X8 E q1 S1 ++ (cw_X2 E q2 S2)))[i]?) = (cw_X2 E q2 S2 ++ (cw_X8 E q1 S1)).map some := rfl
        refine ct_i (ws' := cw_X11 E q0 (q1 0) t1 t2 t3 t4 (q2 0) t6 t7 t8 t9 t10 t11 S0 ++ (cw_X8 E q1 S1 ++ (cw_X2 E q2 u7.2))) X hP hD hS [3, 4, 5, 6, 7, 8, 9, 1, 2] (va_runV (C := RX2) (As := [.ref (q1 0), .int x1, .int x2]) (rest := []) ⟨hx, hb, hml, hown, hg⟩ (c_X2_smooth l E q2 q1 H.size S2 S1 x1 x2 u7 hc) (cwV 3 hg (gwV wm_X11_240 wi_X2_smooth wsl_X2_smooth wini_X2 wco_X2_smooth) rfl rfl rfl (by decide +kernel) ⟨Nat.le_of_ble_eq_true rfl, Nat.le_of_ble_eq_true rfl⟩) ⟨ct_blind, ct_rv X.1 hP 3 rfl rfl, ct_pre X hP hD hS [3, 4, 5, 6, 7, 8, 9, 1, 2] (by decide) hC _⟩ rfl rfl hl.1 rfl (lv_room (Nat.le_of_ble_eq_true rfl)) dX11_smoothed_42 ⟨Nat.zero_le _, Nat.zero_le _⟩) hC rfl rfl (fun H locs hP hD hS => ?_)
        clear hC
        refine lv_istore_n (lv' := [(3, .int u7.1), (0, .ref (q0 0)), (1, .int x1), (2, .int x2)]) hx hb dX11_smoothed_45 rfl hl (by decide) rfl (fun ls hl => ?_)
        refine lv_aload_n hx hb dX11_smoothed_46 rfl (lv_at hl 1 rfl) ?_
        refine va_get (D := E.1) (ci := 10) (v := .ref (q1 0)) (C := RX11) (T := TX11) (N := 13) hx hb hg in_X11 hown X.1 hP 0 rfl rfl 0 (by decide) (hg _ wf_X11_10) (fun _ h9 => h9) rfl dX11_smoothed_47 ?_
        obtain ⟨u8, hc, h⟩ := bd_el h
        have hC : ([1, 2] : List Nat).map (fun i => (cw_X11 E q0 (q1 0) t1 t2 t3 t4 (q2 0) t6 t7 t8 t9 t10 t11 S0 ++ (cw_X8 E q1 S1 ++ (cw_X2 E q2 u7.2)))[i]?) = (cw_X8 E q1 S1).map some := rfl
        refine ct_v (ws' := cw_X11 E q0 (q1 0) t1 t2 t3 t4 (q2 0) t6 t7 t8 t9 t10 t11 S0 ++ (cw_X8 E q1 u8 ++ (cw_X2 E q2 u7.2))) X hP hD hS [1, 2] (va_runV (C := RX8) (As := []) (rest := []) ⟨hx, hb, hml, hown, hg⟩ (c_X8_empty l E q1 H.size S1 u8 hc) (cwV 0 hg (gwV wm_X11_115 wi_X8_empty wsl_X8_empty wini_X8 wco_X8_empty) rfl rfl rfl (by decide +kernel) ⟨Nat.le_of_ble_eq_true rfl, Nat.le_of_ble_eq_true rfl⟩) ⟨ct_blind, ct_rv X.1 hP 1 rfl rfl, ct_pre X hP hD hS [1, 2] (by decide) hC _⟩ rfl rfl hl.1 rfl (lv_room (Nat.le_of_ble_eq_true rfl)) dX11_smoothed_50 ⟨Nat.zero_le _, Nat.zero_le _⟩) hC rfl rfl (fun H locs hP hD hS => ?_)
        clear hC
        refine lv_iload_n hx hb dX11_smoothed_53 rfl (lv_at hl 0 rfl) ?_
        exact RT u7.1 u8 u7.2 _ _ _ _ h rfl hP hD hS dX11_smoothed_54
      · have h := it_t h c6
        refine lv_iconst (v := (-1)) hx hb dX11_smoothed_30 (by decide) ?_
        exact RT (-1) S1 S2 _ _ _ _ h rfl hP hD hS dX11_smoothed_31
theorem dX11_spell_0 : decode cX11_spell 0 = .ok (.iload_n 1, 1) := by decide +kernel
theorem dX11_spell_1 : decode cX11_spell 1 = .ok (.iconst 1, 1) := by decide +kernel
theorem dX11_spell_2 : decode cX11_spell 2 = .ok (.bipush 40, 2) := by decide +kernel
theorem dX11_spell_4 : decode cX11_spell 4 = .ok (.invokestatic 89, 3) := by decide +kernel
theorem dX11_spell_7 : decode cX11_spell 7 = .ok (.ifCond .eq 23, 3) := by decide +kernel
theorem dX11_spell_10 : decode cX11_spell 10 = .ok (.iload_n 2, 1) := by decide +kernel
theorem dX11_spell_11 : decode cX11_spell 11 = .ok (.iconst 0, 1) := by decide +kernel
theorem dX11_spell_12 : decode cX11_spell 12 = .ok (.iconst 2, 1) := by decide +kernel
theorem dX11_spell_13 : decode cX11_spell 13 = .ok (.invokestatic 89, 3) := by decide +kernel
theorem dX11_spell_16 : decode cX11_spell 16 = .ok (.ifCond .eq 14, 3) := by decide +kernel
theorem dX11_spell_19 : decode cX11_spell 19 = .ok (.aload_n 0, 1) := by decide +kernel
theorem dX11_spell_20 : decode cX11_spell 20 = .ok (.getfield 10, 3) := by decide +kernel
theorem dX11_spell_23 : decode cX11_spell 23 = .ok (.iload_n 1, 1) := by decide +kernel
theorem dX11_spell_24 : decode cX11_spell 24 = .ok (.invokevirtual 108, 3) := by decide +kernel
theorem dX11_spell_27 : decode cX11_spell 27 = .ok (.ifCond .ne 6, 3) := by decide +kernel
theorem dX11_spell_30 : decode cX11_spell 30 = .ok (.ldc 243, 2) := by decide +kernel
theorem dX11_spell_32 : decode cX11_spell 32 = .ok (.ireturn, 1) := by decide +kernel
theorem dX11_spell_33 : decode cX11_spell 33 = .ok (.aload_n 0, 1) := by decide +kernel
theorem dX11_spell_34 : decode cX11_spell 34 = .ok (.getfield 47, 3) := by decide +kernel
theorem dX11_spell_37 : decode cX11_spell 37 = .ok (.aload_n 0, 1) := by decide +kernel
theorem dX11_spell_38 : decode cX11_spell 38 = .ok (.getfield 10, 3) := by decide +kernel
theorem dX11_spell_41 : decode cX11_spell 41 = .ok (.iload_n 1, 1) := by decide +kernel
theorem dX11_spell_42 : decode cX11_spell 42 = .ok (.iload_n 2, 1) := by decide +kernel
theorem dX11_spell_43 : decode cX11_spell 43 = .ok (.invokevirtual 244, 3) := by decide +kernel
theorem dX11_spell_46 : decode cX11_spell 46 = .ok (.istore_n 3, 1) := by decide +kernel
theorem dX11_spell_47 : decode cX11_spell 47 = .ok (.aload_n 0, 1) := by decide +kernel
theorem dX11_spell_48 : decode cX11_spell 48 = .ok (.getfield 10, 3) := by decide +kernel
theorem dX11_spell_51 : decode cX11_spell 51 = .ok (.invokevirtual 115, 3) := by decide +kernel
theorem dX11_spell_54 : decode cX11_spell 54 = .ok (.iload_n 3, 1) := by decide +kernel
theorem dX11_spell_55 : decode cX11_spell 55 = .ok (.ireturn, 1) := by decide +kernel
def f_X11_spell (S0 : Gr) (S1 : Gr) (S2 : Gr) (x1 : Int32) (x2 : Int32) : Option (Int32 × Gr) := (f_X11_within x1 1 40).bind fun u1 => if u1 = 0 then (some ((-1000000), S1)) else ((f_X11_within x2 0 2).bind fun u3 => if u3 = 0 then (some ((-1000000), S1)) else ((f_X8_has S1 x1).bind fun u5 => if u5 = 0 then (some ((-1000000), S1)) else ((f_X2_worstSpell S2 S1 x1 x2).bind fun u7 => (f_X8_empty S1).bind fun u8 => some (u7, u8))))
set_option maxHeartbeats 4000000 in
set_option maxRecDepth 100000 in
theorem c_X11_spell (l : Launch) (E : Ec) (q0 q1 q2 : Nat → Nat) (t1 t2 t3 t4 t6 t7 t8 t9 t10 t11 : Nat) (sz : Nat) (S0 : Gr) (S1 : Gr) (S2 : Gr) (x1 : Int32) (x2 : Int32) (Rv : Int32 × Gr) (h : f_X11_spell S0 S1 S2 x1 x2 = some Rv) : Met l yX11_spell (wsM (.code yX11_spell cX11_spell 4 (some .int))) ({ frames := 3, cells := 0, slots := 0, locals := 72 } : Room) (va_Pc [.ref (q0 0), .int x1, .int x2] (ctP E (cw_X11 E q0 (q1 0) t1 t2 t3 t4 (q2 0) t6 t7 t8 t9 t10 t11 S0 ++ (cw_X8 E q1 S1 ++ (cw_X2 E q2 S2))) sz)) (ctI E (cw_X11 E q0 (q1 0) t1 t2 t3 t4 (q2 0) t6 t7 t8 t9 t10 t11 S0 ++ (cw_X8 E q1 S1 ++ (cw_X2 E q2 S2))) (cw_X11 E q0 (q1 0) t1 t2 t3 t4 (q2 0) t6 t7 t8 t9 t10 t11 S0 ++ (cw_X8 E q1 Rv.2 ++ (cw_X2 E q2 S2))) sz Rv.1) 0 0 (va_A (cw_X11 E q0 (q1 0) t1 t2 t3 t4 (q2 0) t6 t7 t8 t9 t10 t11 S0 ++ (cw_X8 E q1 S1 ++ (cw_X2 E q2 S2))) sz) := by
  refine ct_metI (by decide) (Nat.le_of_ble_eq_true rfl) ?_
  intro p e s m ar below meth c A QM hx hb hml hown hg X hP hD hS RET ls hl
  have hown : s.vm.findClass RX11 = some m.cls := hown
  have hl : lv_has ls 4 [(0, .ref (q0 0)), (1, .int x1), (2, .int x2)] := hl
  have RT : ∀ (v : Int32) (S1 : Gr) (H : Heap) (locs : List Loc) (ls : Array Slot) (pc : Nat), some (v, S1) = some Rv → narrow .int (.int v) = .int v → va_P E.1 vwCl (cw_X11 E q0 (q1 0) t1 t2 t3 t4 (q2 0) t6 t7 t8 t9 t10 t11 S0 ++ (cw_X8 E q1 S1 ++ (cw_X2 E q2 S2))) H → va_D A (cw_X11 E q0 (q1 0) t1 t2 t3 t4 (q2 0) t6 t7 t8 t9 t10 t11 S0 ++ (cw_X8 E q1 S1 ++ (cw_X2 E q2 S2))) → va_S A s.heap H locs → decode cX11_spell pc = .ok (.ireturn, 1) → W p l e ({ frames := 3, cells := 0, slots := 0, locals := 72 } : Room) s m ar below meth c H locs 0 0 QM (F0 m pc ls [.int v]) := by
    intro v S1 H locs ls pc e hn hP hD hS d
    obtain rfl := sm_e e
    exact RET H locs pc ls hn hP hD hS d
  clear RET
  obtain ⟨H, eH⟩ : ∃ z, z = s.heap := ⟨_, rfl⟩
  rw [← eH]
  have hP : va_P E.1 vwCl (cw_X11 E q0 (q1 0) t1 t2 t3 t4 (q2 0) t6 t7 t8 t9 t10 t11 S0 ++ (cw_X8 E q1 S1 ++ (cw_X2 E q2 S2))) H := by rw [eH]; exact hP
  have hS : va_S A s.heap H [] := by rw [eH]; exact hS
  clear eH
  obtain ⟨locs, el⟩ : ∃ z : List Loc, z = [] := ⟨_, rfl⟩
  rw [← el] at hS ⊢
  clear el
  refine lv_iload_n hx hb dX11_spell_0 rfl (lv_at hl 1 rfl) ?_
  refine lv_iconst (v := 1) hx hb dX11_spell_1 (by decide) ?_
  refine lv_bipush (v := 40) hx hb dX11_spell_2 (by decide) ?_
  obtain ⟨u1, hc, h⟩ := bd_el h
  refine ct_iN X hP hD hS (va_runS (As := [.int x1, .int 1, .int 40]) (rest := []) ⟨hx, hb, hml, hown, hg⟩ (c_X11_within l E  H.size x1 1 40 u1 hc) (va_cwS 3 hg (gwS wm_X11_89 wst_X11_within wini_X11 wco_X11_within) rfl rfl rfl (by decide +kernel) ⟨Nat.le_of_ble_eq_true rfl, Nat.le_of_ble_eq_true rfl⟩) ⟨ct_blind, ct_preN X hS _⟩ rfl rfl hl.1 rfl (lv_room (Nat.le_of_ble_eq_true rfl)) dX11_spell_4 ⟨Nat.zero_le _, Nat.zero_le _⟩) (fun H locs hP hD hS => ?_)
  refine lv_if_eq (tgt := 30) hx hb dX11_spell_7 (by decide) (fun c2 => ?_) (fun c2 => ?_)
  · have h := it_t h c2
    refine lv_ldc hx hb hown (hg _ wcn_X11_243) dX11_spell_30 ?_
    exact RT (-1000000) S1 _ _ _ _ h rfl hP hD hS dX11_spell_32
  · have h := it_f h c2
    refine lv_iload_n hx hb dX11_spell_10 rfl (lv_at hl 2 rfl) ?_
    refine lv_iconst (v := 0) hx hb dX11_spell_11 (by decide) ?_
    refine lv_iconst (v := 2) hx hb dX11_spell_12 (by decide) ?_
    obtain ⟨u3, hc, h⟩ := bd_el h
    refine ct_iN X hP hD hS (va_runS (As := [.int x2, .int 0, .int 2]) (rest := []) ⟨hx, hb, hml, hown, hg⟩ (c_X11_within l E  H.size x2 0 2 u3 hc) (va_cwS 3 hg (gwS wm_X11_89 wst_X11_within wini_X11 wco_X11_within) rfl rfl rfl (by decide +kernel) ⟨Nat.le_of_ble_eq_true rfl, Nat.le_of_ble_eq_true rfl⟩) ⟨ct_blind, ct_preN X hS _⟩ rfl rfl hl.1 rfl (lv_room (Nat.le_of_ble_eq_true rfl)) dX11_spell_13 ⟨Nat.zero_le _, Nat.zero_le _⟩) (fun H locs hP hD hS => ?_)
    refine lv_if_eq (tgt := 30) hx hb dX11_spell_16 (by decide) (fun c4 => ?_) (fun c4 => ?_)
    · have h := it_t h c4
      refine lv_ldc hx hb hown (hg _ wcn_X11_243) dX11_spell_30 ?_
      exact RT (-1000000) S1 _ _ _ _ h rfl hP hD hS dX11_spell_32
    · have h := it_f h c4
      refine lv_aload_n hx hb dX11_spell_19 rfl (lv_at hl 0 rfl) ?_
      refine va_get (D := E.1) (ci := 10) (v := .ref (q1 0)) (C := RX11) (T := TX11) (N := 13) hx hb hg in_X11 hown X.1 hP 0 rfl rfl 0 (by decide) (hg _ wf_X11_10) (fun _ h9 => h9) rfl dX11_spell_20 ?_
      refine lv_iload_n hx hb dX11_spell_23 rfl (lv_at hl 1 rfl) ?_
      obtain ⟨u5, hc, h⟩ := bd_el h
      have hC : ([1, 2] : List Nat).map (fun i => (cw_X11 E q0 (q1 0) t1 t2 t3 t4 (q2 0) t6 t7 t8 t9 t10 t11 S0 ++ (cw_X8 E q1 S1 ++ (cw_X2 E q2 S2)))[i]?) = (cw_X8 E q1 S1).map some := rfl
      refine ct_iR X hP hD hS [1, 2] hC (va_runV (C := RX8) (As := [.int x1]) (rest := []) ⟨hx, hb, hml, hown, hg⟩ (c_X8_has l E q1 H.size S1 x1 u5 hc) (cwV 1 hg (gwV wm_X11_108 wi_X8_has wsl_X8_has wini_X8 wco_X8_has) rfl rfl rfl (by decide +kernel) ⟨Nat.le_of_ble_eq_true rfl, Nat.le_of_ble_eq_true rfl⟩) ⟨ct_blind, ct_rv X.1 hP 1 rfl rfl, ct_pre X hP hD hS [1, 2] (by decide) hC _⟩ rfl rfl hl.1 rfl (lv_room (Nat.le_of_ble_eq_true rfl)) dX11_spell_24 ⟨Nat.zero_le _, Nat.zero_le _⟩) (fun H locs hP hD hS => ?_)
      clear hC
      refine lv_if_ne (tgt := 33) hx hb dX11_spell_27 (by decide) (fun c6 => ?_) (fun c6 => ?_)
      · have h := it_f h c6
        refine lv_aload_n hx hb dX11_spell_33 rfl (lv_at hl 0 rfl) ?_
        refine va_get (D := E.1) (ci := 10) (v := .ref (q2 0)) (C := RX11) (T := TX11) (N := 13) hx hb hg in_X11 hown X.1 hP 0 rfl rfl 5 (by decide) (hg _ wf_X11_47) (fun _ h9 => h9) rfl dX11_spell_34 ?_
        refine lv_aload_n hx hb dX11_spell_37 rfl (lv_at hl 0 rfl) ?_
        refine va_get (D := E.1) (ci := 10) (v := .ref (q1 0)) (C := RX11) (T := TX11) (N := 13) hx hb hg in_X11 hown X.1 hP 0 rfl rfl 0 (by decide) (hg _ wf_X11_10) (fun _ h9 => h9) rfl dX11_spell_38 ?_
        refine lv_iload_n hx hb dX11_spell_41 rfl (lv_at hl 1 rfl) ?_
        refine lv_iload_n hx hb dX11_spell_42 rfl (lv_at hl 2 rfl) ?_
        obtain ⟨u7, hc, h⟩ := bd_el h
        have hC : ([3, 4, 5, 6, 7, 8, 9, 1, 2] : List Nat).map (fun i => (cw_X11 E q0 (q1 0) t1 t2 t3 t4 (q2 0) t6 t7 t8 t9 t10 t11 S0 ++ (cw_X8 E q1 S1 ++ (cw_X2 E q2 S2)))[i]?) = (cw_X2 E q2 S2 ++ (cw_X8 E q1 S1)).map some := rfl
        refine ct_iR X hP hD hS [3, 4, 5, 6, 7, 8, 9, 1, 2] hC (va_runV (C := RX2) (As := [.ref (q1 0), .int x1, .int x2]) (rest := []) ⟨hx, hb, hml, hown, hg⟩ (c_X2_worstSpell l E q2 q1 H.size S2 S1 x1 x2 u7 hc) (cwV 3 hg (gwV wm_X11_244 wi_X2_worstSpell wsl_X2_worstSpell wini_X2 wco_X2_worstSpell) rfl rfl rfl (by decide +kernel) ⟨Nat.le_of_ble_eq_true rfl, Nat.le_of_ble_eq_true rfl⟩) ⟨ct_blind, ct_rv X.1 hP 3 rfl rfl, ct_pre X hP hD hS [3, 4, 5, 6, 7, 8, 9, 1, 2] (by decide) hC _⟩ rfl rfl hl.1 rfl (lv_room (Nat.le_of_ble_eq_true rfl)) dX11_spell_43 ⟨Nat.zero_le _, Nat.zero_le _⟩) (fun H locs hP hD hS => ?_)
        clear hC
        refine lv_istore_n (lv' := [(3, .int u7), (0, .ref (q0 0)), (1, .int x1), (2, .int x2)]) hx hb dX11_spell_46 rfl hl (by decide) rfl (fun ls hl => ?_)
        refine lv_aload_n hx hb dX11_spell_47 rfl (lv_at hl 1 rfl) ?_
        refine va_get (D := E.1) (ci := 10) (v := .ref (q1 0)) (C := RX11) (T := TX11) (N := 13) hx hb hg in_X11 hown X.1 hP 0 rfl rfl 0 (by decide) (hg _ wf_X11_10) (fun _ h9 => h9) rfl dX11_spell_48 ?_
        obtain ⟨u8, hc, h⟩ := bd_el h
        have hC : ([1, 2] : List Nat).map (fun i => (cw_X11 E q0 (q1 0) t1 t2 t3 t4 (q2 0) t6 t7 t8 t9 t10 t11 S0 ++ (cw_X8 E q1 S1 ++ (cw_X2 E q2 S2)))[i]?) = (cw_X8 E q1 S1).map some := rfl
        refine ct_v (ws' := cw_X11 E q0 (q1 0) t1 t2 t3 t4 (q2 0) t6 t7 t8 t9 t10 t11 S0 ++ (cw_X8 E q1 u8 ++ (cw_X2 E q2 S2))) X hP hD hS [1, 2] (va_runV (C := RX8) (As := []) (rest := []) ⟨hx, hb, hml, hown, hg⟩ (c_X8_empty l E q1 H.size S1 u8 hc) (cwV 0 hg (gwV wm_X11_115 wi_X8_empty wsl_X8_empty wini_X8 wco_X8_empty) rfl rfl rfl (by decide +kernel) ⟨Nat.le_of_ble_eq_true rfl, Nat.le_of_ble_eq_true rfl⟩) ⟨ct_blind, ct_rv X.1 hP 1 rfl rfl, ct_pre X hP hD hS [1, 2] (by decide) hC _⟩ rfl rfl hl.1 rfl (lv_room (Nat.le_of_ble_eq_true rfl)) dX11_spell_51 ⟨Nat.zero_le _, Nat.zero_le _⟩) hC rfl rfl (fun H locs hP hD hS => ?_)
        clear hC
        refine lv_iload_n hx hb dX11_spell_54 rfl (lv_at hl 0 rfl) ?_
        exact RT u7 u8 _ _ _ _ h rfl hP hD hS dX11_spell_55
      · have h := it_t h c6
        refine lv_ldc hx hb hown (hg _ wcn_X11_243) dX11_spell_30 ?_
        exact RT (-1000000) S1 _ _ _ _ h rfl hP hD hS dX11_spell_32
theorem dX11_tension_0 : decode cX11_tension 0 = .ok (.aload_n 0, 1) := by decide +kernel
theorem dX11_tension_1 : decode cX11_tension 1 = .ok (.getfield 71, 3) := by decide +kernel
theorem dX11_tension_4 : decode cX11_tension 4 = .ok (.iload_n 1, 1) := by decide +kernel
theorem dX11_tension_5 : decode cX11_tension 5 = .ok (.invokevirtual 85, 3) := by decide +kernel
theorem dX11_tension_8 : decode cX11_tension 8 = .ok (.ifCond .eq 23, 3) := by decide +kernel
theorem dX11_tension_11 : decode cX11_tension 11 = .ok (.iload_n 2, 1) := by decide +kernel
theorem dX11_tension_12 : decode cX11_tension 12 = .ok (.iconst 0, 1) := by decide +kernel
theorem dX11_tension_13 : decode cX11_tension 13 = .ok (.bipush 7, 2) := by decide +kernel
theorem dX11_tension_15 : decode cX11_tension 15 = .ok (.invokestatic 89, 3) := by decide +kernel
theorem dX11_tension_18 : decode cX11_tension 18 = .ok (.ifCond .eq 13, 3) := by decide +kernel
theorem dX11_tension_21 : decode cX11_tension 21 = .ok (.iload_n 3, 1) := by decide +kernel
theorem dX11_tension_22 : decode cX11_tension 22 = .ok (.iconst 0, 1) := by decide +kernel
theorem dX11_tension_23 : decode cX11_tension 23 = .ok (.bipush 99, 2) := by decide +kernel
theorem dX11_tension_25 : decode cX11_tension 25 = .ok (.invokestatic 89, 3) := by decide +kernel
theorem dX11_tension_28 : decode cX11_tension 28 = .ok (.ifCond .ne 5, 3) := by decide +kernel
theorem dX11_tension_31 : decode cX11_tension 31 = .ok (.iconst 0, 1) := by decide +kernel
theorem dX11_tension_32 : decode cX11_tension 32 = .ok (.ireturn, 1) := by decide +kernel
theorem dX11_tension_33 : decode cX11_tension 33 = .ok (.aload_n 0, 1) := by decide +kernel
theorem dX11_tension_34 : decode cX11_tension 34 = .ok (.getfield 71, 3) := by decide +kernel
theorem dX11_tension_37 : decode cX11_tension 37 = .ok (.getfield 93, 3) := by decide +kernel
theorem dX11_tension_40 : decode cX11_tension 40 = .ok (.iload_n 1, 1) := by decide +kernel
theorem dX11_tension_41 : decode cX11_tension 41 = .ok (.bipush 8, 2) := by decide +kernel
theorem dX11_tension_43 : decode cX11_tension 43 = .ok (.imul, 1) := by decide +kernel
theorem dX11_tension_44 : decode cX11_tension 44 = .ok (.iload_n 2, 1) := by decide +kernel
theorem dX11_tension_45 : decode cX11_tension 45 = .ok (.iadd, 1) := by decide +kernel
theorem dX11_tension_46 : decode cX11_tension 46 = .ok (.iload_n 3, 1) := by decide +kernel
theorem dX11_tension_47 : decode cX11_tension 47 = .ok (.iastore, 1) := by decide +kernel
theorem dX11_tension_48 : decode cX11_tension 48 = .ok (.iconst 1, 1) := by decide +kernel
theorem dX11_tension_49 : decode cX11_tension 49 = .ok (.ireturn, 1) := by decide +kernel
def f_X11_tension (S0 : Gr) (S1 : Gr) (x1 : Int32) (x2 : Int32) (x3 : Int32) : Option (Int32 × Gr) := (f_X7_hasWeb S1 x1).bind fun u1 => if u1 = 0 then (some (0, S1)) else ((f_X11_within x2 0 7).bind fun u3 => if u3 = 0 then (some (0, S1)) else ((f_X11_within x3 0 99).bind fun u5 => if u5 = 0 then (some (0, S1)) else (ck' 64 ((x1 * 8) + x2) (lt' (sA S1 4 (Int32.toNatClampNeg ((x1 * 8) + x2)) x3) fun S1_7 => some (1, S1_7)))))
set_option maxHeartbeats 4000000 in
set_option maxRecDepth 100000 in
theorem c_X11_tension (l : Launch) (E : Ec) (q0 q1 : Nat → Nat) (t0 t1 t2 t3 t4 t5 t6 t7 t8 t10 t11 : Nat) (sz : Nat) (S0 : Gr) (S1 : Gr) (x1 : Int32) (x2 : Int32) (x3 : Int32) (Rv : Int32 × Gr) (h : f_X11_tension S0 S1 x1 x2 x3 = some Rv) : Met l yX11_tension (wsM (.code yX11_tension cX11_tension 4 (some .boolean))) ({ frames := 1, cells := 0, slots := 0, locals := 22 } : Room) (va_Pc [.ref (q0 0), .int x1, .int x2, .int x3] (ctP E (cw_X11 E q0 t0 t1 t2 t3 t4 t5 t6 t7 t8 (q1 0) t10 t11 S0 ++ (cw_X7 E q1 S1)) sz)) (ctI E (cw_X11 E q0 t0 t1 t2 t3 t4 t5 t6 t7 t8 (q1 0) t10 t11 S0 ++ (cw_X7 E q1 S1)) (cw_X11 E q0 t0 t1 t2 t3 t4 t5 t6 t7 t8 (q1 0) t10 t11 S0 ++ (cw_X7 E q1 Rv.2)) sz Rv.1) 0 0 (va_A (cw_X11 E q0 t0 t1 t2 t3 t4 t5 t6 t7 t8 (q1 0) t10 t11 S0 ++ (cw_X7 E q1 S1)) sz) := by
  refine ct_metI (by decide) (Nat.le_of_ble_eq_true rfl) ?_
  intro p e s m ar below meth c A QM hx hb hml hown hg X hP hD hS RET ls hl
  have hown : s.vm.findClass RX11 = some m.cls := hown
  have hl : lv_has ls 4 [(0, .ref (q0 0)), (1, .int x1), (2, .int x2), (3, .int x3)] := hl
  have RT : ∀ (v : Int32) (S1 : Gr) (H : Heap) (locs : List Loc) (ls : Array Slot) (pc : Nat), some (v, S1) = some Rv → narrow .boolean (.int v) = .int v → va_P E.1 vwCl (cw_X11 E q0 t0 t1 t2 t3 t4 t5 t6 t7 t8 (q1 0) t10 t11 S0 ++ (cw_X7 E q1 S1)) H → va_D A (cw_X11 E q0 t0 t1 t2 t3 t4 t5 t6 t7 t8 (q1 0) t10 t11 S0 ++ (cw_X7 E q1 S1)) → va_S A s.heap H locs → decode cX11_tension pc = .ok (.ireturn, 1) → W p l e ({ frames := 1, cells := 0, slots := 0, locals := 22 } : Room) s m ar below meth c H locs 0 0 QM (F0 m pc ls [.int v]) := by
    intro v S1 H locs ls pc e hn hP hD hS d
    obtain rfl := sm_e e
    exact RET H locs pc ls hn hP hD hS d
  clear RET
  obtain ⟨H, eH⟩ : ∃ z, z = s.heap := ⟨_, rfl⟩
  rw [← eH]
  have hP : va_P E.1 vwCl (cw_X11 E q0 t0 t1 t2 t3 t4 t5 t6 t7 t8 (q1 0) t10 t11 S0 ++ (cw_X7 E q1 S1)) H := by rw [eH]; exact hP
  have hS : va_S A s.heap H [] := by rw [eH]; exact hS
  clear eH
  obtain ⟨locs, el⟩ : ∃ z : List Loc, z = [] := ⟨_, rfl⟩
  rw [← el] at hS ⊢
  clear el
  refine lv_aload_n hx hb dX11_tension_0 rfl (lv_at hl 0 rfl) ?_
  refine va_get (D := E.1) (ci := 10) (v := .ref (q1 0)) (C := RX11) (T := TX11) (N := 13) hx hb hg in_X11 hown X.1 hP 0 rfl rfl 9 (by decide) (hg _ wf_X11_71) (fun _ h9 => h9) rfl dX11_tension_1 ?_
  refine lv_iload_n hx hb dX11_tension_4 rfl (lv_at hl 1 rfl) ?_
  obtain ⟨u1, hc, h⟩ := bd_el h
  have hC : ([1, 2, 3, 4, 5, 6, 7, 8] : List Nat).map (fun i => (cw_X11 E q0 t0 t1 t2 t3 t4 t5 t6 t7 t8 (q1 0) t10 t11 S0 ++ (cw_X7 E q1 S1))[i]?) = (cw_X7 E q1 S1).map some := rfl
  refine ct_iR X hP hD hS [1, 2, 3, 4, 5, 6, 7, 8] hC (va_runV (C := RX7) (As := [.int x1]) (rest := []) ⟨hx, hb, hml, hown, hg⟩ (c_X7_hasWeb l E q1 H.size S1 x1 u1 hc) (cwV 1 hg (gwV wm_X11_85 wi_X7_hasWeb wsl_X7_hasWeb wini_X7 wco_X7_hasWeb) rfl rfl rfl (by decide +kernel) ⟨Nat.le_of_ble_eq_true rfl, Nat.le_of_ble_eq_true rfl⟩) ⟨ct_blind, ct_rv X.1 hP 1 rfl rfl, ct_pre X hP hD hS [1, 2, 3, 4, 5, 6, 7, 8] (by decide) hC _⟩ rfl rfl hl.1 rfl (lv_room (Nat.le_of_ble_eq_true rfl)) dX11_tension_5 ⟨Nat.zero_le _, Nat.zero_le _⟩) (fun H locs hP hD hS => ?_)
  clear hC
  refine lv_if_eq (tgt := 31) hx hb dX11_tension_8 (by decide) (fun c2 => ?_) (fun c2 => ?_)
  · have h := it_t h c2
    refine lv_iconst (v := 0) hx hb dX11_tension_31 (by decide) ?_
    exact RT 0 S1 _ _ _ _ h (by decide +kernel) hP hD hS dX11_tension_32
  · have h := it_f h c2
    refine lv_iload_n hx hb dX11_tension_11 rfl (lv_at hl 2 rfl) ?_
    refine lv_iconst (v := 0) hx hb dX11_tension_12 (by decide) ?_
    refine lv_bipush (v := 7) hx hb dX11_tension_13 (by decide) ?_
    obtain ⟨u3, hc, h⟩ := bd_el h
    refine ct_iN X hP hD hS (va_runS (As := [.int x2, .int 0, .int 7]) (rest := []) ⟨hx, hb, hml, hown, hg⟩ (c_X11_within l E  H.size x2 0 7 u3 hc) (va_cwS 3 hg (gwS wm_X11_89 wst_X11_within wini_X11 wco_X11_within) rfl rfl rfl (by decide +kernel) ⟨Nat.le_of_ble_eq_true rfl, Nat.le_of_ble_eq_true rfl⟩) ⟨ct_blind, ct_preN X hS _⟩ rfl rfl hl.1 rfl (lv_room (Nat.le_of_ble_eq_true rfl)) dX11_tension_15 ⟨Nat.zero_le _, Nat.zero_le _⟩) (fun H locs hP hD hS => ?_)
    refine lv_if_eq (tgt := 31) hx hb dX11_tension_18 (by decide) (fun c4 => ?_) (fun c4 => ?_)
    · have h := it_t h c4
      refine lv_iconst (v := 0) hx hb dX11_tension_31 (by decide) ?_
      exact RT 0 S1 _ _ _ _ h (by decide +kernel) hP hD hS dX11_tension_32
    · have h := it_f h c4
      refine lv_iload_n hx hb dX11_tension_21 rfl (lv_at hl 3 rfl) ?_
      refine lv_iconst (v := 0) hx hb dX11_tension_22 (by decide) ?_
      refine lv_bipush (v := 99) hx hb dX11_tension_23 (by decide) ?_
      obtain ⟨u5, hc, h⟩ := bd_el h
      refine ct_iN X hP hD hS (va_runS (As := [.int x3, .int 0, .int 99]) (rest := []) ⟨hx, hb, hml, hown, hg⟩ (c_X11_within l E  H.size x3 0 99 u5 hc) (va_cwS 3 hg (gwS wm_X11_89 wst_X11_within wini_X11 wco_X11_within) rfl rfl rfl (by decide +kernel) ⟨Nat.le_of_ble_eq_true rfl, Nat.le_of_ble_eq_true rfl⟩) ⟨ct_blind, ct_preN X hS _⟩ rfl rfl hl.1 rfl (lv_room (Nat.le_of_ble_eq_true rfl)) dX11_tension_25 ⟨Nat.zero_le _, Nat.zero_le _⟩) (fun H locs hP hD hS => ?_)
      refine lv_if_ne (tgt := 33) hx hb dX11_tension_28 (by decide) (fun c6 => ?_) (fun c6 => ?_)
      · have h := it_f h c6
        refine lv_aload_n hx hb dX11_tension_33 rfl (lv_at hl 0 rfl) ?_
        refine va_get (D := E.1) (ci := 10) (v := .ref (q1 0)) (C := RX11) (T := TX11) (N := 13) hx hb hg in_X11 hown X.1 hP 0 rfl rfl 9 (by decide) (hg _ wf_X11_71) (fun _ h9 => h9) rfl dX11_tension_34 ?_
        refine va_getN (D := E.1) (ci := 6) (v := .ref (q1 3)) (C := RX7) (T := TX7) (N := 11) hx hb hg in_X7 hown X.1 hP 1 rfl rfl 4 (by decide) (va_Nw.use rfl (nf_X11_93 X.2.1)) (fun _ h9 => h9) rfl dX11_tension_37 ?_
        refine lv_iload_n hx hb dX11_tension_40 rfl (lv_at hl 1 rfl) ?_
        refine lv_bipush (v := 8) hx hb dX11_tension_41 (by decide) ?_
        refine lv_imul hx hb dX11_tension_43 ?_
        refine lv_iload_n hx hb dX11_tension_44 rfl (lv_at hl 2 rfl) ?_
        refine lv_iadd hx hb dX11_tension_45 ?_
        refine lv_iload_n hx hb dX11_tension_46 rfl (lv_at hl 3 rfl) ?_
        obtain ⟨hi, h⟩ := ck_el h
        obtain ⟨S1_7, eS, h⟩ := lt_el h
        refine va_iast hx hb X.1 hP hD hS 4 0 rfl rfl hi dX11_tension_47 (fun H locs hP hD hS => ?_)
        have hP : va_P E.1 vwCl (cw_X11 E q0 t0 t1 t2 t3 t4 t5 t6 t7 t8 (q1 0) t10 t11 S0 ++ (cw_X7 E q1 S1_7)) H := by rw [eS]; exact hP
        have hD : va_D A (cw_X11 E q0 t0 t1 t2 t3 t4 t5 t6 t7 t8 (q1 0) t10 t11 S0 ++ (cw_X7 E q1 S1_7)) := by rw [eS]; exact hD
        clear eS
        refine lv_iconst (v := 1) hx hb dX11_tension_48 (by decide) ?_
        exact RT 1 S1_7 _ _ _ _ h (by decide +kernel) hP hD hS dX11_tension_49
      · have h := it_t h c6
        refine lv_iconst (v := 0) hx hb dX11_tension_31 (by decide) ?_
        exact RT 0 S1 _ _ _ _ h (by decide +kernel) hP hD hS dX11_tension_32
theorem dX11_undo_0 : decode cX11_undo 0 = .ok (.aload_n 0, 1) := by decide +kernel
theorem dX11_undo_1 : decode cX11_undo 1 = .ok (.getfield 81, 3) := by decide +kernel
theorem dX11_undo_4 : decode cX11_undo 4 = .ok (.ifCond .ne 5, 3) := by decide +kernel
theorem dX11_undo_7 : decode cX11_undo 7 = .ok (.iconst 0, 1) := by decide +kernel
theorem dX11_undo_8 : decode cX11_undo 8 = .ok (.ireturn, 1) := by decide +kernel
theorem dX11_undo_9 : decode cX11_undo 9 = .ok (.aload_n 0, 1) := by decide +kernel
theorem dX11_undo_10 : decode cX11_undo 10 = .ok (.getfield 71, 3) := by decide +kernel
theorem dX11_undo_13 : decode cX11_undo 13 = .ok (.aload_n 0, 1) := by decide +kernel
theorem dX11_undo_14 : decode cX11_undo 14 = .ok (.getfield 78, 3) := by decide +kernel
theorem dX11_undo_17 : decode cX11_undo 17 = .ok (.invokevirtual 254, 3) := by decide +kernel
theorem dX11_undo_20 : decode cX11_undo 20 = .ok (.iconst 1, 1) := by decide +kernel
theorem dX11_undo_21 : decode cX11_undo 21 = .ok (.ireturn, 1) := by decide +kernel
def f_X11_undo (S0 : Gr) (S1 : Gr) (S2 : Gr) : Option (Int32 × Gr) := if (S0.1 12) = 0 then (some (0, S1)) else ((f_X7_takeBack S1 S2).bind fun u2 => some (1, u2))
set_option maxHeartbeats 4000000 in
set_option maxRecDepth 100000 in
theorem c_X11_undo (l : Launch) (E : Ec) (q0 q1 q2 : Nat → Nat) (t0 t1 t2 t3 t4 t5 t6 t7 t8 t10 : Nat) (sz : Nat) (S0 : Gr) (S1 : Gr) (S2 : Gr) (Rv : Int32 × Gr) (h : f_X11_undo S0 S1 S2 = some Rv) : Met l yX11_undo (wsM (.code yX11_undo cX11_undo 1 (some .boolean))) ({ frames := 2, cells := 0, slots := 0, locals := 82 } : Room) (va_Pc [.ref (q0 0)] (ctP E (cw_X11 E q0 t0 t1 t2 t3 t4 t5 t6 t7 t8 (q1 0) t10 (q2 0) S0 ++ (cw_X7 E q1 S1 ++ (cw_X7 E q2 S2))) sz)) (ctI E (cw_X11 E q0 t0 t1 t2 t3 t4 t5 t6 t7 t8 (q1 0) t10 (q2 0) S0 ++ (cw_X7 E q1 S1 ++ (cw_X7 E q2 S2))) (cw_X11 E q0 t0 t1 t2 t3 t4 t5 t6 t7 t8 (q1 0) t10 (q2 0) S0 ++ (cw_X7 E q1 Rv.2 ++ (cw_X7 E q2 S2))) sz Rv.1) 0 0 (va_A (cw_X11 E q0 t0 t1 t2 t3 t4 t5 t6 t7 t8 (q1 0) t10 (q2 0) S0 ++ (cw_X7 E q1 S1 ++ (cw_X7 E q2 S2))) sz) := by
  refine ct_metI (by decide) (Nat.le_of_ble_eq_true rfl) ?_
  intro p e s m ar below meth c A QM hx hb hml hown hg X hP hD hS RET ls hl
  have hown : s.vm.findClass RX11 = some m.cls := hown
  have hl : lv_has ls 1 [(0, .ref (q0 0))] := hl
  have RT : ∀ (v : Int32) (S1 : Gr) (H : Heap) (locs : List Loc) (ls : Array Slot) (pc : Nat), some (v, S1) = some Rv → narrow .boolean (.int v) = .int v → va_P E.1 vwCl (cw_X11 E q0 t0 t1 t2 t3 t4 t5 t6 t7 t8 (q1 0) t10 (q2 0) S0 ++ (cw_X7 E q1 S1 ++ (cw_X7 E q2 S2))) H → va_D A (cw_X11 E q0 t0 t1 t2 t3 t4 t5 t6 t7 t8 (q1 0) t10 (q2 0) S0 ++ (cw_X7 E q1 S1 ++ (cw_X7 E q2 S2))) → va_S A s.heap H locs → decode cX11_undo pc = .ok (.ireturn, 1) → W p l e ({ frames := 2, cells := 0, slots := 0, locals := 82 } : Room) s m ar below meth c H locs 0 0 QM (F0 m pc ls [.int v]) := by
    intro v S1 H locs ls pc e hn hP hD hS d
    obtain rfl := sm_e e
    exact RET H locs pc ls hn hP hD hS d
  clear RET
  obtain ⟨H, eH⟩ : ∃ z, z = s.heap := ⟨_, rfl⟩
  rw [← eH]
  have hP : va_P E.1 vwCl (cw_X11 E q0 t0 t1 t2 t3 t4 t5 t6 t7 t8 (q1 0) t10 (q2 0) S0 ++ (cw_X7 E q1 S1 ++ (cw_X7 E q2 S2))) H := by rw [eH]; exact hP
  have hS : va_S A s.heap H [] := by rw [eH]; exact hS
  clear eH
  obtain ⟨locs, el⟩ : ∃ z : List Loc, z = [] := ⟨_, rfl⟩
  rw [← el] at hS ⊢
  clear el
  refine lv_aload_n hx hb dX11_undo_0 rfl (lv_at hl 0 rfl) ?_
  refine va_get (D := E.1) (ci := 10) (v := .int (S0.1 12)) (C := RX11) (T := TX11) (N := 13) hx hb hg in_X11 hown X.1 hP 0 rfl rfl 12 (by decide) (hg _ wf_X11_81) (fun _ h9 => h9) rfl dX11_undo_1 ?_
  refine lv_if_ne (tgt := 9) hx hb dX11_undo_4 (by decide) (fun c1 => ?_) (fun c1 => ?_)
  · have h := it_f h c1
    refine lv_aload_n hx hb dX11_undo_9 rfl (lv_at hl 0 rfl) ?_
    refine va_get (D := E.1) (ci := 10) (v := .ref (q1 0)) (C := RX11) (T := TX11) (N := 13) hx hb hg in_X11 hown X.1 hP 0 rfl rfl 9 (by decide) (hg _ wf_X11_71) (fun _ h9 => h9) rfl dX11_undo_10 ?_
    refine lv_aload_n hx hb dX11_undo_13 rfl (lv_at hl 0 rfl) ?_
    refine va_get (D := E.1) (ci := 10) (v := .ref (q2 0)) (C := RX11) (T := TX11) (N := 13) hx hb hg in_X11 hown X.1 hP 0 rfl rfl 11 (by decide) (hg _ wf_X11_78) (fun _ h9 => h9) rfl dX11_undo_14 ?_
    obtain ⟨u2, hc, h⟩ := bd_el h
    have hC : ([1, 2, 3, 4, 5, 6, 7, 8, 9, 10, 11, 12, 13, 14, 15, 16] : List Nat).map (fun i => (cw_X11 E q0 t0 t1 t2 t3 t4 t5 t6 t7 t8 (q1 0) t10 (q2 0) S0 ++ (cw_X7 E q1 S1 ++ (cw_X7 E q2 S2)))[i]?) = (cw_X7 E q1 S1 ++ (cw_X7 E q2 S2)).map some := rfl
    refine ct_v (ws' := cw_X11 E q0 t0 t1 t2 t3 t4 t5 t6 t7 t8 (q1 0) t10 (q2 0) S0 ++ (cw_X7 E q1 u2 ++ (cw_X7 E q2 S2))) X hP hD hS [1, 2, 3, 4, 5, 6, 7, 8, 9, 10, 11, 12, 13, 14, 15, 16] (va_runV (C := RX7) (As := [.ref (q2 0)]) (rest := []) ⟨hx, hb, hml, hown, hg⟩ (c_X7_takeBack l E q1 q2 H.size S1 S2 u2 hc) (cwV 1 hg (gwV wm_X11_254 wi_X7_takeBack wsl_X7_takeBack wini_X7 wco_X7_takeBack) rfl rfl rfl (by decide +kernel) ⟨Nat.le_of_ble_eq_true rfl, Nat.le_of_ble_eq_true rfl⟩) ⟨ct_blind, ct_rv X.1 hP 1 rfl rfl, ct_pre X hP hD hS [1, 2, 3, 4, 5, 6, 7, 8, 9, 10, 11, 12, 13, 14, 15, 16] (by decide) hC _⟩ rfl rfl hl.1 rfl (lv_room (Nat.le_of_ble_eq_true rfl)) dX11_undo_17 ⟨Nat.zero_le _, Nat.zero_le _⟩) hC rfl rfl (fun H locs hP hD hS => ?_)
    clear hC
    refine lv_iconst (v := 1) hx hb dX11_undo_20 (by decide) ?_
    exact RT 1 u2 _ _ _ _ h (by decide +kernel) hP hD hS dX11_undo_21
  · have h := it_t h c1
    refine lv_iconst (v := 0) hx hb dX11_undo_7 (by decide) ?_
    exact RT 0 S1 _ _ _ _ h (by decide +kernel) hP hD hS dX11_undo_8
theorem dX11_webIs_0 : decode cX11_webIs 0 = .ok (.aload_n 0, 1) := by decide +kernel
theorem dX11_webIs_1 : decode cX11_webIs 1 = .ok (.getfield 71, 3) := by decide +kernel
theorem dX11_webIs_4 : decode cX11_webIs 4 = .ok (.iload_n 1, 1) := by decide +kernel
theorem dX11_webIs_5 : decode cX11_webIs 5 = .ok (.invokevirtual 85, 3) := by decide +kernel
theorem dX11_webIs_8 : decode cX11_webIs 8 = .ok (.ifCond .ne 5, 3) := by decide +kernel
theorem dX11_webIs_11 : decode cX11_webIs 11 = .ok (.iconst (-1), 1) := by decide +kernel
theorem dX11_webIs_12 : decode cX11_webIs 12 = .ok (.ireturn, 1) := by decide +kernel
theorem dX11_webIs_13 : decode cX11_webIs 13 = .ok (.iload_n 2, 1) := by decide +kernel
theorem dX11_webIs_14 : decode cX11_webIs 14 = .ok (.iconst 0, 1) := by decide +kernel
theorem dX11_webIs_15 : decode cX11_webIs 15 = .ok (.bipush 7, 2) := by decide +kernel
theorem dX11_webIs_17 : decode cX11_webIs 17 = .ok (.invokestatic 89, 3) := by decide +kernel
theorem dX11_webIs_20 : decode cX11_webIs 20 = .ok (.ifCond .eq 18, 3) := by decide +kernel
theorem dX11_webIs_23 : decode cX11_webIs 23 = .ok (.aload_n 0, 1) := by decide +kernel
theorem dX11_webIs_24 : decode cX11_webIs 24 = .ok (.getfield 71, 3) := by decide +kernel
theorem dX11_webIs_27 : decode cX11_webIs 27 = .ok (.getfield 93, 3) := by decide +kernel
theorem dX11_webIs_30 : decode cX11_webIs 30 = .ok (.iload_n 1, 1) := by decide +kernel
theorem dX11_webIs_31 : decode cX11_webIs 31 = .ok (.bipush 8, 2) := by decide +kernel
theorem dX11_webIs_33 : decode cX11_webIs 33 = .ok (.imul, 1) := by decide +kernel
theorem dX11_webIs_34 : decode cX11_webIs 34 = .ok (.iload_n 2, 1) := by decide +kernel
theorem dX11_webIs_35 : decode cX11_webIs 35 = .ok (.iadd, 1) := by decide +kernel
theorem dX11_webIs_36 : decode cX11_webIs 36 = .ok (.iaload, 1) := by decide +kernel
theorem dX11_webIs_37 : decode cX11_webIs 37 = .ok (.ireturn, 1) := by decide +kernel
theorem dX11_webIs_38 : decode cX11_webIs 38 = .ok (.iload_n 2, 1) := by decide +kernel
theorem dX11_webIs_39 : decode cX11_webIs 39 = .ok (.bipush 10, 2) := by decide +kernel
theorem dX11_webIs_41 : decode cX11_webIs 41 = .ok (.if_icmp .ne 25, 3) := by decide +kernel
theorem dX11_webIs_44 : decode cX11_webIs 44 = .ok (.aload_n 0, 1) := by decide +kernel
theorem dX11_webIs_45 : decode cX11_webIs 45 = .ok (.getfield 71, 3) := by decide +kernel
theorem dX11_webIs_48 : decode cX11_webIs 48 = .ok (.getfield 155, 3) := by decide +kernel
theorem dX11_webIs_51 : decode cX11_webIs 51 = .ok (.iload_n 1, 1) := by decide +kernel
theorem dX11_webIs_52 : decode cX11_webIs 52 = .ok (.iaload, 1) := by decide +kernel
theorem dX11_webIs_53 : decode cX11_webIs 53 = .ok (.aload_n 0, 1) := by decide +kernel
theorem dX11_webIs_54 : decode cX11_webIs 54 = .ok (.getfield 71, 3) := by decide +kernel
theorem dX11_webIs_57 : decode cX11_webIs 57 = .ok (.getfield 158, 3) := by decide +kernel
theorem dX11_webIs_60 : decode cX11_webIs 60 = .ok (.iload_n 1, 1) := by decide +kernel
theorem dX11_webIs_61 : decode cX11_webIs 61 = .ok (.iaload, 1) := by decide +kernel
theorem dX11_webIs_62 : decode cX11_webIs 62 = .ok (.invokestatic 161, 3) := by decide +kernel
theorem dX11_webIs_65 : decode cX11_webIs 65 = .ok (.ireturn, 1) := by decide +kernel
theorem dX11_webIs_66 : decode cX11_webIs 66 = .ok (.iload_n 2, 1) := by decide +kernel
theorem dX11_webIs_67 : decode cX11_webIs 67 = .ok (.bipush 11, 2) := by decide +kernel
theorem dX11_webIs_69 : decode cX11_webIs 69 = .ok (.if_icmp .ne 14, 3) := by decide +kernel
theorem dX11_webIs_72 : decode cX11_webIs 72 = .ok (.aload_n 0, 1) := by decide +kernel
theorem dX11_webIs_73 : decode cX11_webIs 73 = .ok (.getfield 71, 3) := by decide +kernel
theorem dX11_webIs_76 : decode cX11_webIs 76 = .ok (.iload_n 1, 1) := by decide +kernel
theorem dX11_webIs_77 : decode cX11_webIs 77 = .ok (.invokevirtual 167, 3) := by decide +kernel
theorem dX11_webIs_80 : decode cX11_webIs 80 = .ok (.goto 4, 3) := by decide +kernel
theorem dX11_webIs_83 : decode cX11_webIs 83 = .ok (.iconst (-1), 1) := by decide +kernel
theorem dX11_webIs_84 : decode cX11_webIs 84 = .ok (.ireturn, 1) := by decide +kernel
def f_X11_webIs (S0 : Gr) (S1 : Gr) (x1 : Int32) (x2 : Int32) : Option (Int32) := (f_X7_hasWeb S1 x1).bind fun u1 => if u1 = 0 then (some (-1)) else ((f_X11_within x2 0 7).bind fun u3 => if u3 = 0 then (if x2 = 10 then (rd' (S1.2 2) 8 x1 fun v8 => rd' (S1.2 3) 8 x1 fun v9 => (f_X1_place v8 v9).bind fun u10 => some u10) else (if x2 = 11 then ((f_X7_slackBits S1 x1).bind fun u7 => some u7) else (some (-1)))) else (rd' (S1.2 4) 64 ((x1 * 8) + x2) fun v11 => some v11))
set_option maxHeartbeats 4000000 in
set_option maxRecDepth 100000 in
theorem c_X11_webIs (l : Launch) (E : Ec) (q0 q1 : Nat → Nat) (t0 t1 t2 t3 t4 t5 t6 t7 t8 t10 t11 : Nat) (sz : Nat) (S0 : Gr) (S1 : Gr) (x1 : Int32) (x2 : Int32) (Rv : Int32) (h : f_X11_webIs S0 S1 x1 x2 = some Rv) : Met l yX11_webIs (wsM (.code yX11_webIs cX11_webIs 3 (some .int))) ({ frames := 2, cells := 0, slots := 0, locals := 44 } : Room) (va_Pc [.ref (q0 0), .int x1, .int x2] (ctP E (cw_X11 E q0 t0 t1 t2 t3 t4 t5 t6 t7 t8 (q1 0) t10 t11 S0 ++ (cw_X7 E q1 S1)) sz)) (ctI E (cw_X11 E q0 t0 t1 t2 t3 t4 t5 t6 t7 t8 (q1 0) t10 t11 S0 ++ (cw_X7 E q1 S1)) (cw_X11 E q0 t0 t1 t2 t3 t4 t5 t6 t7 t8 (q1 0) t10 t11 S0 ++ (cw_X7 E q1 S1)) sz Rv) 0 0 (va_A (cw_X11 E q0 t0 t1 t2 t3 t4 t5 t6 t7 t8 (q1 0) t10 t11 S0 ++ (cw_X7 E q1 S1)) sz) := by
  refine ct_metI (by decide) (Nat.le_of_ble_eq_true rfl) ?_
  intro p e s m ar below meth c A QM hx hb hml hown hg X hP hD hS RET ls hl
  have hown : s.vm.findClass RX11 = some m.cls := hown
  have hl : lv_has ls 3 [(0, .ref (q0 0)), (1, .int x1), (2, .int x2)] := hl
  have RT : ∀ (v : Int32) (H : Heap) (locs : List Loc) (ls : Array Slot) (pc : Nat), some v = some Rv → narrow .int (.int v) = .int v → va_P E.1 vwCl (cw_X11 E q0 t0 t1 t2 t3 t4 t5 t6 t7 t8 (q1 0) t10 t11 S0 ++ (cw_X7 E q1 S1)) H → va_D A (cw_X11 E q0 t0 t1 t2 t3 t4 t5 t6 t7 t8 (q1 0) t10 t11 S0 ++ (cw_X7 E q1 S1)) → va_S A s.heap H locs → decode cX11_webIs pc = .ok (.ireturn, 1) → W p l e ({ frames := 2, cells := 0, slots := 0, locals := 44 } : Room) s m ar below meth c H locs 0 0 QM (F0 m pc ls [.int v]) := by
    intro v H locs ls pc e hn hP hD hS d
    obtain rfl := sm_e e
    exact RET H locs pc ls hn hP hD hS d
  clear RET
  obtain ⟨H, eH⟩ : ∃ z, z = s.heap := ⟨_, rfl⟩
  rw [← eH]
  have hP : va_P E.1 vwCl (cw_X11 E q0 t0 t1 t2 t3 t4 t5 t6 t7 t8 (q1 0) t10 t11 S0 ++ (cw_X7 E q1 S1)) H := by rw [eH]; exact hP
  have hS : va_S A s.heap H [] := by rw [eH]; exact hS
  clear eH
  obtain ⟨locs, el⟩ : ∃ z : List Loc, z = [] := ⟨_, rfl⟩
  rw [← el] at hS ⊢
  clear el
  refine lv_aload_n hx hb dX11_webIs_0 rfl (lv_at hl 0 rfl) ?_
  refine va_get (D := E.1) (ci := 10) (v := .ref (q1 0)) (C := RX11) (T := TX11) (N := 13) hx hb hg in_X11 hown X.1 hP 0 rfl rfl 9 (by decide) (hg _ wf_X11_71) (fun _ h9 => h9) rfl dX11_webIs_1 ?_
  refine lv_iload_n hx hb dX11_webIs_4 rfl (lv_at hl 1 rfl) ?_
  obtain ⟨u1, hc, h⟩ := bd_el h
  have hC : ([1, 2, 3, 4, 5, 6, 7, 8] : List Nat).map (fun i => (cw_X11 E q0 t0 t1 t2 t3 t4 t5 t6 t7 t8 (q1 0) t10 t11 S0 ++ (cw_X7 E q1 S1))[i]?) = (cw_X7 E q1 S1).map some := rfl
  refine ct_iR X hP hD hS [1, 2, 3, 4, 5, 6, 7, 8] hC (va_runV (C := RX7) (As := [.int x1]) (rest := []) ⟨hx, hb, hml, hown, hg⟩ (c_X7_hasWeb l E q1 H.size S1 x1 u1 hc) (cwV 1 hg (gwV wm_X11_85 wi_X7_hasWeb wsl_X7_hasWeb wini_X7 wco_X7_hasWeb) rfl rfl rfl (by decide +kernel) ⟨Nat.le_of_ble_eq_true rfl, Nat.le_of_ble_eq_true rfl⟩) ⟨ct_blind, ct_rv X.1 hP 1 rfl rfl, ct_pre X hP hD hS [1, 2, 3, 4, 5, 6, 7, 8] (by decide) hC _⟩ rfl rfl hl.1 rfl (lv_room (Nat.le_of_ble_eq_true rfl)) dX11_webIs_5 ⟨Nat.zero_le _, Nat.zero_le _⟩) (fun H locs hP hD hS => ?_)
  clear hC
  refine lv_if_ne (tgt := 13) hx hb dX11_webIs_8 (by decide) (fun c2 => ?_) (fun c2 => ?_)
  · have h := it_f h c2
    refine lv_iload_n hx hb dX11_webIs_13 rfl (lv_at hl 2 rfl) ?_
    refine lv_iconst (v := 0) hx hb dX11_webIs_14 (by decide) ?_
    refine lv_bipush (v := 7) hx hb dX11_webIs_15 (by decide) ?_
    obtain ⟨u3, hc, h⟩ := bd_el h
    refine ct_iN X hP hD hS (va_runS (As := [.int x2, .int 0, .int 7]) (rest := []) ⟨hx, hb, hml, hown, hg⟩ (c_X11_within l E  H.size x2 0 7 u3 hc) (va_cwS 3 hg (gwS wm_X11_89 wst_X11_within wini_X11 wco_X11_within) rfl rfl rfl (by decide +kernel) ⟨Nat.le_of_ble_eq_true rfl, Nat.le_of_ble_eq_true rfl⟩) ⟨ct_blind, ct_preN X hS _⟩ rfl rfl hl.1 rfl (lv_room (Nat.le_of_ble_eq_true rfl)) dX11_webIs_17 ⟨Nat.zero_le _, Nat.zero_le _⟩) (fun H locs hP hD hS => ?_)
    refine lv_if_eq (tgt := 38) hx hb dX11_webIs_20 (by decide) (fun c4 => ?_) (fun c4 => ?_)
    · have h := it_t h c4
      refine lv_iload_n hx hb dX11_webIs_38 rfl (lv_at hl 2 rfl) ?_
      refine lv_bipush (v := 10) hx hb dX11_webIs_39 (by decide) ?_
      refine lv_icmp_ne (tgt := 66) hx hb dX11_webIs_41 (by decide) (fun c5 => ?_) (fun c5 => ?_)
      · have h := it_f h c5
        refine lv_iload_n hx hb dX11_webIs_66 rfl (lv_at hl 2 rfl) ?_
        refine lv_bipush (v := 11) hx hb dX11_webIs_67 (by decide) ?_
        refine lv_icmp_ne (tgt := 83) hx hb dX11_webIs_69 (by decide) (fun c6 => ?_) (fun c6 => ?_)
        · have h := it_f h c6
          refine lv_iconst (v := (-1)) hx hb dX11_webIs_83 (by decide) ?_
          exact RT (-1) _ _ _ _ h rfl hP hD hS dX11_webIs_84
        · have h := it_t h c6
          refine lv_aload_n hx hb dX11_webIs_72 rfl (lv_at hl 0 rfl) ?_
          refine va_get (D := E.1) (ci := 10) (v := .ref (q1 0)) (C := RX11) (T := TX11) (N := 13) hx hb hg in_X11 hown X.1 hP 0 rfl rfl 9 (by decide) (hg _ wf_X11_71) (fun _ h9 => h9) rfl dX11_webIs_73 ?_
          refine lv_iload_n hx hb dX11_webIs_76 rfl (lv_at hl 1 rfl) ?_
          obtain ⟨u7, hc, h⟩ := bd_el h
          have hC : ([1, 2, 3, 4, 5, 6, 7, 8] : List Nat).map (fun i => (cw_X11 E q0 t0 t1 t2 t3 t4 t5 t6 t7 t8 (q1 0) t10 t11 S0 ++ (cw_X7 E q1 S1))[i]?) = (cw_X7 E q1 S1).map some := rfl
          refine ct_iR X hP hD hS [1, 2, 3, 4, 5, 6, 7, 8] hC (va_runV (C := RX7) (As := [.int x1]) (rest := []) ⟨hx, hb, hml, hown, hg⟩ (c_X7_slackBits l E q1 H.size S1 x1 u7 hc) (cwV 1 hg (gwV wm_X11_167 wi_X7_slackBits wsl_X7_slackBits wini_X7 wco_X7_slackBits) rfl rfl rfl (by decide +kernel) ⟨Nat.le_of_ble_eq_true rfl, Nat.le_of_ble_eq_true rfl⟩) ⟨ct_blind, ct_rv X.1 hP 1 rfl rfl, ct_pre X hP hD hS [1, 2, 3, 4, 5, 6, 7, 8] (by decide) hC _⟩ rfl rfl hl.1 rfl (lv_room (Nat.le_of_ble_eq_true rfl)) dX11_webIs_77 ⟨Nat.zero_le _, Nat.zero_le _⟩) (fun H locs hP hD hS => ?_)
          clear hC
          refine lv_goto (tgt := 84) hx hb dX11_webIs_80 (by decide) ?_
          exact RT u7 _ _ _ _ h rfl hP hD hS dX11_webIs_84
      · have h := it_t h c5
        refine lv_aload_n hx hb dX11_webIs_44 rfl (lv_at hl 0 rfl) ?_
        refine va_get (D := E.1) (ci := 10) (v := .ref (q1 0)) (C := RX11) (T := TX11) (N := 13) hx hb hg in_X11 hown X.1 hP 0 rfl rfl 9 (by decide) (hg _ wf_X11_71) (fun _ h9 => h9) rfl dX11_webIs_45 ?_
        refine va_getN (D := E.1) (ci := 6) (v := .ref (q1 1)) (C := RX7) (T := TX7) (N := 11) hx hb hg in_X7 hown X.1 hP 1 rfl rfl 2 (by decide) (va_Nw.use rfl (nf_X11_155 X.2.1)) (fun _ h9 => h9) rfl dX11_webIs_48 ?_
        refine lv_iload_n hx hb dX11_webIs_51 rfl (lv_at hl 1 rfl) ?_
        obtain ⟨hi, v8, ev8, h⟩ := rd_el h
        refine va_iald hx hb X.1 hP 2 0 rfl rfl hi dX11_webIs_52 ?_
        refine lv_top' ev8 ?_
        refine lv_aload_n hx hb dX11_webIs_53 rfl (lv_at hl 0 rfl) ?_
        refine va_get (D := E.1) (ci := 10) (v := .ref (q1 0)) (C := RX11) (T := TX11) (N := 13) hx hb hg in_X11 hown X.1 hP 0 rfl rfl 9 (by decide) (hg _ wf_X11_71) (fun _ h9 => h9) rfl dX11_webIs_54 ?_
        refine va_getN (D := E.1) (ci := 6) (v := .ref (q1 2)) (C := RX7) (T := TX7) (N := 11) hx hb hg in_X7 hown X.1 hP 1 rfl rfl 3 (by decide) (va_Nw.use rfl (nf_X11_158 X.2.1)) (fun _ h9 => h9) rfl dX11_webIs_57 ?_
        refine lv_iload_n hx hb dX11_webIs_60 rfl (lv_at hl 1 rfl) ?_
        obtain ⟨hi, v9, ev9, h⟩ := rd_el h
        refine va_iald hx hb X.1 hP 3 0 rfl rfl hi dX11_webIs_61 ?_
        refine lv_top' ev9 ?_
        obtain ⟨u10, hc, h⟩ := bd_el h
        refine ct_iN X hP hD hS (va_runS (As := [.int v8, .int v9]) (rest := []) ⟨hx, hb, hml, hown, hg⟩ (c_X1_place l E  H.size v8 v9 u10 hc) (va_cwS 2 hg (gwS wm_X11_161 wst_X1_place wini_X1 wco_X1_place) rfl rfl rfl (by decide +kernel) ⟨Nat.le_of_ble_eq_true rfl, Nat.le_of_ble_eq_true rfl⟩) ⟨ct_blind, ct_preN X hS _⟩ rfl rfl hl.1 rfl (lv_room (Nat.le_of_ble_eq_true rfl)) dX11_webIs_62 ⟨Nat.zero_le _, Nat.zero_le _⟩) (fun H locs hP hD hS => ?_)
        exact RT u10 _ _ _ _ h rfl hP hD hS dX11_webIs_65
    · have h := it_f h c4
      refine lv_aload_n hx hb dX11_webIs_23 rfl (lv_at hl 0 rfl) ?_
      refine va_get (D := E.1) (ci := 10) (v := .ref (q1 0)) (C := RX11) (T := TX11) (N := 13) hx hb hg in_X11 hown X.1 hP 0 rfl rfl 9 (by decide) (hg _ wf_X11_71) (fun _ h9 => h9) rfl dX11_webIs_24 ?_
      refine va_getN (D := E.1) (ci := 6) (v := .ref (q1 3)) (C := RX7) (T := TX7) (N := 11) hx hb hg in_X7 hown X.1 hP 1 rfl rfl 4 (by decide) (va_Nw.use rfl (nf_X11_93 X.2.1)) (fun _ h9 => h9) rfl dX11_webIs_27 ?_
      refine lv_iload_n hx hb dX11_webIs_30 rfl (lv_at hl 1 rfl) ?_
      refine lv_bipush (v := 8) hx hb dX11_webIs_31 (by decide) ?_
      refine lv_imul hx hb dX11_webIs_33 ?_
      refine lv_iload_n hx hb dX11_webIs_34 rfl (lv_at hl 2 rfl) ?_
      refine lv_iadd hx hb dX11_webIs_35 ?_
      obtain ⟨hi, v11, ev11, h⟩ := rd_el h
      refine va_iald hx hb X.1 hP 4 0 rfl rfl hi dX11_webIs_36 ?_
      refine lv_top' ev11 ?_
      exact RT v11 _ _ _ _ h rfl hP hD hS dX11_webIs_37
  · have h := it_t h c2
    refine lv_iconst (v := (-1)) hx hb dX11_webIs_11 (by decide) ?_
    exact RT (-1) _ _ _ _ h rfl hP hD hS dX11_webIs_12
