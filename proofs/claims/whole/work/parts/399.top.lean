theorem dX11_tried_0 : decode cX11_tried 0 = .ok (.iload_n 1, 1) := by decide +kernel
theorem dX11_tried_1 : decode cX11_tried 1 = .ok (.iconst 1, 1) := by decide +kernel
theorem dX11_tried_2 : decode cX11_tried 2 = .ok (.bipush 100, 2) := by decide +kernel
theorem dX11_tried_4 : decode cX11_tried 4 = .ok (.invokestatic 89, 3) := by decide +kernel
theorem dX11_tried_7 : decode cX11_tried 7 = .ok (.ifCond .eq 11, 3) := by decide +kernel
theorem dX11_tried_10 : decode cX11_tried 10 = .ok (.aload_n 0, 1) := by decide +kernel
theorem dX11_tried_11 : decode cX11_tried 11 = .ok (.iload_n 2, 1) := by decide +kernel
theorem dX11_tried_12 : decode cX11_tried 12 = .ok (.invokevirtual 132, 3) := by decide +kernel
theorem dX11_tried_15 : decode cX11_tried 15 = .ok (.ifCond .ne 5, 3) := by decide +kernel
theorem dX11_tried_18 : decode cX11_tried 18 = .ok (.iconst (-1), 1) := by decide +kernel
theorem dX11_tried_19 : decode cX11_tried 19 = .ok (.ireturn, 1) := by decide +kernel
theorem dX11_tried_20 : decode cX11_tried 20 = .ok (.aload_n 0, 1) := by decide +kernel
theorem dX11_tried_21 : decode cX11_tried 21 = .ok (.getfield 75, 3) := by decide +kernel
theorem dX11_tried_24 : decode cX11_tried 24 = .ok (.aload_n 0, 1) := by decide +kernel
theorem dX11_tried_25 : decode cX11_tried 25 = .ok (.getfield 71, 3) := by decide +kernel
theorem dX11_tried_28 : decode cX11_tried 28 = .ok (.invokevirtual 135, 3) := by decide +kernel
theorem dX11_tried_31 : decode cX11_tried 31 = .ok (.aload_n 0, 1) := by decide +kernel
theorem dX11_tried_32 : decode cX11_tried 32 = .ok (.getfield 75, 3) := by decide +kernel
theorem dX11_tried_35 : decode cX11_tried 35 = .ok (.aload_n 0, 1) := by decide +kernel
theorem dX11_tried_36 : decode cX11_tried 36 = .ok (.getfield 61, 3) := by decide +kernel
theorem dX11_tried_39 : decode cX11_tried 39 = .ok (.iload_n 1, 1) := by decide +kernel
theorem dX11_tried_40 : decode cX11_tried 40 = .ok (.invokevirtual 128, 3) := by decide +kernel
theorem dX11_tried_43 : decode cX11_tried 43 = .ok (.istore_n 3, 1) := by decide +kernel
theorem dX11_tried_44 : decode cX11_tried 44 = .ok (.iload_n 2, 1) := by decide +kernel
theorem dX11_tried_45 : decode cX11_tried 45 = .ok (.ifCond .ne 5, 3) := by decide +kernel
theorem dX11_tried_48 : decode cX11_tried 48 = .ok (.iload_n 3, 1) := by decide +kernel
theorem dX11_tried_49 : decode cX11_tried 49 = .ok (.ireturn, 1) := by decide +kernel
theorem dX11_tried_50 : decode cX11_tried 50 = .ok (.iload_n 2, 1) := by decide +kernel
theorem dX11_tried_51 : decode cX11_tried 51 = .ok (.iconst 1, 1) := by decide +kernel
theorem dX11_tried_52 : decode cX11_tried 52 = .ok (.if_icmp .ne 11, 3) := by decide +kernel
theorem dX11_tried_55 : decode cX11_tried 55 = .ok (.aload_n 0, 1) := by decide +kernel
theorem dX11_tried_56 : decode cX11_tried 56 = .ok (.getfield 75, 3) := by decide +kernel
theorem dX11_tried_59 : decode cX11_tried 59 = .ok (.invokevirtual 139, 3) := by decide +kernel
theorem dX11_tried_62 : decode cX11_tried 62 = .ok (.ireturn, 1) := by decide +kernel
theorem dX11_tried_63 : decode cX11_tried 63 = .ok (.iload_n 2, 1) := by decide +kernel
theorem dX11_tried_64 : decode cX11_tried 64 = .ok (.bipush 20, 2) := by decide +kernel
theorem dX11_tried_66 : decode cX11_tried 66 = .ok (.if_icmp .ge 15, 3) := by decide +kernel
theorem dX11_tried_69 : decode cX11_tried 69 = .ok (.aload_n 0, 1) := by decide +kernel
theorem dX11_tried_70 : decode cX11_tried 70 = .ok (.getfield 75, 3) := by decide +kernel
theorem dX11_tried_73 : decode cX11_tried 73 = .ok (.iload_n 2, 1) := by decide +kernel
theorem dX11_tried_74 : decode cX11_tried 74 = .ok (.bipush 10, 2) := by decide +kernel
theorem dX11_tried_76 : decode cX11_tried 76 = .ok (.isub, 1) := by decide +kernel
theorem dX11_tried_77 : decode cX11_tried 77 = .ok (.invokevirtual 142, 3) := by decide +kernel
theorem dX11_tried_80 : decode cX11_tried 80 = .ok (.ireturn, 1) := by decide +kernel
theorem dX11_tried_81 : decode cX11_tried 81 = .ok (.iload_n 2, 1) := by decide +kernel
theorem dX11_tried_82 : decode cX11_tried 82 = .ok (.bipush 30, 2) := by decide +kernel
theorem dX11_tried_84 : decode cX11_tried 84 = .ok (.if_icmp .ge 17, 3) := by decide +kernel
theorem dX11_tried_87 : decode cX11_tried 87 = .ok (.aload_n 0, 1) := by decide +kernel
theorem dX11_tried_88 : decode cX11_tried 88 = .ok (.getfield 75, 3) := by decide +kernel
theorem dX11_tried_91 : decode cX11_tried 91 = .ok (.iload_n 2, 1) := by decide +kernel
theorem dX11_tried_92 : decode cX11_tried 92 = .ok (.bipush 20, 2) := by decide +kernel
theorem dX11_tried_94 : decode cX11_tried 94 = .ok (.isub, 1) := by decide +kernel
theorem dX11_tried_95 : decode cX11_tried 95 = .ok (.invokevirtual 146, 3) := by decide +kernel
theorem dX11_tried_98 : decode cX11_tried 98 = .ok (.goto 14, 3) := by decide +kernel
theorem dX11_tried_101 : decode cX11_tried 101 = .ok (.aload_n 0, 1) := by decide +kernel
theorem dX11_tried_102 : decode cX11_tried 102 = .ok (.getfield 75, 3) := by decide +kernel
theorem dX11_tried_105 : decode cX11_tried 105 = .ok (.iload_n 2, 1) := by decide +kernel
theorem dX11_tried_106 : decode cX11_tried 106 = .ok (.bipush 30, 2) := by decide +kernel
theorem dX11_tried_108 : decode cX11_tried 108 = .ok (.isub, 1) := by decide +kernel
theorem dX11_tried_109 : decode cX11_tried 109 = .ok (.invokevirtual 149, 3) := by decide +kernel
theorem dX11_tried_112 : decode cX11_tried 112 = .ok (.ireturn, 1) := by decide +kernel
def f_X11_tried (S0 : Gr) (S1 : Gr) (S2 : Gr) (S3 : Gr) (x1 : Int32) (x2 : Int32) : Option (Int32 × Gr × Gr) := (f_X11_within x1 1 100).bind fun u1 => if u1 = 0 then (some ((-1), S2, S3)) else ((f_X11_canBeTried S0 S1 x2).bind fun u3 => if u3 = 0 then (some ((-1), S2, S3)) else ((f_X7_copyFrom S2 S1).bind fun u5 => (f_X7_passHours u5 S3 x1).bind fun u6 => if x2 = 0 then (some (u6.1, u6.2.1, u6.2.2)) else (if x2 = 1 then ((f_X7_allSlackSpokes u6.2.1).bind fun u14 => some (u14, u6.2.1, u6.2.2)) else (if 20 ≤ x2 then (if 30 ≤ x2 then ((f_X7_toldCourse u6.2.1 (x2 - 30)).bind fun u11 => some (u11, u6.2.1, u6.2.2)) else ((f_X7_placeOfFleet u6.2.1 (x2 - 20)).bind fun u12 => some (u12, u6.2.1, u6.2.2))) else ((f_X7_tensionsOf u6.2.1 (x2 - 10)).bind fun u13 => some (u13, u6.2.1, u6.2.2))))))
set_option maxHeartbeats 4000000 in
set_option maxRecDepth 100000 in
theorem c_X11_tried (l : Launch) (E : Ec) (q0 q1 q2 q3 : Nat → Nat) (t0 t1 t2 t3 t4 t5 t6 t8 t11 : Nat) (sz : Nat) (S0 : Gr) (S1 : Gr) (S2 : Gr) (S3 : Gr) (x1 : Int32) (x2 : Int32) (Rv : Int32 × Gr × Gr) (h : f_X11_tried S0 S1 S2 S3 x1 x2 = some Rv) : Met l yX11_tried (wsM (.code yX11_tried cX11_tried 4 (some .int))) ({ frames := 7, cells := 0, slots := 0, locals := 171 } : Room) (va_Pc [.ref (q0 0), .int x1, .int x2] (ctP E (cw_X11 E q0 t0 t1 t2 t3 t4 t5 t6 (q3 0) t8 (q1 0) (q2 0) t11 S0 ++ (cw_X7 E q1 S1 ++ (cw_X7 E q2 S2 ++ (cw_X3 E q3 S3)))) sz)) (ctI E (cw_X11 E q0 t0 t1 t2 t3 t4 t5 t6 (q3 0) t8 (q1 0) (q2 0) t11 S0 ++ (cw_X7 E q1 S1 ++ (cw_X7 E q2 S2 ++ (cw_X3 E q3 S3)))) (cw_X11 E q0 t0 t1 t2 t3 t4 t5 t6 (q3 0) t8 (q1 0) (q2 0) t11 S0 ++ (cw_X7 E q1 S1 ++ (cw_X7 E q2 Rv.2.1 ++ (cw_X3 E q3 Rv.2.2)))) sz Rv.1) 0 0 (va_A (cw_X11 E q0 t0 t1 t2 t3 t4 t5 t6 (q3 0) t8 (q1 0) (q2 0) t11 S0 ++ (cw_X7 E q1 S1 ++ (cw_X7 E q2 S2 ++ (cw_X3 E q3 S3)))) sz) := by
  refine ct_metI (by decide) (Nat.le_of_ble_eq_true rfl) ?_
  intro p e s m ar below meth c A QM hx hb hml hown hg X hP hD hS RET ls hl
  have hown : s.vm.findClass RX11 = some m.cls := hown
  have hl : lv_has ls 4 [(0, .ref (q0 0)), (1, .int x1), (2, .int x2)] := hl
  have RT : ∀ (v : Int32) (S2 : Gr) (S3 : Gr) (H : Heap) (locs : List Loc) (ls : Array Slot) (pc : Nat), some (v, S2, S3) = some Rv → narrow .int (.int v) = .int v → va_P E.1 vwCl (cw_X11 E q0 t0 t1 t2 t3 t4 t5 t6 (q3 0) t8 (q1 0) (q2 0) t11 S0 ++ (cw_X7 E q1 S1 ++ (cw_X7 E q2 S2 ++ (cw_X3 E q3 S3)))) H → va_D A (cw_X11 E q0 t0 t1 t2 t3 t4 t5 t6 (q3 0) t8 (q1 0) (q2 0) t11 S0 ++ (cw_X7 E q1 S1 ++ (cw_X7 E q2 S2 ++ (cw_X3 E q3 S3)))) → va_S A s.heap H locs → decode cX11_tried pc = .ok (.ireturn, 1) → W p l e ({ frames := 7, cells := 0, slots := 0, locals := 171 } : Room) s m ar below meth c H locs 0 0 QM (F0 m pc ls [.int v]) := by
    intro v S2 S3 H locs ls pc e hn hP hD hS d
    obtain rfl := sm_e e
    exact RET H locs pc ls hn hP hD hS d
  clear RET
  obtain ⟨H, eH⟩ : ∃ z, z = s.heap := ⟨_, rfl⟩
  rw [← eH]
  have hP : va_P E.1 vwCl (cw_X11 E q0 t0 t1 t2 t3 t4 t5 t6 (q3 0) t8 (q1 0) (q2 0) t11 S0 ++ (cw_X7 E q1 S1 ++ (cw_X7 E q2 S2 ++ (cw_X3 E q3 S3)))) H := by rw [eH]; exact hP
  have hS : va_S A s.heap H [] := by rw [eH]; exact hS
  clear eH
  obtain ⟨locs, el⟩ : ∃ z : List Loc, z = [] := ⟨_, rfl⟩
  rw [← el] at hS ⊢
  clear el
  refine lv_iload_n hx hb dX11_tried_0 rfl (lv_at hl 1 rfl) ?_
  refine lv_iconst (v := 1) hx hb dX11_tried_1 (by decide) ?_
  refine lv_bipush (v := 100) hx hb dX11_tried_2 (by decide) ?_
  obtain ⟨u1, hc, h⟩ := bd_el h
  refine ct_iN X hP hD hS (va_runS (As := [.int x1, .int 1, .int 100]) (rest := []) ⟨hx, hb, hml, hown, hg⟩ (c_X11_within l E  H.size x1 1 100 u1 hc) (va_cwS 3 hg (gwS wm_X11_89 wst_X11_within wini_X11 wco_X11_within) rfl rfl rfl (by decide +kernel) ⟨Nat.le_of_ble_eq_true rfl, Nat.le_of_ble_eq_true rfl⟩) ⟨ct_blind, ct_preN X hS _⟩ rfl rfl hl.1 rfl (lv_room (Nat.le_of_ble_eq_true rfl)) dX11_tried_4 ⟨Nat.zero_le _, Nat.zero_le _⟩) (fun H locs hP hD hS => ?_)
  refine lv_if_eq (tgt := 18) hx hb dX11_tried_7 (by decide) (fun c2 => ?_) (fun c2 => ?_)
  · have h := it_t h c2
    refine lv_iconst (v := (-1)) hx hb dX11_tried_18 (by decide) ?_
    exact RT (-1) S2 S3 _ _ _ _ h rfl hP hD hS dX11_tried_19
  · have h := it_f h c2
    refine lv_aload_n hx hb dX11_tried_10 rfl (lv_at hl 0 rfl) ?_
    refine lv_iload_n hx hb dX11_tried_11 rfl (lv_at hl 2 rfl) ?_
    obtain ⟨u3, hc, h⟩ := bd_el h
    have hC : ([0, 1, 2, 3, 4, 5, 6, 7, 8] : List Nat).map (fun i => (cw_X11 E q0 t0 t1 t2 t3 t4 t5 t6 (q3 0) t8 (q1 0) (q2 0) t11 S0 ++ (cw_X7 E q1 S1 ++ (cw_X7 E q2 S2 ++ (cw_X3 E q3 S3))))[i]?) = (cw_X11 E q0 t0 t1 t2 t3 t4 t5 t6 (q3 0) t8 (q1 0) (q2 0) t11 S0 ++ (cw_X7 E q1 S1)).map some := rfl
    refine ct_iR X hP hD hS [0, 1, 2, 3, 4, 5, 6, 7, 8] hC (va_runV (C := RX11) (As := [.int x2]) (rest := []) ⟨hx, hb, hml, hown, hg⟩ (c_X11_canBeTried l E q0 q1 t0 t1 t2 t3 t4 t5 t6 (q3 0) t8 (q2 0) t11 H.size S0 S1 x2 u3 hc) (cwV 1 hg (gwV wm_X11_132 wi_X11_canBeTried wsl_X11_canBeTried wini_X11 wco_X11_canBeTried) rfl rfl rfl (by decide +kernel) ⟨Nat.le_of_ble_eq_true rfl, Nat.le_of_ble_eq_true rfl⟩) ⟨ct_blind, ct_rv X.1 hP 0 rfl rfl, ct_pre X hP hD hS [0, 1, 2, 3, 4, 5, 6, 7, 8] (by decide) hC _⟩ rfl rfl hl.1 rfl (lv_room (Nat.le_of_ble_eq_true rfl)) dX11_tried_12 ⟨Nat.zero_le _, Nat.zero_le _⟩) (fun H locs hP hD hS => ?_)
    clear hC
    refine lv_if_ne (tgt := 20) hx hb dX11_tried_15 (by decide) (fun c4 => ?_) (fun c4 => ?_)
    · have h := it_f h c4
      refine lv_aload_n hx hb dX11_tried_20 rfl (lv_at hl 0 rfl) ?_
      refine va_get (D := E.1) (ci := 10) (v := .ref (q2 0)) (C := RX11) (T := TX11) (N := 13) hx hb hg in_X11 hown X.1 hP 0 rfl rfl 10 (by decide) (hg _ wf_X11_75) (fun _ h9 => h9) rfl dX11_tried_21 ?_
      refine lv_aload_n hx hb dX11_tried_24 rfl (lv_at hl 0 rfl) ?_
      refine va_get (D := E.1) (ci := 10) (v := .ref (q1 0)) (C := RX11) (T := TX11) (N := 13) hx hb hg in_X11 hown X.1 hP 0 rfl rfl 9 (by decide) (hg _ wf_X11_71) (fun _ h9 => h9) rfl dX11_tried_25 ?_
      obtain ⟨u5, hc, h⟩ := bd_el h
      have hC : ([9, 10, 11, 12, 13, 14, 15, 16, 1, 2, 3, 4, 5, 6, 7, 8] : List Nat).map (fun i => (cw_X11 E q0 t0 t1 t2 t3 t4 t5 t6 (q3 0) t8 (q1 0) (q2 0) t11 S0 ++ (cw_X7 E q1 S1 ++ (cw_X7 E q2 S2 ++ (cw_X3 E q3 S3))))[i]?) = (cw_X7 E q2 S2 ++ (cw_X7 E q1 S1)).map some := rfl
      refine ct_v (ws' := cw_X11 E q0 t0 t1 t2 t3 t4 t5 t6 (q3 0) t8 (q1 0) (q2 0) t11 S0 ++ (cw_X7 E q1 S1 ++ (cw_X7 E q2 u5 ++ (cw_X3 E q3 S3)))) X hP hD hS [9, 10, 11, 12, 13, 14, 15, 16, 1, 2, 3, 4, 5, 6, 7, 8] (va_runV (C := RX7) (As := [.ref (q1 0)]) (rest := []) ⟨hx, hb, hml, hown, hg⟩ (c_X7_copyFrom l E q2 q1 H.size S2 S1 u5 hc) (cwV 1 hg (gwV wm_X11_135 wi_X7_copyFrom wsl_X7_copyFrom wini_X7 wco_X7_copyFrom) rfl rfl rfl (by decide +kernel) ⟨Nat.le_of_ble_eq_true rfl, Nat.le_of_ble_eq_true rfl⟩) ⟨ct_blind, ct_rv X.1 hP 9 rfl rfl, ct_pre X hP hD hS [9, 10, 11, 12, 13, 14, 15, 16, 1, 2, 3, 4, 5, 6, 7, 8] (by decide) hC _⟩ rfl rfl hl.1 rfl (lv_room (Nat.le_of_ble_eq_true rfl)) dX11_tried_28 ⟨Nat.zero_le _, Nat.zero_le _⟩) hC rfl rfl (fun H locs hP hD hS => ?_)
      clear hC
      refine lv_aload_n hx hb dX11_tried_31 rfl (lv_at hl 0 rfl) ?_
      refine va_get (D := E.1) (ci := 10) (v := .ref (q2 0)) (C := RX11) (T := TX11) (N := 13) hx hb hg in_X11 hown X.1 hP 0 rfl rfl 10 (by decide) (hg _ wf_X11_75) (fun _ h9 => h9) rfl dX11_tried_32 ?_
      refine lv_aload_n hx hb dX11_tried_35 rfl (lv_at hl 0 rfl) ?_
      refine va_get (D := E.1) (ci := 10) (v := .ref (q3 0)) (C := RX11) (T := TX11) (N := 13) hx hb hg in_X11 hown X.1 hP 0 rfl rfl 7 (by decide) (hg _ wf_X11_61) (fun _ h9 => h9) rfl dX11_tried_36 ?_
      refine lv_iload_n hx hb dX11_tried_39 rfl (lv_at hl 1 rfl) ?_
      obtain ⟨u6, hc, h⟩ := bd_el h
      have hC : ([9, 10, 11, 12, 13, 14, 15, 16, 17, 18, 19, 20, 21, 22, 23, 24] : List Nat).map (fun i => (cw_X11 E q0 t0 t1 t2 t3 t4 t5 t6 (q3 0) t8 (q1 0) (q2 0) t11 S0 ++ (cw_X7 E q1 S1 ++ (cw_X7 E q2 u5 ++ (cw_X3 E q3 S3))))[i]?) = (cw_X7 E q2 u5 ++ (cw_X3 E q3 S3)).map some := rfl
      refine ct_i (ws' := cw_X11 E q0 t0 t1 t2 t3 t4 t5 t6 (q3 0) t8 (q1 0) (q2 0) t11 S0 ++ (cw_X7 E q1 S1 ++ (cw_X7 E q2 u6.2.1 ++ (cw_X3 E q3 u6.2.2)))) X hP hD hS [9, 10, 11, 12, 13, 14, 15, 16, 17, 18, 19, 20, 21, 22, 23, 24] (va_runV (C := RX7) (As := [.ref (q3 0), .int x1]) (rest := []) ⟨hx, hb, hml, hown, hg⟩ (c_X7_passHours l E q2 q3 H.size u5 S3 x1 u6 hc) (cwV 2 hg (gwV wm_X11_128 wi_X7_passHours wsl_X7_passHours wini_X7 wco_X7_passHours) rfl rfl rfl (by decide +kernel) ⟨Nat.le_of_ble_eq_true rfl, Nat.le_of_ble_eq_true rfl⟩) ⟨ct_blind, ct_rv X.1 hP 9 rfl rfl, ct_pre X hP hD hS [9, 10, 11, 12, 13, 14, 15, 16, 17, 18, 19, 20, 21, 22, 23, 24] (by decide) hC _⟩ rfl rfl hl.1 rfl (lv_room (Nat.le_of_ble_eq_true rfl)) dX11_tried_40 ⟨Nat.zero_le _, Nat.zero_le _⟩) hC rfl rfl (fun H locs hP hD hS => ?_)
      clear hC
      refine lv_istore_n (lv' := [(3, .int u6.1), (0, .ref (q0 0)), (1, .int x1), (2, .int x2)]) hx hb dX11_tried_43 rfl hl (by decide) rfl (fun ls hl => ?_)
      refine lv_iload_n hx hb dX11_tried_44 rfl (lv_at hl 3 rfl) ?_
      refine lv_if_ne (tgt := 50) hx hb dX11_tried_45 (by decide) (fun c7 => ?_) (fun c7 => ?_)
      · have h := it_f h c7
        refine lv_iload_n hx hb dX11_tried_50 rfl (lv_at hl 3 rfl) ?_
        refine lv_iconst (v := 1) hx hb dX11_tried_51 (by decide) ?_
        refine lv_icmp_ne (tgt := 63) hx hb dX11_tried_52 (by decide) (fun c8 => ?_) (fun c8 => ?_)
        · have h := it_f h c8
          refine lv_iload_n hx hb dX11_tried_63 rfl (lv_at hl 3 rfl) ?_
          refine lv_bipush (v := 20) hx hb dX11_tried_64 (by decide) ?_
          refine lv_icmp_ge (tgt := 81) hx hb dX11_tried_66 (by decide) (fun c9 => ?_) (fun c9 => ?_)
          · have h := it_t h c9
            refine lv_iload_n hx hb dX11_tried_81 rfl (lv_at hl 3 rfl) ?_
            refine lv_bipush (v := 30) hx hb dX11_tried_82 (by decide) ?_
            refine lv_icmp_ge (tgt := 101) hx hb dX11_tried_84 (by decide) (fun c10 => ?_) (fun c10 => ?_)
            · have h := it_t h c10
              refine lv_aload_n hx hb dX11_tried_101 rfl (lv_at hl 1 rfl) ?_
              refine va_get (D := E.1) (ci := 10) (v := .ref (q2 0)) (C := RX11) (T := TX11) (N := 13) hx hb hg in_X11 hown X.1 hP 0 rfl rfl 10 (by decide) (hg _ wf_X11_75) (fun _ h9 => h9) rfl dX11_tried_102 ?_
              refine lv_iload_n hx hb dX11_tried_105 rfl (lv_at hl 3 rfl) ?_
              refine lv_bipush (v := 30) hx hb dX11_tried_106 (by decide) ?_
              refine lv_isub hx hb dX11_tried_108 ?_
              obtain ⟨u11, hc, h⟩ := bd_el h
              have hC : ([9, 10, 11, 12, 13, 14, 15, 16] : List Nat).map (fun i => (cw_X11 E q0 t0 t1 t2 t3 t4 t5 t6 (q3 0) t8 (q1 0) (q2 0) t11 S0 ++ (cw_X7 E q1 S1 ++ (cw_X7 E q2 u6.2.1 ++ (cw_X3 E q3 u6.2.2))))[i]?) = (cw_X7 E q2 u6.2.1).map some := rfl
              refine ct_iR X hP hD hS [9, 10, 11, 12, 13, 14, 15, 16] hC (va_runV (C := RX7) (As := [.int (x2 - 30)]) (rest := []) ⟨hx, hb, hml, hown, hg⟩ (c_X7_toldCourse l E q2 H.size u6.2.1 (x2 - 30) u11 hc) (cwV 1 hg (gwV wm_X11_149 wi_X7_toldCourse wsl_X7_toldCourse wini_X7 wco_X7_toldCourse) rfl rfl rfl (by decide +kernel) ⟨Nat.le_of_ble_eq_true rfl, Nat.le_of_ble_eq_true rfl⟩) ⟨ct_blind, ct_rv X.1 hP 9 rfl rfl, ct_pre X hP hD hS [9, 10, 11, 12, 13, 14, 15, 16] (by decide) hC _⟩ rfl rfl hl.1 rfl (lv_room (Nat.le_of_ble_eq_true rfl)) dX11_tried_109 ⟨Nat.zero_le _, Nat.zero_le _⟩) (fun H locs hP hD hS => ?_)
              clear hC
              exact RT u11 u6.2.1 u6.2.2 _ _ _ _ h rfl hP hD hS dX11_tried_112
            · have h := it_f h c10
              refine lv_aload_n hx hb dX11_tried_87 rfl (lv_at hl 1 rfl) ?_
              refine va_get (D := E.1) (ci := 10) (v := .ref (q2 0)) (C := RX11) (T := TX11) (N := 13) hx hb hg in_X11 hown X.1 hP 0 rfl rfl 10 (by decide) (hg _ wf_X11_75) (fun _ h9 => h9) rfl dX11_tried_88 ?_
              refine lv_iload_n hx hb dX11_tried_91 rfl (lv_at hl 3 rfl) ?_
              refine lv_bipush (v := 20) hx hb dX11_tried_92 (by decide) ?_
              refine lv_isub hx hb dX11_tried_94 ?_
              obtain ⟨u12, hc, h⟩ := bd_el h
              have hC : ([9, 10, 11, 12, 13, 14, 15, 16] : List Nat).map (fun i => (cw_X11 E q0 t0 t1 t2 t3 t4 t5 t6 (q3 0) t8 (q1 0) (q2 0) t11 S0 ++ (cw_X7 E q1 S1 ++ (cw_X7 E q2 u6.2.1 ++ (cw_X3 E q3 u6.2.2))))[i]?) = (cw_X7 E q2 u6.2.1).map some := rfl
              refine ct_iR X hP hD hS [9, 10, 11, 12, 13, 14, 15, 16] hC (va_runV (C := RX7) (As := [.int (x2 - 20)]) (rest := []) ⟨hx, hb, hml, hown, hg⟩ (c_X7_placeOfFleet l E q2 H.size u6.2.1 (x2 - 20) u12 hc) (cwV 1 hg (gwV wm_X11_146 wi_X7_placeOfFleet wsl_X7_placeOfFleet wini_X7 wco_X7_placeOfFleet) rfl rfl rfl (by decide +kernel) ⟨Nat.le_of_ble_eq_true rfl, Nat.le_of_ble_eq_true rfl⟩) ⟨ct_blind, ct_rv X.1 hP 9 rfl rfl, ct_pre X hP hD hS [9, 10, 11, 12, 13, 14, 15, 16] (by decide) hC _⟩ rfl rfl hl.1 rfl (lv_room (Nat.le_of_ble_eq_true rfl)) dX11_tried_95 ⟨Nat.zero_le _, Nat.zero_le _⟩) (fun H locs hP hD hS => ?_)
              clear hC
              refine lv_goto (tgt := 112) hx hb dX11_tried_98 (by decide) ?_
              exact RT u12 u6.2.1 u6.2.2 _ _ _ _ h rfl hP hD hS dX11_tried_112
          · have h := it_f h c9
            refine lv_aload_n hx hb dX11_tried_69 rfl (lv_at hl 1 rfl) ?_
            refine va_get (D := E.1) (ci := 10) (v := .ref (q2 0)) (C := RX11) (T := TX11) (N := 13) hx hb hg in_X11 hown X.1 hP 0 rfl rfl 10 (by decide) (hg _ wf_X11_75) (fun _ h9 => h9) rfl dX11_tried_70 ?_
            refine lv_iload_n hx hb dX11_tried_73 rfl (lv_at hl 3 rfl) ?_
            refine lv_bipush (v := 10) hx hb dX11_tried_74 (by decide) ?_
            refine lv_isub hx hb dX11_tried_76 ?_
            obtain ⟨u13, hc, h⟩ := bd_el h
            have hC : ([9, 10, 11, 12, 13, 14, 15, 16] : List Nat).map (fun i => (cw_X11 E q0 t0 t1 t2 t3 t4 t5 t6 (q3 0) t8 (q1 0) (q2 0) t11 S0 ++ (cw_X7 E q1 S1 ++ (cw_X7 E q2 u6.2.1 ++ (cw_X3 E q3 u6.2.2))))[i]?) = (cw_X7 E q2 u6.2.1).map some := rfl
            refine ct_iR X hP hD hS [9, 10, 11, 12, 13, 14, 15, 16] hC (va_runV (C := RX7) (As := [.int (x2 - 10)]) (rest := []) ⟨hx, hb, hml, hown, hg⟩ (c_X7_tensionsOf l E q2 H.size u6.2.1 (x2 - 10) u13 hc) (cwV 1 hg (gwV wm_X11_142 wi_X7_tensionsOf wsl_X7_tensionsOf wini_X7 wco_X7_tensionsOf) rfl rfl rfl (by decide +kernel) ⟨Nat.le_of_ble_eq_true rfl, Nat.le_of_ble_eq_true rfl⟩) ⟨ct_blind, ct_rv X.1 hP 9 rfl rfl, ct_pre X hP hD hS [9, 10, 11, 12, 13, 14, 15, 16] (by decide) hC _⟩ rfl rfl hl.1 rfl (lv_room (Nat.le_of_ble_eq_true rfl)) dX11_tried_77 ⟨Nat.zero_le _, Nat.zero_le _⟩) (fun H locs hP hD hS => ?_)
            clear hC
            exact RT u13 u6.2.1 u6.2.2 _ _ _ _ h rfl hP hD hS dX11_tried_80
        · have h := it_t h c8
          refine lv_aload_n hx hb dX11_tried_55 rfl (lv_at hl 1 rfl) ?_
          refine va_get (D := E.1) (ci := 10) (v := .ref (q2 0)) (C := RX11) (T := TX11) (N := 13) hx hb hg in_X11 hown X.1 hP 0 rfl rfl 10 (by decide) (hg _ wf_X11_75) (fun _ h9 => h9) rfl dX11_tried_56 ?_
          obtain ⟨u14, hc, h⟩ := bd_el h
          have hC : ([9, 10, 11, 12, 13, 14, 15, 16] : List Nat).map (fun i => (cw_X11 E q0 t0 t1 t2 t3 t4 t5 t6 (q3 0) t8 (q1 0) (q2 0) t11 S0 ++ (cw_X7 E q1 S1 ++ (cw_X7 E q2 u6.2.1 ++ (cw_X3 E q3 u6.2.2))))[i]?) = (cw_X7 E q2 u6.2.1).map some := rfl
          refine ct_iR X hP hD hS [9, 10, 11, 12, 13, 14, 15, 16] hC (va_runV (C := RX7) (As := []) (rest := []) ⟨hx, hb, hml, hown, hg⟩ (c_X7_allSlackSpokes l E q2 H.size u6.2.1 u14 hc) (cwV 0 hg (gwV wm_X11_139 wi_X7_allSlackSpokes wsl_X7_allSlackSpokes wini_X7 wco_X7_allSlackSpokes) rfl rfl rfl (by decide +kernel) ⟨Nat.le_of_ble_eq_true rfl, Nat.le_of_ble_eq_true rfl⟩) ⟨ct_blind, ct_rv X.1 hP 9 rfl rfl, ct_pre X hP hD hS [9, 10, 11, 12, 13, 14, 15, 16] (by decide) hC _⟩ rfl rfl hl.1 rfl (lv_room (Nat.le_of_ble_eq_true rfl)) dX11_tried_59 ⟨Nat.zero_le _, Nat.zero_le _⟩) (fun H locs hP hD hS => ?_)
          clear hC
          exact RT u14 u6.2.1 u6.2.2 _ _ _ _ h rfl hP hD hS dX11_tried_62
      · have h := it_t h c7
        refine lv_iload_n hx hb dX11_tried_48 rfl (lv_at hl 0 rfl) ?_
        exact RT u6.1 u6.2.1 u6.2.2 _ _ _ _ h rfl hP hD hS dX11_tried_49
    · have h := it_t h c4
      refine lv_iconst (v := (-1)) hx hb dX11_tried_18 (by decide) ?_
      exact RT (-1) S2 S3 _ _ _ _ h rfl hP hD hS dX11_tried_19
