theorem dX12_keep_0 : decode cX12_keep 0 = .ok (.aload_n 0, 1) := by decide +kernel
theorem dX12_keep_1 : decode cX12_keep 1 = .ok (.iconst 1, 1) := by decide +kernel
theorem dX12_keep_2 : decode cX12_keep 2 = .ok (.putfield 420, 3) := by decide +kernel
theorem dX12_keep_5 : decode cX12_keep 5 = .ok (.aload_n 0, 1) := by decide +kernel
theorem dX12_keep_6 : decode cX12_keep 6 = .ok (.aload_n 0, 1) := by decide +kernel
theorem dX12_keep_7 : decode cX12_keep 7 = .ok (.getfield 114, 3) := by decide +kernel
theorem dX12_keep_10 : decode cX12_keep 10 = .ok (.putfield 424, 3) := by decide +kernel
theorem dX12_keep_13 : decode cX12_keep 13 = .ok (.aload_n 0, 1) := by decide +kernel
theorem dX12_keep_14 : decode cX12_keep 14 = .ok (.aload_n 0, 1) := by decide +kernel
theorem dX12_keep_15 : decode cX12_keep 15 = .ok (.getfield 122, 3) := by decide +kernel
theorem dX12_keep_18 : decode cX12_keep 18 = .ok (.putfield 427, 3) := by decide +kernel
theorem dX12_keep_21 : decode cX12_keep 21 = .ok (.aload_n 0, 1) := by decide +kernel
theorem dX12_keep_22 : decode cX12_keep 22 = .ok (.getfield 7, 3) := by decide +kernel
theorem dX12_keep_25 : decode cX12_keep 25 = .ok (.aload_n 0, 1) := by decide +kernel
theorem dX12_keep_26 : decode cX12_keep 26 = .ok (.getfield 16, 3) := by decide +kernel
theorem dX12_keep_29 : decode cX12_keep 29 = .ok (.invokestatic 335, 3) := by decide +kernel
theorem dX12_keep_32 : decode cX12_keep 32 = .ok (.aload_n 0, 1) := by decide +kernel
theorem dX12_keep_33 : decode cX12_keep 33 = .ok (.getfield 7, 3) := by decide +kernel
theorem dX12_keep_36 : decode cX12_keep 36 = .ok (.bipush 80, 2) := by decide +kernel
theorem dX12_keep_38 : decode cX12_keep 38 = .ok (.iaload, 1) := by decide +kernel
theorem dX12_keep_39 : decode cX12_keep 39 = .ok (.ireturn, 1) := by decide +kernel
def f_X12_keep (S0 : Gr) : Option (Int32 × Gr) := lt' (sI S0 54 1) fun S0_1 => lt' (sI S0_1 55 (S0_1.1 5)) fun S0_2 => lt' (sI S0_2 56 (S0_2.1 6)) fun S0_3 => (f_X12_copies ((fun _ => 0, fun _ => S0_3.2 0) : Gr) ((fun _ => 0, fun _ => S0_3.2 2) : Gr)).bind fun u4 => lt' (sR S0_3 2 (u4.2 0)) fun S0_5 => rd' (S0_5.2 0) 82 80 fun v6 => some (v6, S0_5)
set_option maxHeartbeats 4000000 in
set_option maxRecDepth 100000 in
theorem c_X12_keep (l : Launch) (E : Ec) (q0 : Nat → Nat) (sz : Nat) (S0 : Gr) (Rv : Int32 × Gr) (h : f_X12_keep S0 = some Rv) : Met l yX12_keep (wsM (.code yX12_keep cX12_keep 1 (some .int))) ({ frames := 1, cells := 0, slots := 0, locals := 22 } : Room) (va_Pc [.ref (q0 0)] (ctP E (cw_X12 E q0 S0) sz)) (ctI E (cw_X12 E q0 S0) (cw_X12 E q0 Rv.2) sz Rv.1) 0 0 (va_A (cw_X12 E q0 S0) sz) := by
  refine ct_metI (by decide) (Nat.le_of_ble_eq_true rfl) ?_
  intro p e s m ar below meth c A QM hx hb hml hown hg X hP hD hS RET ls hl
  have hown : s.vm.findClass RX12 = some m.cls := hown
  have hl : lv_has ls 1 [(0, .ref (q0 0))] := hl
  have RT : ∀ (v : Int32) (S0 : Gr) (H : Heap) (locs : List Loc) (ls : Array Slot) (pc : Nat), some (v, S0) = some Rv → narrow .int (.int v) = .int v → va_P E.1 vwCl (cw_X12 E q0 S0) H → va_D A (cw_X12 E q0 S0) → va_S A s.heap H locs → decode cX12_keep pc = .ok (.ireturn, 1) → W p l e ({ frames := 1, cells := 0, slots := 0, locals := 22 } : Room) s m ar below meth c H locs 0 0 QM (F0 m pc ls [.int v]) := by
    intro v S0 H locs ls pc e hn hP hD hS d
    obtain rfl := sm_e e
    exact RET H locs pc ls hn hP hD hS d
  clear RET
  obtain ⟨H, eH⟩ : ∃ z, z = s.heap := ⟨_, rfl⟩
  rw [← eH]
  have hP : va_P E.1 vwCl (cw_X12 E q0 S0) H := by rw [eH]; exact hP
  have hS : va_S A s.heap H [] := by rw [eH]; exact hS
  clear eH
  obtain ⟨locs, el⟩ : ∃ z : List Loc, z = [] := ⟨_, rfl⟩
  rw [← el] at hS ⊢
  clear el
  refine lv_aload_n hx hb dX12_keep_0 rfl (lv_at hl 0 rfl) ?_
  refine lv_iconst (v := 1) hx hb dX12_keep_1 (by decide) ?_
  obtain ⟨S0_1, eS, h⟩ := lt_el h
  refine va_put (D := E.1) (ci := 11) (v := .int 1) (ty := .boolean) (C := RX12) (T := TX12) (N := 57) hx hb hg in_X12 tyX12 tyX12_ok nmX12 hown X.1 hP hD hS 0 rfl rfl 54 (by decide) (hg _ wf_X12_420) (fun _ h9 => h9) rfl (by decide +kernel) (by decide +kernel) (by decide +kernel) (Nat.le_of_ble_eq_true rfl) dX12_keep_2 (fun H locs hP hD hS => ?_)
  have hP : va_P E.1 vwCl (cw_X12 E q0 S0_1) H := by rw [eS]; exact hP
  have hD : va_D A (cw_X12 E q0 S0_1) := by rw [eS]; exact hD
  clear eS
  refine lv_aload_n hx hb dX12_keep_5 rfl (lv_at hl 0 rfl) ?_
  refine lv_aload_n hx hb dX12_keep_6 rfl (lv_at hl 0 rfl) ?_
  refine va_get (D := E.1) (ci := 11) (v := .int (S0_1.1 5)) (C := RX12) (T := TX12) (N := 57) hx hb hg in_X12 hown X.1 hP 0 rfl rfl 5 (by decide) (hg _ wf_X12_114) (fun _ h9 => h9) rfl dX12_keep_7 ?_
  obtain ⟨S0_2, eS, h⟩ := lt_el h
  refine va_put (D := E.1) (ci := 11) (v := .int (S0_1.1 5)) (ty := .int) (C := RX12) (T := TX12) (N := 57) hx hb hg in_X12 tyX12 tyX12_ok nmX12 hown X.1 hP hD hS 0 rfl rfl 55 (by decide) (hg _ wf_X12_424) (fun _ h9 => h9) rfl (by decide +kernel) rfl rfl (Nat.le_of_ble_eq_true rfl) dX12_keep_10 (fun H locs hP hD hS => ?_)
  have hP : va_P E.1 vwCl (cw_X12 E q0 S0_2) H := by rw [eS]; exact hP
  have hD : va_D A (cw_X12 E q0 S0_2) := by rw [eS]; exact hD
  clear eS
  refine lv_aload_n hx hb dX12_keep_13 rfl (lv_at hl 0 rfl) ?_
  refine lv_aload_n hx hb dX12_keep_14 rfl (lv_at hl 0 rfl) ?_
  refine va_get (D := E.1) (ci := 11) (v := .int (S0_2.1 6)) (C := RX12) (T := TX12) (N := 57) hx hb hg in_X12 hown X.1 hP 0 rfl rfl 6 (by decide) (hg _ wf_X12_122) (fun _ h9 => h9) rfl dX12_keep_15 ?_
  obtain ⟨S0_3, eS, h⟩ := lt_el h
  refine va_put (D := E.1) (ci := 11) (v := .int (S0_2.1 6)) (ty := .int) (C := RX12) (T := TX12) (N := 57) hx hb hg in_X12 tyX12 tyX12_ok nmX12 hown X.1 hP hD hS 0 rfl rfl 56 (by decide) (hg _ wf_X12_427) (fun _ h9 => h9) rfl (by decide +kernel) rfl rfl (Nat.le_of_ble_eq_true rfl) dX12_keep_18 (fun H locs hP hD hS => ?_)
  have hP : va_P E.1 vwCl (cw_X12 E q0 S0_3) H := by rw [eS]; exact hP
  have hD : va_D A (cw_X12 E q0 S0_3) := by rw [eS]; exact hD
  clear eS
  refine lv_aload_n hx hb dX12_keep_21 rfl (lv_at hl 0 rfl) ?_
  refine va_get (D := E.1) (ci := 11) (v := .ref (q0 1)) (C := RX12) (T := TX12) (N := 57) hx hb hg in_X12 hown X.1 hP 0 rfl rfl 0 (by decide) (hg _ wf_X12_7) (fun _ h9 => h9) rfl dX12_keep_22 ?_
  refine lv_aload_n hx hb dX12_keep_25 rfl (lv_at hl 0 rfl) ?_
  refine va_get (D := E.1) (ci := 11) (v := .ref (q0 3)) (C := RX12) (T := TX12) (N := 57) hx hb hg in_X12 hown X.1 hP 0 rfl rfl 2 (by decide) (hg _ wf_X12_16) (fun _ h9 => h9) rfl dX12_keep_26 ?_
  obtain ⟨u4, hc, h⟩ := bd_el h
  obtain ⟨S0_5, eS, h⟩ := lt_el h
  refine ct_v (ws' := cw_X12 E q0 (sR S0_3 2 (u4.2 0))) X hP hD hS [1, 3] (va_runS (As := [.ref (q0 1), .ref (q0 3)]) (rest := []) ⟨hx, hb, hml, hown, hg⟩ (c_X12_copies l E (fun _ => q0 1) (fun _ => q0 3) H.size ((fun _ => 0, fun _ => S0_3.2 0) : Gr) ((fun _ => 0, fun _ => S0_3.2 2) : Gr) u4 hc) (va_cwS 2 hg (gwS wm_X12_335 wst_X12_copies wini_X12 wco_X12_copies) rfl rfl rfl (by decide +kernel) ⟨Nat.le_of_ble_eq_true rfl, Nat.le_of_ble_eq_true rfl⟩) ⟨ct_blind, ct_pre X hP hD hS [1, 3] (by decide) rfl _⟩ rfl rfl hl.1 rfl (lv_room (Nat.le_of_ble_eq_true rfl)) dX12_keep_29 ⟨Nat.zero_le _, Nat.zero_le _⟩) rfl rfl rfl (fun H locs hP hD hS => ?_)
  have hP : va_P E.1 vwCl (cw_X12 E q0 S0_5) H := by rw [eS]; exact hP
  have hD : va_D A (cw_X12 E q0 S0_5) := by rw [eS]; exact hD
  clear eS
  refine lv_aload_n hx hb dX12_keep_32 rfl (lv_at hl 0 rfl) ?_
  refine va_get (D := E.1) (ci := 11) (v := .ref (q0 1)) (C := RX12) (T := TX12) (N := 57) hx hb hg in_X12 hown X.1 hP 0 rfl rfl 0 (by decide) (hg _ wf_X12_7) (fun _ h9 => h9) rfl dX12_keep_33 ?_
  refine lv_bipush (v := 80) hx hb dX12_keep_36 (by decide) ?_
  obtain ⟨hi, v6, ev6, h⟩ := rd_el h
  refine va_iald hx hb X.1 hP 1 0 rfl rfl hi dX12_keep_38 ?_
  refine lv_top' ev6 ?_
  exact RT v6 S0_5 _ _ _ _ h rfl hP hD hS dX12_keep_39
theorem dX12_rent_0 : decode cX12_rent 0 = .ok (.iload_n 1, 1) := by decide +kernel
theorem dX12_rent_1 : decode cX12_rent 1 = .ok (.iconst 2, 1) := by decide +kernel
theorem dX12_rent_2 : decode cX12_rent 2 = .ok (.bipush 12, 2) := by decide +kernel
theorem dX12_rent_4 : decode cX12_rent 4 = .ok (.invokestatic 110, 3) := by decide +kernel
theorem dX12_rent_7 : decode cX12_rent 7 = .ok (.ifCond .eq 20, 3) := by decide +kernel
theorem dX12_rent_10 : decode cX12_rent 10 = .ok (.iload_n 2, 1) := by decide +kernel
theorem dX12_rent_11 : decode cX12_rent 11 = .ok (.iconst 0, 1) := by decide +kernel
theorem dX12_rent_12 : decode cX12_rent 12 = .ok (.iconst 1, 1) := by decide +kernel
theorem dX12_rent_13 : decode cX12_rent 13 = .ok (.invokestatic 110, 3) := by decide +kernel
theorem dX12_rent_16 : decode cX12_rent 16 = .ok (.ifCond .eq 11, 3) := by decide +kernel
theorem dX12_rent_19 : decode cX12_rent 19 = .ok (.iload_n 1, 1) := by decide +kernel
theorem dX12_rent_20 : decode cX12_rent 20 = .ok (.aload_n 0, 1) := by decide +kernel
theorem dX12_rent_21 : decode cX12_rent 21 = .ok (.getfield 143, 3) := by decide +kernel
theorem dX12_rent_24 : decode cX12_rent 24 = .ok (.if_icmp .le 5, 3) := by decide +kernel
theorem dX12_rent_27 : decode cX12_rent 27 = .ok (.iconst (-1), 1) := by decide +kernel
theorem dX12_rent_28 : decode cX12_rent 28 = .ok (.ireturn, 1) := by decide +kernel
theorem dX12_rent_29 : decode cX12_rent 29 = .ok (.aload_n 0, 1) := by decide +kernel
theorem dX12_rent_30 : decode cX12_rent 30 = .ok (.iconst 0, 1) := by decide +kernel
theorem dX12_rent_31 : decode cX12_rent 31 = .ok (.putfield 143, 3) := by decide +kernel
theorem dX12_rent_34 : decode cX12_rent 34 = .ok (.iconst 0, 1) := by decide +kernel
theorem dX12_rent_35 : decode cX12_rent 35 = .ok (.istore_n 3, 1) := by decide +kernel
theorem dX12_rent_36 : decode cX12_rent 36 = .ok (.iconst 1, 1) := by decide +kernel
theorem dX12_rent_37 : decode cX12_rent 37 = .ok (.istore 4, 2) := by decide +kernel
theorem dX12_rent_39 : decode cX12_rent 39 = .ok (.iload 4, 2) := by decide +kernel
theorem dX12_rent_41 : decode cX12_rent 41 = .ok (.iload_n 1, 1) := by decide +kernel
theorem dX12_rent_42 : decode cX12_rent 42 = .ok (.if_icmp .ge 26, 3) := by decide +kernel
theorem dX12_rent_45 : decode cX12_rent 45 = .ok (.aload_n 0, 1) := by decide +kernel
theorem dX12_rent_46 : decode cX12_rent 46 = .ok (.iload 4, 2) := by decide +kernel
theorem dX12_rent_48 : decode cX12_rent 48 = .ok (.invokevirtual 351, 3) := by decide +kernel
theorem dX12_rent_51 : decode cX12_rent 51 = .ok (.aload_n 0, 1) := by decide +kernel
theorem dX12_rent_52 : decode cX12_rent 52 = .ok (.iload_n 3, 1) := by decide +kernel
theorem dX12_rent_53 : decode cX12_rent 53 = .ok (.invokevirtual 351, 3) := by decide +kernel
theorem dX12_rent_56 : decode cX12_rent 56 = .ok (.if_icmp .le 6, 3) := by decide +kernel
theorem dX12_rent_59 : decode cX12_rent 59 = .ok (.iload 4, 2) := by decide +kernel
theorem dX12_rent_61 : decode cX12_rent 61 = .ok (.istore_n 3, 1) := by decide +kernel
theorem dX12_rent_62 : decode cX12_rent 62 = .ok (.iinc 4 1, 3) := by decide +kernel
theorem dX12_rent_65 : decode cX12_rent 65 = .ok (.goto (-26), 3) := by decide +kernel
theorem dX12_rent_68 : decode cX12_rent 68 = .ok (.iconst 0, 1) := by decide +kernel
theorem dX12_rent_69 : decode cX12_rent 69 = .ok (.istore 4, 2) := by decide +kernel
theorem dX12_rent_71 : decode cX12_rent 71 = .ok (.iconst 0, 1) := by decide +kernel
theorem dX12_rent_72 : decode cX12_rent 72 = .ok (.istore 5, 2) := by decide +kernel
theorem dX12_rent_74 : decode cX12_rent 74 = .ok (.iload 5, 2) := by decide +kernel
theorem dX12_rent_76 : decode cX12_rent 76 = .ok (.iload_n 1, 1) := by decide +kernel
theorem dX12_rent_77 : decode cX12_rent 77 = .ok (.if_icmp .ge 28, 3) := by decide +kernel
theorem dX12_rent_80 : decode cX12_rent 80 = .ok (.iload 5, 2) := by decide +kernel
theorem dX12_rent_82 : decode cX12_rent 82 = .ok (.iload_n 3, 1) := by decide +kernel
theorem dX12_rent_83 : decode cX12_rent 83 = .ok (.if_icmp .eq 16, 3) := by decide +kernel
theorem dX12_rent_86 : decode cX12_rent 86 = .ok (.iload 4, 2) := by decide +kernel
theorem dX12_rent_88 : decode cX12_rent 88 = .ok (.aload_n 0, 1) := by decide +kernel
theorem dX12_rent_89 : decode cX12_rent 89 = .ok (.iload 5, 2) := by decide +kernel
theorem dX12_rent_91 : decode cX12_rent 91 = .ok (.invokevirtual 351, 3) := by decide +kernel
theorem dX12_rent_94 : decode cX12_rent 94 = .ok (.invokestatic 129, 3) := by decide +kernel
theorem dX12_rent_97 : decode cX12_rent 97 = .ok (.istore 4, 2) := by decide +kernel
theorem dX12_rent_99 : decode cX12_rent 99 = .ok (.iinc 5 1, 3) := by decide +kernel
theorem dX12_rent_102 : decode cX12_rent 102 = .ok (.goto (-28), 3) := by decide +kernel
theorem dX12_rent_105 : decode cX12_rent 105 = .ok (.iload_n 2, 1) := by decide +kernel
theorem dX12_rent_106 : decode cX12_rent 106 = .ok (.ifCond .ne 7, 3) := by decide +kernel
theorem dX12_rent_109 : decode cX12_rent 109 = .ok (.iload_n 3, 1) := by decide +kernel
theorem dX12_rent_110 : decode cX12_rent 110 = .ok (.goto 5, 3) := by decide +kernel
theorem dX12_rent_113 : decode cX12_rent 113 = .ok (.iload 4, 2) := by decide +kernel
theorem dX12_rent_115 : decode cX12_rent 115 = .ok (.ireturn, 1) := by decide +kernel
def f_X12_rent_n74 (x1 : Int32) (x2 : Int32) : Nat → Gr → Int32 → Int32 → Int32 → Option (Int32 × Gr)
  | 0, _, _, _, _ => none
  | n + 1, S0, x3, x4, x5 => if x1 ≤ x5 then (if x2 = 0 then (some (x3, S0)) else (some (x4, S0))) else (if x5 = x3 then (lt' (x5 + 1) fun v16 => f_X12_rent_n74 x1 x2 n S0 x3 x4 v16) else ((f_X12_octet S0 x5).bind fun u17 => (f_X12_max x4 u17).bind fun u18 => lt' (x5 + 1) fun v19 => f_X12_rent_n74 x1 x2 n S0 x3 u18 v19))
def f_X12_rent_n39 (x1 : Int32) (x2 : Int32) : Nat → Gr → Int32 → Int32 → Option (Int32 × Gr)
  | 0, _, _, _ => none
  | n + 1, S0, x3, x4 => if x1 ≤ x4 then (f_X12_rent_n74 x1 x2 fu S0 x3 0 0) else ((f_X12_octet S0 x4).bind fun u8 => (f_X12_octet S0 x3).bind fun u9 => if u8 ≤ u9 then (lt' (x4 + 1) fun v11 => f_X12_rent_n39 x1 x2 n S0 x3 v11) else (lt' (x4 + 1) fun v12 => f_X12_rent_n39 x1 x2 n S0 x4 v12))
def f_X12_rent (S0 : Gr) (x1 : Int32) (x2 : Int32) : Option (Int32 × Gr) := (f_X12_in x1 2 12).bind fun u1 => if u1 = 0 then (some ((-1), S0)) else ((f_X12_in x2 0 1).bind fun u3 => if u3 = 0 then (some ((-1), S0)) else (if x1 ≤ (S0.1 8) then (lt' (sI S0 8 0) fun S0_6 => f_X12_rent_n39 x1 x2 fu S0_6 0 1) else (some ((-1), S0))))
set_option maxHeartbeats 4000000 in
set_option maxRecDepth 100000 in
theorem c_X12_rent (l : Launch) (E : Ec) (q0 : Nat → Nat) (sz : Nat) (S0 : Gr) (x1 : Int32) (x2 : Int32) (Rv : Int32 × Gr) (h : f_X12_rent S0 x1 x2 = some Rv) : Met l yX12_rent (wsM (.code yX12_rent cX12_rent 6 (some .int))) ({ frames := 1, cells := 0, slots := 0, locals := 22 } : Room) (va_Pc [.ref (q0 0), .int x1, .int x2] (ctP E (cw_X12 E q0 S0) sz)) (ctI E (cw_X12 E q0 S0) (cw_X12 E q0 Rv.2) sz Rv.1) 0 0 (va_A (cw_X12 E q0 S0) sz) := by
  refine ct_metI (by decide) (Nat.le_of_ble_eq_true rfl) ?_
  intro p e s m ar below meth c A QM hx hb hml hown hg X hP hD hS RET ls hl
  have hown : s.vm.findClass RX12 = some m.cls := hown
  have hl : lv_has ls 6 [(0, .ref (q0 0)), (1, .int x1), (2, .int x2)] := hl
  have RT : ∀ (v : Int32) (S0 : Gr) (H : Heap) (locs : List Loc) (ls : Array Slot) (pc : Nat), some (v, S0) = some Rv → narrow .int (.int v) = .int v → va_P E.1 vwCl (cw_X12 E q0 S0) H → va_D A (cw_X12 E q0 S0) → va_S A s.heap H locs → decode cX12_rent pc = .ok (.ireturn, 1) → W p l e ({ frames := 1, cells := 0, slots := 0, locals := 22 } : Room) s m ar below meth c H locs 0 0 QM (F0 m pc ls [.int v]) := by
    intro v S0 H locs ls pc e hn hP hD hS d
    obtain rfl := sm_e e
    exact RET H locs pc ls hn hP hD hS d
  clear RET
  have N74 : ∀ (n : Nat) (S0 : Gr) (x3 : Int32) (x4 : Int32) (x5 : Int32) (H : Heap) (locs : List Loc) (ls : Array Slot), f_X12_rent_n74 x1 x2 n S0 x3 x4 x5 = some Rv → va_P E.1 vwCl (cw_X12 E q0 S0) H → va_D A (cw_X12 E q0 S0) → va_S A s.heap H locs → lv_has ls 6 [(0, .ref (q0 0)), (1, .int x1), (2, .int x2), (3, .int x3), (4, .int x4), (5, .int x5)] → W p l e ({ frames := 1, cells := 0, slots := 0, locals := 22 } : Room) s m ar below meth c H locs 0 0 QM (F0 m 74 ls []) := by
    intro n
    induction n with
    | zero => intro S0 x3 x4 x5 H locs ls h; exact nn_el h
    | succ n ih =>
      intro S0 x3 x4 x5 H locs ls h hP hD hS hl
      refine lv_iload hx hb dX12_rent_74 (lv_at hl 5 rfl) ?_
      refine lv_iload_n hx hb dX12_rent_76 rfl (lv_at hl 1 rfl) ?_
      refine lv_icmp_ge (tgt := 105) hx hb dX12_rent_77 (by decide) (fun c13 => ?_) (fun c13 => ?_)
      · have h := it_t h c13
        refine lv_iload_n hx hb dX12_rent_105 rfl (lv_at hl 2 rfl) ?_
        refine lv_if_ne (tgt := 113) hx hb dX12_rent_106 (by decide) (fun c14 => ?_) (fun c14 => ?_)
        · have h := it_f h c14
          refine lv_iload hx hb dX12_rent_113 (lv_at hl 4 rfl) ?_
          exact RT x4 S0 _ _ _ _ h rfl hP hD hS dX12_rent_115
        · have h := it_t h c14
          refine lv_iload_n hx hb dX12_rent_109 rfl (lv_at hl 3 rfl) ?_
          refine lv_goto (tgt := 115) hx hb dX12_rent_110 (by decide) ?_
          exact RT x3 S0 _ _ _ _ h rfl hP hD hS dX12_rent_115
      · have h := it_f h c13
        refine lv_iload hx hb dX12_rent_80 (lv_at hl 5 rfl) ?_
        refine lv_iload_n hx hb dX12_rent_82 rfl (lv_at hl 3 rfl) ?_
        refine lv_icmp_eq (tgt := 99) hx hb dX12_rent_83 (by decide) (fun c15 => ?_) (fun c15 => ?_)
        · have h := it_t h c15
          obtain ⟨v16, ev16, h⟩ := lt_el h
          refine lv_iinc (v := v16) (lv' := [(5, .int v16), (0, .ref (q0 0)), (1, .int x1), (2, .int x2), (3, .int x3), (4, .int x4)]) hx hb dX12_rent_99 hl (k := 5) rfl (by rw [ev16]; rfl) (by decide) rfl (fun ls hl => ?_)
          refine lv_goto (tgt := 74) hx hb dX12_rent_102 (by decide) ?_
          exact ih S0 x3 x4 v16 _ _ _ h hP hD hS (lv_sub hl [1, 2, 3, 4, 5, 0] rfl)
        · have h := it_f h c15
          refine lv_iload hx hb dX12_rent_86 (lv_at hl 4 rfl) ?_
          refine lv_aload_n hx hb dX12_rent_88 rfl (lv_at hl 0 rfl) ?_
          refine lv_iload hx hb dX12_rent_89 (lv_at hl 5 rfl) ?_
          obtain ⟨u17, hc, h⟩ := bd_el h
          refine ct_iA (w1 := cw_X12 E q0 S0) X hP hD hS (va_runV (C := RX12) (As := [.int x5]) (rest := [.int x4]) ⟨hx, hb, hml, hown, hg⟩ (c_X12_octet l E q0 H.size S0 x5 u17 hc) (cwV 1 hg (gwV wm_X12_351 wi_X12_octet wsl_X12_octet wini_X12 wco_X12_octet) rfl rfl rfl (by decide +kernel) ⟨Nat.le_of_ble_eq_true rfl, Nat.le_of_ble_eq_true rfl⟩) ⟨ct_blind, ct_rv X.1 hP 0 rfl rfl, ct_preA X hP hD hS _⟩ rfl rfl hl.1 rfl (lv_room (Nat.le_of_ble_eq_true rfl)) dX12_rent_91 ⟨Nat.zero_le _, Nat.zero_le _⟩) (fun H locs hP hD hS => ?_)
          obtain ⟨u18, hc, h⟩ := bd_el h
          refine ct_iN X hP hD hS (va_runS (As := [.int x4, .int u17]) (rest := []) ⟨hx, hb, hml, hown, hg⟩ (c_X12_max l E  H.size x4 u17 u18 hc) (va_cwS 2 hg (gwS wm_X12_129 wst_X12_max wini_X12 wco_X12_max) rfl rfl rfl (by decide +kernel) ⟨Nat.le_of_ble_eq_true rfl, Nat.le_of_ble_eq_true rfl⟩) ⟨ct_blind, ct_preN X hS _⟩ rfl rfl hl.1 rfl (lv_room (Nat.le_of_ble_eq_true rfl)) dX12_rent_94 ⟨Nat.zero_le _, Nat.zero_le _⟩) (fun H locs hP hD hS => ?_)
          refine lv_istore (lv' := [(4, .int u18), (0, .ref (q0 0)), (1, .int x1), (2, .int x2), (3, .int x3), (5, .int x5)]) hx hb dX12_rent_97 hl (by decide) rfl (fun ls hl => ?_)
          obtain ⟨v19, ev19, h⟩ := lt_el h
          refine lv_iinc (v := v19) (lv' := [(5, .int v19), (4, .int u18), (0, .ref (q0 0)), (1, .int x1), (2, .int x2), (3, .int x3)]) hx hb dX12_rent_99 hl (k := 5) rfl (by rw [ev19]; rfl) (by decide) rfl (fun ls hl => ?_)
          refine lv_goto (tgt := 74) hx hb dX12_rent_102 (by decide) ?_
          exact ih S0 x3 u18 v19 _ _ _ h hP hD hS (lv_sub hl [2, 3, 4, 5, 1, 0] rfl)
  have N39 : ∀ (n : Nat) (S0 : Gr) (x3 : Int32) (x4 : Int32) (H : Heap) (locs : List Loc) (ls : Array Slot), f_X12_rent_n39 x1 x2 n S0 x3 x4 = some Rv → va_P E.1 vwCl (cw_X12 E q0 S0) H → va_D A (cw_X12 E q0 S0) → va_S A s.heap H locs → lv_has ls 6 [(0, .ref (q0 0)), (1, .int x1), (2, .int x2), (3, .int x3), (4, .int x4)] → W p l e ({ frames := 1, cells := 0, slots := 0, locals := 22 } : Room) s m ar below meth c H locs 0 0 QM (F0 m 39 ls []) := by
    intro n
    induction n with
    | zero => intro S0 x3 x4 H locs ls h; exact nn_el h
    | succ n ih =>
      intro S0 x3 x4 H locs ls h hP hD hS hl
      refine lv_iload hx hb dX12_rent_39 (lv_at hl 4 rfl) ?_
      refine lv_iload_n hx hb dX12_rent_41 rfl (lv_at hl 1 rfl) ?_
      refine lv_icmp_ge (tgt := 68) hx hb dX12_rent_42 (by decide) (fun c7 => ?_) (fun c7 => ?_)
      · have h := it_t h c7
        refine lv_iconst (v := 0) hx hb dX12_rent_68 (by decide) ?_
        refine lv_istore (lv' := [(4, .int 0), (0, .ref (q0 0)), (1, .int x1), (2, .int x2), (3, .int x3)]) hx hb dX12_rent_69 hl (by decide) rfl (fun ls hl => ?_)
        refine lv_iconst (v := 0) hx hb dX12_rent_71 (by decide) ?_
        refine lv_istore (lv' := [(5, .int 0), (4, .int 0), (0, .ref (q0 0)), (1, .int x1), (2, .int x2), (3, .int x3)]) hx hb dX12_rent_72 hl (by decide) rfl (fun ls hl => ?_)
        exact N74 fu S0 x3 0 0 _ _ _ h hP hD hS (lv_sub hl [2, 3, 4, 5, 1, 0] rfl)
      · have h := it_f h c7
        refine lv_aload_n hx hb dX12_rent_45 rfl (lv_at hl 0 rfl) ?_
        refine lv_iload hx hb dX12_rent_46 (lv_at hl 4 rfl) ?_
        obtain ⟨u8, hc, h⟩ := bd_el h
        refine ct_iA (w1 := cw_X12 E q0 S0) X hP hD hS (va_runV (C := RX12) (As := [.int x4]) (rest := []) ⟨hx, hb, hml, hown, hg⟩ (c_X12_octet l E q0 H.size S0 x4 u8 hc) (cwV 1 hg (gwV wm_X12_351 wi_X12_octet wsl_X12_octet wini_X12 wco_X12_octet) rfl rfl rfl (by decide +kernel) ⟨Nat.le_of_ble_eq_true rfl, Nat.le_of_ble_eq_true rfl⟩) ⟨ct_blind, ct_rv X.1 hP 0 rfl rfl, ct_preA X hP hD hS _⟩ rfl rfl hl.1 rfl (lv_room (Nat.le_of_ble_eq_true rfl)) dX12_rent_48 ⟨Nat.zero_le _, Nat.zero_le _⟩) (fun H locs hP hD hS => ?_)
        refine lv_aload_n hx hb dX12_rent_51 rfl (lv_at hl 0 rfl) ?_
        refine lv_iload_n hx hb dX12_rent_52 rfl (lv_at hl 3 rfl) ?_
        obtain ⟨u9, hc, h⟩ := bd_el h
        refine ct_iA (w1 := cw_X12 E q0 S0) X hP hD hS (va_runV (C := RX12) (As := [.int x3]) (rest := [.int u8]) ⟨hx, hb, hml, hown, hg⟩ (c_X12_octet l E q0 H.size S0 x3 u9 hc) (cwV 1 hg (gwV wm_X12_351 wi_X12_octet wsl_X12_octet wini_X12 wco_X12_octet) rfl rfl rfl (by decide +kernel) ⟨Nat.le_of_ble_eq_true rfl, Nat.le_of_ble_eq_true rfl⟩) ⟨ct_blind, ct_rv X.1 hP 0 rfl rfl, ct_preA X hP hD hS _⟩ rfl rfl hl.1 rfl (lv_room (Nat.le_of_ble_eq_true rfl)) dX12_rent_53 ⟨Nat.zero_le _, Nat.zero_le _⟩) (fun H locs hP hD hS => ?_)
        refine lv_icmp_le (tgt := 62) hx hb dX12_rent_56 (by decide) (fun c10 => ?_) (fun c10 => ?_)
        · have h := it_t h c10
          obtain ⟨v11, ev11, h⟩ := lt_el h
          refine lv_iinc (v := v11) (lv' := [(4, .int v11), (0, .ref (q0 0)), (1, .int x1), (2, .int x2), (3, .int x3)]) hx hb dX12_rent_62 hl (k := 4) rfl (by rw [ev11]; rfl) (by decide) rfl (fun ls hl => ?_)
          refine lv_goto (tgt := 39) hx hb dX12_rent_65 (by decide) ?_
          exact ih S0 x3 v11 _ _ _ h hP hD hS (lv_sub hl [1, 2, 3, 4, 0] rfl)
        · have h := it_f h c10
          refine lv_iload hx hb dX12_rent_59 (lv_at hl 4 rfl) ?_
          refine lv_istore_n (lv' := [(3, .int x4), (0, .ref (q0 0)), (1, .int x1), (2, .int x2), (4, .int x4)]) hx hb dX12_rent_61 rfl hl (by decide) rfl (fun ls hl => ?_)
          obtain ⟨v12, ev12, h⟩ := lt_el h
          refine lv_iinc (v := v12) (lv' := [(4, .int v12), (3, .int x4), (0, .ref (q0 0)), (1, .int x1), (2, .int x2)]) hx hb dX12_rent_62 hl (k := 4) rfl (by rw [ev12]; rfl) (by decide) rfl (fun ls hl => ?_)
          refine lv_goto (tgt := 39) hx hb dX12_rent_65 (by decide) ?_
          exact ih S0 x4 v12 _ _ _ h hP hD hS (lv_sub hl [2, 3, 4, 1, 0] rfl)
  obtain ⟨H, eH⟩ : ∃ z, z = s.heap := ⟨_, rfl⟩
  rw [← eH]
  have hP : va_P E.1 vwCl (cw_X12 E q0 S0) H := by rw [eH]; exact hP
  have hS : va_S A s.heap H [] := by rw [eH]; exact hS
  clear eH
  obtain ⟨locs, el⟩ : ∃ z : List Loc, z = [] := ⟨_, rfl⟩
  rw [← el] at hS ⊢
  clear el
  refine lv_iload_n hx hb dX12_rent_0 rfl (lv_at hl 1 rfl) ?_
  refine lv_iconst (v := 2) hx hb dX12_rent_1 (by decide) ?_
  refine lv_bipush (v := 12) hx hb dX12_rent_2 (by decide) ?_
  obtain ⟨u1, hc, h⟩ := bd_el h
  refine ct_iN X hP hD hS (va_runS (As := [.int x1, .int 2, .int 12]) (rest := []) ⟨hx, hb, hml, hown, hg⟩ (c_X12_in l E  H.size x1 2 12 u1 hc) (va_cwS 3 hg (gwS wm_X12_110 wst_X12_in wini_X12 wco_X12_in) rfl rfl rfl (by decide +kernel) ⟨Nat.le_of_ble_eq_true rfl, Nat.le_of_ble_eq_true rfl⟩) ⟨ct_blind, ct_preN X hS _⟩ rfl rfl hl.1 rfl (lv_room (Nat.le_of_ble_eq_true rfl)) dX12_rent_4 ⟨Nat.zero_le _, Nat.zero_le _⟩) (fun H locs hP hD hS => ?_)
  refine lv_if_eq (tgt := 27) hx hb dX12_rent_7 (by decide) (fun c2 => ?_) (fun c2 => ?_)
  · have h := it_t h c2
    refine lv_iconst (v := (-1)) hx hb dX12_rent_27 (by decide) ?_
    exact RT (-1) S0 _ _ _ _ h rfl hP hD hS dX12_rent_28
  · have h := it_f h c2
    refine lv_iload_n hx hb dX12_rent_10 rfl (lv_at hl 2 rfl) ?_
    refine lv_iconst (v := 0) hx hb dX12_rent_11 (by decide) ?_
    refine lv_iconst (v := 1) hx hb dX12_rent_12 (by decide) ?_
    obtain ⟨u3, hc, h⟩ := bd_el h
    refine ct_iN X hP hD hS (va_runS (As := [.int x2, .int 0, .int 1]) (rest := []) ⟨hx, hb, hml, hown, hg⟩ (c_X12_in l E  H.size x2 0 1 u3 hc) (va_cwS 3 hg (gwS wm_X12_110 wst_X12_in wini_X12 wco_X12_in) rfl rfl rfl (by decide +kernel) ⟨Nat.le_of_ble_eq_true rfl, Nat.le_of_ble_eq_true rfl⟩) ⟨ct_blind, ct_preN X hS _⟩ rfl rfl hl.1 rfl (lv_room (Nat.le_of_ble_eq_true rfl)) dX12_rent_13 ⟨Nat.zero_le _, Nat.zero_le _⟩) (fun H locs hP hD hS => ?_)
    refine lv_if_eq (tgt := 27) hx hb dX12_rent_16 (by decide) (fun c4 => ?_) (fun c4 => ?_)
    · have h := it_t h c4
      refine lv_iconst (v := (-1)) hx hb dX12_rent_27 (by decide) ?_
      exact RT (-1) S0 _ _ _ _ h rfl hP hD hS dX12_rent_28
    · have h := it_f h c4
      refine lv_iload_n hx hb dX12_rent_19 rfl (lv_at hl 1 rfl) ?_
      refine lv_aload_n hx hb dX12_rent_20 rfl (lv_at hl 0 rfl) ?_
      refine va_get (D := E.1) (ci := 11) (v := .int (S0.1 8)) (C := RX12) (T := TX12) (N := 57) hx hb hg in_X12 hown X.1 hP 0 rfl rfl 8 (by decide) (hg _ wf_X12_143) (fun _ h9 => h9) rfl dX12_rent_21 ?_
      refine lv_icmp_le (tgt := 29) hx hb dX12_rent_24 (by decide) (fun c5 => ?_) (fun c5 => ?_)
      · have h := it_t h c5
        refine lv_aload_n hx hb dX12_rent_29 rfl (lv_at hl 0 rfl) ?_
        refine lv_iconst (v := 0) hx hb dX12_rent_30 (by decide) ?_
        obtain ⟨S0_6, eS, h⟩ := lt_el h
        refine va_put (D := E.1) (ci := 11) (v := .int 0) (ty := .int) (C := RX12) (T := TX12) (N := 57) hx hb hg in_X12 tyX12 tyX12_ok nmX12 hown X.1 hP hD hS 0 rfl rfl 8 (by decide) (hg _ wf_X12_143) (fun _ h9 => h9) rfl (by decide +kernel) rfl rfl (Nat.le_of_ble_eq_true rfl) dX12_rent_31 (fun H locs hP hD hS => ?_)
        have hP : va_P E.1 vwCl (cw_X12 E q0 S0_6) H := by rw [eS]; exact hP
        have hD : va_D A (cw_X12 E q0 S0_6) := by rw [eS]; exact hD
        clear eS
        refine lv_iconst (v := 0) hx hb dX12_rent_34 (by decide) ?_
        refine lv_istore_n (lv' := [(3, .int 0), (0, .ref (q0 0)), (1, .int x1), (2, .int x2)]) hx hb dX12_rent_35 rfl hl (by decide) rfl (fun ls hl => ?_)
        refine lv_iconst (v := 1) hx hb dX12_rent_36 (by decide) ?_
        refine lv_istore (lv' := [(4, .int 1), (3, .int 0), (0, .ref (q0 0)), (1, .int x1), (2, .int x2)]) hx hb dX12_rent_37 hl (by decide) rfl (fun ls hl => ?_)
        exact N39 fu S0_6 0 1 _ _ _ h hP hD hS (lv_sub hl [2, 3, 4, 1, 0] rfl)
      · have h := it_f h c5
        refine lv_iconst (v := (-1)) hx hb dX12_rent_27 (by decide) ?_
        exact RT (-1) S0 _ _ _ _ h rfl hP hD hS dX12_rent_28
theorem dX12_seed_0 : decode cX12_seed 0 = .ok (.iload_n 1, 1) := by decide +kernel
theorem dX12_seed_1 : decode cX12_seed 1 = .ok (.iconst 0, 1) := by decide +kernel
theorem dX12_seed_2 : decode cX12_seed 2 = .ok (.ldc_w 419, 3) := by decide +kernel
theorem dX12_seed_5 : decode cX12_seed 5 = .ok (.invokestatic 110, 3) := by decide +kernel
theorem dX12_seed_8 : decode cX12_seed 8 = .ok (.ifCond .ne 5, 3) := by decide +kernel
theorem dX12_seed_11 : decode cX12_seed 11 = .ok (.iconst 0, 1) := by decide +kernel
theorem dX12_seed_12 : decode cX12_seed 12 = .ok (.ireturn, 1) := by decide +kernel
theorem dX12_seed_13 : decode cX12_seed 13 = .ok (.aload_n 0, 1) := by decide +kernel
theorem dX12_seed_14 : decode cX12_seed 14 = .ok (.getfield 7, 3) := by decide +kernel
theorem dX12_seed_17 : decode cX12_seed 17 = .ok (.bipush 81, 2) := by decide +kernel
theorem dX12_seed_19 : decode cX12_seed 19 = .ok (.iload_n 1, 1) := by decide +kernel
theorem dX12_seed_20 : decode cX12_seed 20 = .ok (.iastore, 1) := by decide +kernel
theorem dX12_seed_21 : decode cX12_seed 21 = .ok (.iconst 1, 1) := by decide +kernel
theorem dX12_seed_22 : decode cX12_seed 22 = .ok (.ireturn, 1) := by decide +kernel
def f_X12_seed (S0 : Gr) (x1 : Int32) : Option (Int32 × Gr) := (f_X12_in x1 0 65535).bind fun u1 => if u1 = 0 then (some (0, S0)) else (ck' 82 81 (lt' (sA S0 0 (Int32.toNatClampNeg 81) x1) fun S0_3 => some (1, S0_3)))
set_option maxHeartbeats 4000000 in
set_option maxRecDepth 100000 in
theorem c_X12_seed (l : Launch) (E : Ec) (q0 : Nat → Nat) (sz : Nat) (S0 : Gr) (x1 : Int32) (Rv : Int32 × Gr) (h : f_X12_seed S0 x1 = some Rv) : Met l yX12_seed (wsM (.code yX12_seed cX12_seed 2 (some .boolean))) ({ frames := 1, cells := 0, slots := 0, locals := 22 } : Room) (va_Pc [.ref (q0 0), .int x1] (ctP E (cw_X12 E q0 S0) sz)) (ctI E (cw_X12 E q0 S0) (cw_X12 E q0 Rv.2) sz Rv.1) 0 0 (va_A (cw_X12 E q0 S0) sz) := by
  refine ct_metI (by decide) (Nat.le_of_ble_eq_true rfl) ?_
  intro p e s m ar below meth c A QM hx hb hml hown hg X hP hD hS RET ls hl
  have hown : s.vm.findClass RX12 = some m.cls := hown
  have hl : lv_has ls 2 [(0, .ref (q0 0)), (1, .int x1)] := hl
  have RT : ∀ (v : Int32) (S0 : Gr) (H : Heap) (locs : List Loc) (ls : Array Slot) (pc : Nat), some (v, S0) = some Rv → narrow .boolean (.int v) = .int v → va_P E.1 vwCl (cw_X12 E q0 S0) H → va_D A (cw_X12 E q0 S0) → va_S A s.heap H locs → decode cX12_seed pc = .ok (.ireturn, 1) → W p l e ({ frames := 1, cells := 0, slots := 0, locals := 22 } : Room) s m ar below meth c H locs 0 0 QM (F0 m pc ls [.int v]) := by
    intro v S0 H locs ls pc e hn hP hD hS d
    obtain rfl := sm_e e
    exact RET H locs pc ls hn hP hD hS d
  clear RET
  obtain ⟨H, eH⟩ : ∃ z, z = s.heap := ⟨_, rfl⟩
  rw [← eH]
  have hP : va_P E.1 vwCl (cw_X12 E q0 S0) H := by rw [eH]; exact hP
  have hS : va_S A s.heap H [] := by rw [eH]; exact hS
  clear eH
  obtain ⟨locs, el⟩ : ∃ z : List Loc, z = [] := ⟨_, rfl⟩
  rw [← el] at hS ⊢
  clear el
  refine lv_iload_n hx hb dX12_seed_0 rfl (lv_at hl 1 rfl) ?_
  refine lv_iconst (v := 0) hx hb dX12_seed_1 (by decide) ?_
  refine lv_ldcw hx hb hown (hg _ wcn_X12_419) dX12_seed_2 ?_
  obtain ⟨u1, hc, h⟩ := bd_el h
  refine ct_iN X hP hD hS (va_runS (As := [.int x1, .int 0, .int 65535]) (rest := []) ⟨hx, hb, hml, hown, hg⟩ (c_X12_in l E  H.size x1 0 65535 u1 hc) (va_cwS 3 hg (gwS wm_X12_110 wst_X12_in wini_X12 wco_X12_in) rfl rfl rfl (by decide +kernel) ⟨Nat.le_of_ble_eq_true rfl, Nat.le_of_ble_eq_true rfl⟩) ⟨ct_blind, ct_preN X hS _⟩ rfl rfl hl.1 rfl (lv_room (Nat.le_of_ble_eq_true rfl)) dX12_seed_5 ⟨Nat.zero_le _, Nat.zero_le _⟩) (fun H locs hP hD hS => ?_)
  refine lv_if_ne (tgt := 13) hx hb dX12_seed_8 (by decide) (fun c2 => ?_) (fun c2 => ?_)
  · have h := it_f h c2
    refine lv_aload_n hx hb dX12_seed_13 rfl (lv_at hl 0 rfl) ?_
    refine va_get (D := E.1) (ci := 11) (v := .ref (q0 1)) (C := RX12) (T := TX12) (N := 57) hx hb hg in_X12 hown X.1 hP 0 rfl rfl 0 (by decide) (hg _ wf_X12_7) (fun _ h9 => h9) rfl dX12_seed_14 ?_
    refine lv_bipush (v := 81) hx hb dX12_seed_17 (by decide) ?_
    refine lv_iload_n hx hb dX12_seed_19 rfl (lv_at hl 1 rfl) ?_
    obtain ⟨hi, h⟩ := ck_el h
    obtain ⟨S0_3, eS, h⟩ := lt_el h
    refine va_iast hx hb X.1 hP hD hS 1 0 rfl rfl hi dX12_seed_20 (fun H locs hP hD hS => ?_)
    have hP : va_P E.1 vwCl (cw_X12 E q0 S0_3) H := by rw [eS]; exact hP
    have hD : va_D A (cw_X12 E q0 S0_3) := by rw [eS]; exact hD
    clear eS
    refine lv_iconst (v := 1) hx hb dX12_seed_21 (by decide) ?_
    exact RT 1 S0_3 _ _ _ _ h (by decide +kernel) hP hD hS dX12_seed_22
  · have h := it_t h c2
    refine lv_iconst (v := 0) hx hb dX12_seed_11 (by decide) ?_
    exact RT 0 S0 _ _ _ _ h (by decide +kernel) hP hD hS dX12_seed_12
theorem dX12_undo_0 : decode cX12_undo 0 = .ok (.aload_n 0, 1) := by decide +kernel
theorem dX12_undo_1 : decode cX12_undo 1 = .ok (.getfield 420, 3) := by decide +kernel
theorem dX12_undo_4 : decode cX12_undo 4 = .ok (.ifCond .ne 5, 3) := by decide +kernel
theorem dX12_undo_7 : decode cX12_undo 7 = .ok (.iconst 0, 1) := by decide +kernel
theorem dX12_undo_8 : decode cX12_undo 8 = .ok (.ireturn, 1) := by decide +kernel
theorem dX12_undo_9 : decode cX12_undo 9 = .ok (.iconst 0, 1) := by decide +kernel
theorem dX12_undo_10 : decode cX12_undo 10 = .ok (.istore_n 1, 1) := by decide +kernel
theorem dX12_undo_11 : decode cX12_undo 11 = .ok (.iload_n 1, 1) := by decide +kernel
theorem dX12_undo_12 : decode cX12_undo 12 = .ok (.bipush 8, 2) := by decide +kernel
theorem dX12_undo_14 : decode cX12_undo 14 = .ok (.if_icmp .ge 118, 3) := by decide +kernel
theorem dX12_undo_17 : decode cX12_undo 17 = .ok (.bipush 8, 2) := by decide +kernel
theorem dX12_undo_19 : decode cX12_undo 19 = .ok (.iload_n 1, 1) := by decide +kernel
theorem dX12_undo_20 : decode cX12_undo 20 = .ok (.imul, 1) := by decide +kernel
theorem dX12_undo_21 : decode cX12_undo 21 = .ok (.istore_n 2, 1) := by decide +kernel
theorem dX12_undo_22 : decode cX12_undo 22 = .ok (.iload_n 2, 1) := by decide +kernel
theorem dX12_undo_23 : decode cX12_undo 23 = .ok (.bipush 8, 2) := by decide +kernel
theorem dX12_undo_25 : decode cX12_undo 25 = .ok (.iload_n 1, 1) := by decide +kernel
theorem dX12_undo_26 : decode cX12_undo 26 = .ok (.imul, 1) := by decide +kernel
theorem dX12_undo_27 : decode cX12_undo 27 = .ok (.bipush 8, 2) := by decide +kernel
theorem dX12_undo_29 : decode cX12_undo 29 = .ok (.iadd, 1) := by decide +kernel
theorem dX12_undo_30 : decode cX12_undo 30 = .ok (.if_icmp .ge 41, 3) := by decide +kernel
theorem dX12_undo_33 : decode cX12_undo 33 = .ok (.aload_n 0, 1) := by decide +kernel
theorem dX12_undo_34 : decode cX12_undo 34 = .ok (.getfield 114, 3) := by decide +kernel
theorem dX12_undo_37 : decode cX12_undo 37 = .ok (.aload_n 0, 1) := by decide +kernel
theorem dX12_undo_38 : decode cX12_undo 38 = .ok (.getfield 424, 3) := by decide +kernel
theorem dX12_undo_41 : decode cX12_undo 41 = .ok (.iand, 1) := by decide +kernel
theorem dX12_undo_42 : decode cX12_undo 42 = .ok (.iload_n 1, 1) := by decide +kernel
theorem dX12_undo_43 : decode cX12_undo 43 = .ok (.invokestatic 118, 3) := by decide +kernel
theorem dX12_undo_46 : decode cX12_undo 46 = .ok (.ifCond .eq 19, 3) := by decide +kernel
theorem dX12_undo_49 : decode cX12_undo 49 = .ok (.aload_n 0, 1) := by decide +kernel
theorem dX12_undo_50 : decode cX12_undo 50 = .ok (.getfield 7, 3) := by decide +kernel
theorem dX12_undo_53 : decode cX12_undo 53 = .ok (.iconst 0, 1) := by decide +kernel
theorem dX12_undo_54 : decode cX12_undo 54 = .ok (.iload_n 2, 1) := by decide +kernel
theorem dX12_undo_55 : decode cX12_undo 55 = .ok (.iadd, 1) := by decide +kernel
theorem dX12_undo_56 : decode cX12_undo 56 = .ok (.aload_n 0, 1) := by decide +kernel
theorem dX12_undo_57 : decode cX12_undo 57 = .ok (.getfield 16, 3) := by decide +kernel
theorem dX12_undo_60 : decode cX12_undo 60 = .ok (.iconst 0, 1) := by decide +kernel
theorem dX12_undo_61 : decode cX12_undo 61 = .ok (.iload_n 2, 1) := by decide +kernel
theorem dX12_undo_62 : decode cX12_undo 62 = .ok (.iadd, 1) := by decide +kernel
theorem dX12_undo_63 : decode cX12_undo 63 = .ok (.iaload, 1) := by decide +kernel
theorem dX12_undo_64 : decode cX12_undo 64 = .ok (.iastore, 1) := by decide +kernel
theorem dX12_undo_65 : decode cX12_undo 65 = .ok (.iinc 2 1, 3) := by decide +kernel
theorem dX12_undo_68 : decode cX12_undo 68 = .ok (.goto (-46), 3) := by decide +kernel
theorem dX12_undo_71 : decode cX12_undo 71 = .ok (.aload_n 0, 1) := by decide +kernel
theorem dX12_undo_72 : decode cX12_undo 72 = .ok (.getfield 122, 3) := by decide +kernel
theorem dX12_undo_75 : decode cX12_undo 75 = .ok (.aload_n 0, 1) := by decide +kernel
theorem dX12_undo_76 : decode cX12_undo 76 = .ok (.getfield 427, 3) := by decide +kernel
theorem dX12_undo_79 : decode cX12_undo 79 = .ok (.iand, 1) := by decide +kernel
theorem dX12_undo_80 : decode cX12_undo 80 = .ok (.iload_n 1, 1) := by decide +kernel
theorem dX12_undo_81 : decode cX12_undo 81 = .ok (.invokestatic 118, 3) := by decide +kernel
theorem dX12_undo_84 : decode cX12_undo 84 = .ok (.ifCond .ne 6, 3) := by decide +kernel
theorem dX12_undo_87 : decode cX12_undo 87 = .ok (.goto 39, 3) := by decide +kernel
theorem dX12_undo_90 : decode cX12_undo 90 = .ok (.aload_n 0, 1) := by decide +kernel
theorem dX12_undo_91 : decode cX12_undo 91 = .ok (.getfield 7, 3) := by decide +kernel
theorem dX12_undo_94 : decode cX12_undo 94 = .ok (.bipush 64, 2) := by decide +kernel
theorem dX12_undo_96 : decode cX12_undo 96 = .ok (.iload_n 1, 1) := by decide +kernel
theorem dX12_undo_97 : decode cX12_undo 97 = .ok (.iadd, 1) := by decide +kernel
theorem dX12_undo_98 : decode cX12_undo 98 = .ok (.aload_n 0, 1) := by decide +kernel
theorem dX12_undo_99 : decode cX12_undo 99 = .ok (.getfield 16, 3) := by decide +kernel
theorem dX12_undo_102 : decode cX12_undo 102 = .ok (.bipush 64, 2) := by decide +kernel
theorem dX12_undo_104 : decode cX12_undo 104 = .ok (.iload_n 1, 1) := by decide +kernel
theorem dX12_undo_105 : decode cX12_undo 105 = .ok (.iadd, 1) := by decide +kernel
theorem dX12_undo_106 : decode cX12_undo 106 = .ok (.iaload, 1) := by decide +kernel
theorem dX12_undo_107 : decode cX12_undo 107 = .ok (.iastore, 1) := by decide +kernel
theorem dX12_undo_108 : decode cX12_undo 108 = .ok (.aload_n 0, 1) := by decide +kernel
theorem dX12_undo_109 : decode cX12_undo 109 = .ok (.getfield 7, 3) := by decide +kernel
theorem dX12_undo_112 : decode cX12_undo 112 = .ok (.bipush 72, 2) := by decide +kernel
theorem dX12_undo_114 : decode cX12_undo 114 = .ok (.iload_n 1, 1) := by decide +kernel
theorem dX12_undo_115 : decode cX12_undo 115 = .ok (.iadd, 1) := by decide +kernel
theorem dX12_undo_116 : decode cX12_undo 116 = .ok (.aload_n 0, 1) := by decide +kernel
theorem dX12_undo_117 : decode cX12_undo 117 = .ok (.getfield 16, 3) := by decide +kernel
theorem dX12_undo_120 : decode cX12_undo 120 = .ok (.bipush 72, 2) := by decide +kernel
theorem dX12_undo_122 : decode cX12_undo 122 = .ok (.iload_n 1, 1) := by decide +kernel
theorem dX12_undo_123 : decode cX12_undo 123 = .ok (.iadd, 1) := by decide +kernel
theorem dX12_undo_124 : decode cX12_undo 124 = .ok (.iaload, 1) := by decide +kernel
theorem dX12_undo_125 : decode cX12_undo 125 = .ok (.iastore, 1) := by decide +kernel
theorem dX12_undo_126 : decode cX12_undo 126 = .ok (.iinc 1 1, 3) := by decide +kernel
theorem dX12_undo_129 : decode cX12_undo 129 = .ok (.goto (-118), 3) := by decide +kernel
theorem dX12_undo_132 : decode cX12_undo 132 = .ok (.aload_n 0, 1) := by decide +kernel
theorem dX12_undo_133 : decode cX12_undo 133 = .ok (.getfield 7, 3) := by decide +kernel
theorem dX12_undo_136 : decode cX12_undo 136 = .ok (.bipush 80, 2) := by decide +kernel
theorem dX12_undo_138 : decode cX12_undo 138 = .ok (.aload_n 0, 1) := by decide +kernel
theorem dX12_undo_139 : decode cX12_undo 139 = .ok (.getfield 16, 3) := by decide +kernel
theorem dX12_undo_142 : decode cX12_undo 142 = .ok (.bipush 80, 2) := by decide +kernel
theorem dX12_undo_144 : decode cX12_undo 144 = .ok (.iaload, 1) := by decide +kernel
theorem dX12_undo_145 : decode cX12_undo 145 = .ok (.iastore, 1) := by decide +kernel
theorem dX12_undo_146 : decode cX12_undo 146 = .ok (.aload_n 0, 1) := by decide +kernel
theorem dX12_undo_147 : decode cX12_undo 147 = .ok (.getfield 7, 3) := by decide +kernel
theorem dX12_undo_150 : decode cX12_undo 150 = .ok (.bipush 81, 2) := by decide +kernel
theorem dX12_undo_152 : decode cX12_undo 152 = .ok (.aload_n 0, 1) := by decide +kernel
theorem dX12_undo_153 : decode cX12_undo 153 = .ok (.getfield 16, 3) := by decide +kernel
theorem dX12_undo_156 : decode cX12_undo 156 = .ok (.bipush 81, 2) := by decide +kernel
theorem dX12_undo_158 : decode cX12_undo 158 = .ok (.iaload, 1) := by decide +kernel
theorem dX12_undo_159 : decode cX12_undo 159 = .ok (.iastore, 1) := by decide +kernel
theorem dX12_undo_160 : decode cX12_undo 160 = .ok (.iconst 1, 1) := by decide +kernel
theorem dX12_undo_161 : decode cX12_undo 161 = .ok (.ireturn, 1) := by decide +kernel
def f_X12_undo_n22  (k11 : Gr → Int32 → Option (Int32 × Gr)) : Nat → Gr → Int32 → Int32 → Option (Int32 × Gr)
  | 0, _, _, _ => none
  | n + 1, S0, x1, x2 => if ((8 * x1) + 8) ≤ x2 then ((f_X12_has ((S0.1 6) &&& (S0.1 56)) x1).bind fun u9 => if u9 = 0 then (lt' (x1 + 1) fun v16 => k11 S0 v16) else (rd' (S0.2 2) 82 (64 + x1) fun v11 => ck' 82 (64 + x1) (lt' (sA S0 0 (Int32.toNatClampNeg (64 + x1)) v11) fun S0_12 => rd' (S0_12.2 2) 82 (72 + x1) fun v13 => ck' 82 (72 + x1) (lt' (sA S0_12 0 (Int32.toNatClampNeg (72 + x1)) v13) fun S0_14 => lt' (x1 + 1) fun v15 => k11 S0_14 v15)))) else ((f_X12_has ((S0.1 5) &&& (S0.1 55)) x1).bind fun u17 => if u17 = 0 then (lt' (x2 + 1) fun v19 => f_X12_undo_n22 k11 n S0 x1 v19) else (rd' (S0.2 2) 82 (0 + x2) fun v20 => ck' 82 (0 + x2) (lt' (sA S0 0 (Int32.toNatClampNeg (0 + x2)) v20) fun S0_21 => lt' (x2 + 1) fun v22 => f_X12_undo_n22 k11 n S0_21 x1 v22)))
def f_X12_undo_n11  : Nat → Gr → Int32 → Option (Int32 × Gr)
  | 0, _, _ => none
  | n + 1, S0, x1 => if 8 ≤ x1 then (rd' (S0.2 2) 82 80 fun v3 => ck' 82 80 (lt' (sA S0 0 (Int32.toNatClampNeg 80) v3) fun S0_4 => rd' (S0_4.2 2) 82 81 fun v5 => ck' 82 81 (lt' (sA S0_4 0 (Int32.toNatClampNeg 81) v5) fun S0_6 => some (1, S0_6)))) else (lt' ((8 * x1)) fun v7 => f_X12_undo_n22 (f_X12_undo_n11 n) fu S0 x1 v7)
def f_X12_undo (S0 : Gr) : Option (Int32 × Gr) := if (S0.1 54) = 0 then (some (0, S0)) else (f_X12_undo_n11 fu S0 0)
set_option maxHeartbeats 4000000 in
set_option maxRecDepth 100000 in
theorem c_X12_undo (l : Launch) (E : Ec) (q0 : Nat → Nat) (sz : Nat) (S0 : Gr) (Rv : Int32 × Gr) (h : f_X12_undo S0 = some Rv) : Met l yX12_undo (wsM (.code yX12_undo cX12_undo 3 (some .boolean))) ({ frames := 1, cells := 0, slots := 0, locals := 21 } : Room) (va_Pc [.ref (q0 0)] (ctP E (cw_X12 E q0 S0) sz)) (ctI E (cw_X12 E q0 S0) (cw_X12 E q0 Rv.2) sz Rv.1) 0 0 (va_A (cw_X12 E q0 S0) sz) := by
  refine ct_metI (by decide) (Nat.le_of_ble_eq_true rfl) ?_
  intro p e s m ar below meth c A QM hx hb hml hown hg X hP hD hS RET ls hl
  have hown : s.vm.findClass RX12 = some m.cls := hown
  have hl : lv_has ls 3 [(0, .ref (q0 0))] := hl
  have RT : ∀ (v : Int32) (S0 : Gr) (H : Heap) (locs : List Loc) (ls : Array Slot) (pc : Nat), some (v, S0) = some Rv → narrow .boolean (.int v) = .int v → va_P E.1 vwCl (cw_X12 E q0 S0) H → va_D A (cw_X12 E q0 S0) → va_S A s.heap H locs → decode cX12_undo pc = .ok (.ireturn, 1) → W p l e ({ frames := 1, cells := 0, slots := 0, locals := 21 } : Room) s m ar below meth c H locs 0 0 QM (F0 m pc ls [.int v]) := by
    intro v S0 H locs ls pc e hn hP hD hS d
    obtain rfl := sm_e e
    exact RET H locs pc ls hn hP hD hS d
  clear RET
  have N22 : ∀ (k11 : Gr → Int32 → Option (Int32 × Gr)) (hk11 : ∀ (S0 : Gr) (x1 : Int32) (H : Heap) (locs : List Loc) (ls : Array Slot), k11 S0 x1 = some Rv → va_P E.1 vwCl (cw_X12 E q0 S0) H → va_D A (cw_X12 E q0 S0) → va_S A s.heap H locs → lv_has ls 3 [(0, .ref (q0 0)), (1, .int x1)] → W p l e ({ frames := 1, cells := 0, slots := 0, locals := 21 } : Room) s m ar below meth c H locs 0 0 QM (F0 m 11 ls [])) (n : Nat) (S0 : Gr) (x1 : Int32) (x2 : Int32) (H : Heap) (locs : List Loc) (ls : Array Slot), f_X12_undo_n22 k11 n S0 x1 x2 = some Rv → va_P E.1 vwCl (cw_X12 E q0 S0) H → va_D A (cw_X12 E q0 S0) → va_S A s.heap H locs → lv_has ls 3 [(0, .ref (q0 0)), (1, .int x1), (2, .int x2)] → W p l e ({ frames := 1, cells := 0, slots := 0, locals := 21 } : Room) s m ar below meth c H locs 0 0 QM (F0 m 22 ls []) := by
    intro k11 hk11 n
    induction n with
    | zero => intro S0 x1 x2 H locs ls h; exact nn_el h
    | succ n ih =>
      intro S0 x1 x2 H locs ls h hP hD hS hl
      refine lv_iload_n hx hb dX12_undo_22 rfl (lv_at hl 2 rfl) ?_
      refine lv_bipush (v := 8) hx hb dX12_undo_23 (by decide) ?_
      refine lv_iload_n hx hb dX12_undo_25 rfl (lv_at hl 1 rfl) ?_
      refine lv_imul hx hb dX12_undo_26 ?_
      refine lv_bipush (v := 8) hx hb dX12_undo_27 (by decide) ?_
      refine lv_iadd hx hb dX12_undo_29 ?_
      refine lv_icmp_ge (tgt := 71) hx hb dX12_undo_30 (by decide) (fun c8 => ?_) (fun c8 => ?_)
      · have h := it_t h c8
        refine lv_aload_n hx hb dX12_undo_71 rfl (lv_at hl 0 rfl) ?_
        refine va_get (D := E.1) (ci := 11) (v := .int (S0.1 6)) (C := RX12) (T := TX12) (N := 57) hx hb hg in_X12 hown X.1 hP 0 rfl rfl 6 (by decide) (hg _ wf_X12_122) (fun _ h9 => h9) rfl dX12_undo_72 ?_
        refine lv_aload_n hx hb dX12_undo_75 rfl (lv_at hl 0 rfl) ?_
        refine va_get (D := E.1) (ci := 11) (v := .int (S0.1 56)) (C := RX12) (T := TX12) (N := 57) hx hb hg in_X12 hown X.1 hP 0 rfl rfl 56 (by decide) (hg _ wf_X12_427) (fun _ h9 => h9) rfl dX12_undo_76 ?_
        refine lv_iand hx hb dX12_undo_79 ?_
        refine lv_iload_n hx hb dX12_undo_80 rfl (lv_at hl 1 rfl) ?_
        obtain ⟨u9, hc, h⟩ := bd_el h
        refine ct_iN X hP hD hS (va_runS (As := [.int ((S0.1 6) &&& (S0.1 56)), .int x1]) (rest := []) ⟨hx, hb, hml, hown, hg⟩ (c_X12_has l E  H.size ((S0.1 6) &&& (S0.1 56)) x1 u9 hc) (va_cwS 2 hg (gwS wm_X12_118 wst_X12_has wini_X12 wco_X12_has) rfl rfl rfl (by decide +kernel) ⟨Nat.le_of_ble_eq_true rfl, Nat.le_of_ble_eq_true rfl⟩) ⟨ct_blind, ct_preN X hS _⟩ rfl rfl hl.1 rfl (lv_room (Nat.le_of_ble_eq_true rfl)) dX12_undo_81 ⟨Nat.zero_le _, Nat.zero_le _⟩) (fun H locs hP hD hS => ?_)
        refine lv_if_ne (tgt := 90) hx hb dX12_undo_84 (by decide) (fun c10 => ?_) (fun c10 => ?_)
        · have h := it_f h c10
          refine lv_aload_n hx hb dX12_undo_90 rfl (lv_at hl 0 rfl) ?_
          refine va_get (D := E.1) (ci := 11) (v := .ref (q0 1)) (C := RX12) (T := TX12) (N := 57) hx hb hg in_X12 hown X.1 hP 0 rfl rfl 0 (by decide) (hg _ wf_X12_7) (fun _ h9 => h9) rfl dX12_undo_91 ?_
          refine lv_bipush (v := 64) hx hb dX12_undo_94 (by decide) ?_
          refine lv_iload_n hx hb dX12_undo_96 rfl (lv_at hl 1 rfl) ?_
          refine lv_iadd hx hb dX12_undo_97 ?_
          refine lv_aload_n hx hb dX12_undo_98 rfl (lv_at hl 0 rfl) ?_
          refine va_get (D := E.1) (ci := 11) (v := .ref (q0 3)) (C := RX12) (T := TX12) (N := 57) hx hb hg in_X12 hown X.1 hP 0 rfl rfl 2 (by decide) (hg _ wf_X12_16) (fun _ h9 => h9) rfl dX12_undo_99 ?_
          refine lv_bipush (v := 64) hx hb dX12_undo_102 (by decide) ?_
          refine lv_iload_n hx hb dX12_undo_104 rfl (lv_at hl 1 rfl) ?_
          refine lv_iadd hx hb dX12_undo_105 ?_
          obtain ⟨hi, v11, ev11, h⟩ := rd_el h
          refine va_iald hx hb X.1 hP 3 0 rfl rfl hi dX12_undo_106 ?_
          refine lv_top' ev11 ?_
          obtain ⟨hi, h⟩ := ck_el h
          obtain ⟨S0_12, eS, h⟩ := lt_el h
          refine va_iast hx hb X.1 hP hD hS 1 0 rfl rfl hi dX12_undo_107 (fun H locs hP hD hS => ?_)
          have hP : va_P E.1 vwCl (cw_X12 E q0 S0_12) H := by rw [eS]; exact hP
          have hD : va_D A (cw_X12 E q0 S0_12) := by rw [eS]; exact hD
          clear eS
          refine lv_aload_n hx hb dX12_undo_108 rfl (lv_at hl 0 rfl) ?_
          refine va_get (D := E.1) (ci := 11) (v := .ref (q0 1)) (C := RX12) (T := TX12) (N := 57) hx hb hg in_X12 hown X.1 hP 0 rfl rfl 0 (by decide) (hg _ wf_X12_7) (fun _ h9 => h9) rfl dX12_undo_109 ?_
          refine lv_bipush (v := 72) hx hb dX12_undo_112 (by decide) ?_
          refine lv_iload_n hx hb dX12_undo_114 rfl (lv_at hl 1 rfl) ?_
          refine lv_iadd hx hb dX12_undo_115 ?_
          refine lv_aload_n hx hb dX12_undo_116 rfl (lv_at hl 0 rfl) ?_
          refine va_get (D := E.1) (ci := 11) (v := .ref (q0 3)) (C := RX12) (T := TX12) (N := 57) hx hb hg in_X12 hown X.1 hP 0 rfl rfl 2 (by decide) (hg _ wf_X12_16) (fun _ h9 => h9) rfl dX12_undo_117 ?_
          refine lv_bipush (v := 72) hx hb dX12_undo_120 (by decide) ?_
          refine lv_iload_n hx hb dX12_undo_122 rfl (lv_at hl 1 rfl) ?_
          refine lv_iadd hx hb dX12_undo_123 ?_
          obtain ⟨hi, v13, ev13, h⟩ := rd_el h
          refine va_iald hx hb X.1 hP 3 0 rfl rfl hi dX12_undo_124 ?_
          refine lv_top' ev13 ?_
          obtain ⟨hi, h⟩ := ck_el h
          obtain ⟨S0_14, eS, h⟩ := lt_el h
          refine va_iast hx hb X.1 hP hD hS 1 0 rfl rfl hi dX12_undo_125 (fun H locs hP hD hS => ?_)
          have hP : va_P E.1 vwCl (cw_X12 E q0 S0_14) H := by rw [eS]; exact hP
          have hD : va_D A (cw_X12 E q0 S0_14) := by rw [eS]; exact hD
          clear eS
          obtain ⟨v15, ev15, h⟩ := lt_el h
          refine lv_iinc (v := v15) (lv' := [(1, .int v15), (0, .ref (q0 0)), (2, .int x2)]) hx hb dX12_undo_126 hl (k := 1) rfl (by rw [ev15]; rfl) (by decide) rfl (fun ls hl => ?_)
          refine lv_goto (tgt := 11) hx hb dX12_undo_129 (by decide) ?_
          exact hk11 S0_14 v15 _ _ _ h hP hD hS (lv_sub hl [1, 0] rfl)
        · have h := it_t h c10
          refine lv_goto (tgt := 126) hx hb dX12_undo_87 (by decide) ?_
          obtain ⟨v16, ev16, h⟩ := lt_el h
          refine lv_iinc (v := v16) (lv' := [(1, .int v16), (0, .ref (q0 0)), (2, .int x2)]) hx hb dX12_undo_126 hl (k := 1) rfl (by rw [ev16]; rfl) (by decide) rfl (fun ls hl => ?_)
          refine lv_goto (tgt := 11) hx hb dX12_undo_129 (by decide) ?_
          exact hk11 S0 v16 _ _ _ h hP hD hS (lv_sub hl [1, 0] rfl)
      · have h := it_f h c8
        refine lv_aload_n hx hb dX12_undo_33 rfl (lv_at hl 0 rfl) ?_
        refine va_get (D := E.1) (ci := 11) (v := .int (S0.1 5)) (C := RX12) (T := TX12) (N := 57) hx hb hg in_X12 hown X.1 hP 0 rfl rfl 5 (by decide) (hg _ wf_X12_114) (fun _ h9 => h9) rfl dX12_undo_34 ?_
        refine lv_aload_n hx hb dX12_undo_37 rfl (lv_at hl 0 rfl) ?_
        refine va_get (D := E.1) (ci := 11) (v := .int (S0.1 55)) (C := RX12) (T := TX12) (N := 57) hx hb hg in_X12 hown X.1 hP 0 rfl rfl 55 (by decide) (hg _ wf_X12_424) (fun _ h9 => h9) rfl dX12_undo_38 ?_
        refine lv_iand hx hb dX12_undo_41 ?_
        refine lv_iload_n hx hb dX12_undo_42 rfl (lv_at hl 1 rfl) ?_
        obtain ⟨u17, hc, h⟩ := bd_el h
        refine ct_iN X hP hD hS (va_runS (As := [.int ((S0.1 5) &&& (S0.1 55)), .int x1]) (rest := []) ⟨hx, hb, hml, hown, hg⟩ (c_X12_has l E  H.size ((S0.1 5) &&& (S0.1 55)) x1 u17 hc) (va_cwS 2 hg (gwS wm_X12_118 wst_X12_has wini_X12 wco_X12_has) rfl rfl rfl (by decide +kernel) ⟨Nat.le_of_ble_eq_true rfl, Nat.le_of_ble_eq_true rfl⟩) ⟨ct_blind, ct_preN X hS _⟩ rfl rfl hl.1 rfl (lv_room (Nat.le_of_ble_eq_true rfl)) dX12_undo_43 ⟨Nat.zero_le _, Nat.zero_le _⟩) (fun H locs hP hD hS => ?_)
        refine lv_if_eq (tgt := 65) hx hb dX12_undo_46 (by decide) (fun c18 => ?_) (fun c18 => ?_)
        · have h := it_t h c18
          obtain ⟨v19, ev19, h⟩ := lt_el h
          refine lv_iinc (v := v19) (lv' := [(2, .int v19), (0, .ref (q0 0)), (1, .int x1)]) hx hb dX12_undo_65 hl (k := 2) rfl (by rw [ev19]; rfl) (by decide) rfl (fun ls hl => ?_)
          refine lv_goto (tgt := 22) hx hb dX12_undo_68 (by decide) ?_
          exact ih S0 x1 v19 _ _ _ h hP hD hS (lv_sub hl [1, 2, 0] rfl)
        · have h := it_f h c18
          refine lv_aload_n hx hb dX12_undo_49 rfl (lv_at hl 0 rfl) ?_
          refine va_get (D := E.1) (ci := 11) (v := .ref (q0 1)) (C := RX12) (T := TX12) (N := 57) hx hb hg in_X12 hown X.1 hP 0 rfl rfl 0 (by decide) (hg _ wf_X12_7) (fun _ h9 => h9) rfl dX12_undo_50 ?_
          refine lv_iconst (v := 0) hx hb dX12_undo_53 (by decide) ?_
          refine lv_iload_n hx hb dX12_undo_54 rfl (lv_at hl 2 rfl) ?_
          refine lv_iadd hx hb dX12_undo_55 ?_
          refine lv_aload_n hx hb dX12_undo_56 rfl (lv_at hl 0 rfl) ?_
          refine va_get (D := E.1) (ci := 11) (v := .ref (q0 3)) (C := RX12) (T := TX12) (N := 57) hx hb hg in_X12 hown X.1 hP 0 rfl rfl 2 (by decide) (hg _ wf_X12_16) (fun _ h9 => h9) rfl dX12_undo_57 ?_
          refine lv_iconst (v := 0) hx hb dX12_undo_60 (by decide) ?_
          refine lv_iload_n hx hb dX12_undo_61 rfl (lv_at hl 2 rfl) ?_
          refine lv_iadd hx hb dX12_undo_62 ?_
          obtain ⟨hi, v20, ev20, h⟩ := rd_el h
          refine va_iald hx hb X.1 hP 3 0 rfl rfl hi dX12_undo_63 ?_
          refine lv_top' ev20 ?_
          obtain ⟨hi, h⟩ := ck_el h
          obtain ⟨S0_21, eS, h⟩ := lt_el h
          refine va_iast hx hb X.1 hP hD hS 1 0 rfl rfl hi dX12_undo_64 (fun H locs hP hD hS => ?_)
          have hP : va_P E.1 vwCl (cw_X12 E q0 S0_21) H := by rw [eS]; exact hP
          have hD : va_D A (cw_X12 E q0 S0_21) := by rw [eS]; exact hD
          clear eS
          obtain ⟨v22, ev22, h⟩ := lt_el h
          refine lv_iinc (v := v22) (lv' := [(2, .int v22), (0, .ref (q0 0)), (1, .int x1)]) hx hb dX12_undo_65 hl (k := 2) rfl (by rw [ev22]; rfl) (by decide) rfl (fun ls hl => ?_)
          refine lv_goto (tgt := 22) hx hb dX12_undo_68 (by decide) ?_
          exact ih S0_21 x1 v22 _ _ _ h hP hD hS (lv_sub hl [1, 2, 0] rfl)
  have N11 : ∀ (n : Nat) (S0 : Gr) (x1 : Int32) (H : Heap) (locs : List Loc) (ls : Array Slot), f_X12_undo_n11 n S0 x1 = some Rv → va_P E.1 vwCl (cw_X12 E q0 S0) H → va_D A (cw_X12 E q0 S0) → va_S A s.heap H locs → lv_has ls 3 [(0, .ref (q0 0)), (1, .int x1)] → W p l e ({ frames := 1, cells := 0, slots := 0, locals := 21 } : Room) s m ar below meth c H locs 0 0 QM (F0 m 11 ls []) := by
    intro n
    induction n with
    | zero => intro S0 x1 H locs ls h; exact nn_el h
    | succ n ih =>
      intro S0 x1 H locs ls h hP hD hS hl
      refine lv_iload_n hx hb dX12_undo_11 rfl (lv_at hl 1 rfl) ?_
      refine lv_bipush (v := 8) hx hb dX12_undo_12 (by decide) ?_
      refine lv_icmp_ge (tgt := 132) hx hb dX12_undo_14 (by decide) (fun c2 => ?_) (fun c2 => ?_)
      · have h := it_t h c2
        refine lv_aload_n hx hb dX12_undo_132 rfl (lv_at hl 0 rfl) ?_
        refine va_get (D := E.1) (ci := 11) (v := .ref (q0 1)) (C := RX12) (T := TX12) (N := 57) hx hb hg in_X12 hown X.1 hP 0 rfl rfl 0 (by decide) (hg _ wf_X12_7) (fun _ h9 => h9) rfl dX12_undo_133 ?_
        refine lv_bipush (v := 80) hx hb dX12_undo_136 (by decide) ?_
        refine lv_aload_n hx hb dX12_undo_138 rfl (lv_at hl 0 rfl) ?_
        refine va_get (D := E.1) (ci := 11) (v := .ref (q0 3)) (C := RX12) (T := TX12) (N := 57) hx hb hg in_X12 hown X.1 hP 0 rfl rfl 2 (by decide) (hg _ wf_X12_16) (fun _ h9 => h9) rfl dX12_undo_139 ?_
        refine lv_bipush (v := 80) hx hb dX12_undo_142 (by decide) ?_
        obtain ⟨hi, v3, ev3, h⟩ := rd_el h
        refine va_iald hx hb X.1 hP 3 0 rfl rfl hi dX12_undo_144 ?_
        refine lv_top' ev3 ?_
        obtain ⟨hi, h⟩ := ck_el h
        obtain ⟨S0_4, eS, h⟩ := lt_el h
        refine va_iast hx hb X.1 hP hD hS 1 0 rfl rfl hi dX12_undo_145 (fun H locs hP hD hS => ?_)
        have hP : va_P E.1 vwCl (cw_X12 E q0 S0_4) H := by rw [eS]; exact hP
        have hD : va_D A (cw_X12 E q0 S0_4) := by rw [eS]; exact hD
        clear eS
        refine lv_aload_n hx hb dX12_undo_146 rfl (lv_at hl 0 rfl) ?_
        refine va_get (D := E.1) (ci := 11) (v := .ref (q0 1)) (C := RX12) (T := TX12) (N := 57) hx hb hg in_X12 hown X.1 hP 0 rfl rfl 0 (by decide) (hg _ wf_X12_7) (fun _ h9 => h9) rfl dX12_undo_147 ?_
        refine lv_bipush (v := 81) hx hb dX12_undo_150 (by decide) ?_
        refine lv_aload_n hx hb dX12_undo_152 rfl (lv_at hl 0 rfl) ?_
        refine va_get (D := E.1) (ci := 11) (v := .ref (q0 3)) (C := RX12) (T := TX12) (N := 57) hx hb hg in_X12 hown X.1 hP 0 rfl rfl 2 (by decide) (hg _ wf_X12_16) (fun _ h9 => h9) rfl dX12_undo_153 ?_
        refine lv_bipush (v := 81) hx hb dX12_undo_156 (by decide) ?_
        obtain ⟨hi, v5, ev5, h⟩ := rd_el h
        refine va_iald hx hb X.1 hP 3 0 rfl rfl hi dX12_undo_158 ?_
        refine lv_top' ev5 ?_
        obtain ⟨hi, h⟩ := ck_el h
        obtain ⟨S0_6, eS, h⟩ := lt_el h
        refine va_iast hx hb X.1 hP hD hS 1 0 rfl rfl hi dX12_undo_159 (fun H locs hP hD hS => ?_)
        have hP : va_P E.1 vwCl (cw_X12 E q0 S0_6) H := by rw [eS]; exact hP
        have hD : va_D A (cw_X12 E q0 S0_6) := by rw [eS]; exact hD
        clear eS
        refine lv_iconst (v := 1) hx hb dX12_undo_160 (by decide) ?_
        exact RT 1 S0_6 _ _ _ _ h (by decide +kernel) hP hD hS dX12_undo_161
      · have h := it_f h c2
        refine lv_bipush (v := 8) hx hb dX12_undo_17 (by decide) ?_
        refine lv_iload_n hx hb dX12_undo_19 rfl (lv_at hl 1 rfl) ?_
        refine lv_imul hx hb dX12_undo_20 ?_
        obtain ⟨v7, ev7, h⟩ := lt_el h
        refine lv_top' ev7 ?_
        refine lv_istore_n (lv' := [(2, .int v7), (0, .ref (q0 0)), (1, .int x1)]) hx hb dX12_undo_21 rfl hl (by decide) rfl (fun ls hl => ?_)
        exact N22 (f_X12_undo_n11 n) ih fu S0 x1 v7 _ _ _ h hP hD hS (lv_sub hl [1, 2, 0] rfl)
  obtain ⟨H, eH⟩ : ∃ z, z = s.heap := ⟨_, rfl⟩
  rw [← eH]
  have hP : va_P E.1 vwCl (cw_X12 E q0 S0) H := by rw [eH]; exact hP
  have hS : va_S A s.heap H [] := by rw [eH]; exact hS
  clear eH
  obtain ⟨locs, el⟩ : ∃ z : List Loc, z = [] := ⟨_, rfl⟩
  rw [← el] at hS ⊢
  clear el
  refine lv_aload_n hx hb dX12_undo_0 rfl (lv_at hl 0 rfl) ?_
  refine va_get (D := E.1) (ci := 11) (v := .int (S0.1 54)) (C := RX12) (T := TX12) (N := 57) hx hb hg in_X12 hown X.1 hP 0 rfl rfl 54 (by decide) (hg _ wf_X12_420) (fun _ h9 => h9) rfl dX12_undo_1 ?_
  refine lv_if_ne (tgt := 9) hx hb dX12_undo_4 (by decide) (fun c1 => ?_) (fun c1 => ?_)
  · have h := it_f h c1
    refine lv_iconst (v := 0) hx hb dX12_undo_9 (by decide) ?_
    refine lv_istore_n (lv' := [(1, .int 0), (0, .ref (q0 0))]) hx hb dX12_undo_10 rfl hl (by decide) rfl (fun ls hl => ?_)
    exact N11 fu S0 0 _ _ _ h hP hD hS (lv_sub hl [1, 0] rfl)
  · have h := it_t h c1
    refine lv_iconst (v := 0) hx hb dX12_undo_7 (by decide) ?_
    exact RT 0 S0 _ _ _ _ h (by decide +kernel) hP hD hS dX12_undo_8
