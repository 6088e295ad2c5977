theorem dX12_isFleet_0 : decode cX12_isFleet 0 = .ok (.iload_n 1, 1) := by decide +kernel
theorem dX12_isFleet_1 : decode cX12_isFleet 1 = .ok (.iconst 0, 1) := by decide +kernel
theorem dX12_isFleet_2 : decode cX12_isFleet 2 = .ok (.bipush 7, 2) := by decide +kernel
theorem dX12_isFleet_4 : decode cX12_isFleet 4 = .ok (.invokestatic 110, 3) := by decide +kernel
theorem dX12_isFleet_7 : decode cX12_isFleet 7 = .ok (.ifCond .eq 18, 3) := by decide +kernel
theorem dX12_isFleet_10 : decode cX12_isFleet 10 = .ok (.aload_n 0, 1) := by decide +kernel
theorem dX12_isFleet_11 : decode cX12_isFleet 11 = .ok (.getfield 122, 3) := by decide +kernel
theorem dX12_isFleet_14 : decode cX12_isFleet 14 = .ok (.iload_n 1, 1) := by decide +kernel
theorem dX12_isFleet_15 : decode cX12_isFleet 15 = .ok (.invokestatic 118, 3) := by decide +kernel
theorem dX12_isFleet_18 : decode cX12_isFleet 18 = .ok (.ifCond .eq 7, 3) := by decide +kernel
theorem dX12_isFleet_21 : decode cX12_isFleet 21 = .ok (.iconst 1, 1) := by decide +kernel
theorem dX12_isFleet_22 : decode cX12_isFleet 22 = .ok (.goto 4, 3) := by decide +kernel
theorem dX12_isFleet_25 : decode cX12_isFleet 25 = .ok (.iconst 0, 1) := by decide +kernel
theorem dX12_isFleet_26 : decode cX12_isFleet 26 = .ok (.ireturn, 1) := by decide +kernel
def f_X12_isFleet (S0 : Gr) (x1 : Int32) : Option (Int32) := (f_X12_in x1 0 7).bind fun u1 => if u1 = 0 then (some 0) else ((f_X12_has (S0.1 6) x1).bind fun u3 => if u3 = 0 then (some 0) else (some 1))
set_option maxHeartbeats 4000000 in
set_option maxRecDepth 100000 in
theorem c_X12_isFleet (l : Launch) (E : Ec) (q0 : Nat → Nat) (sz : Nat) (S0 : Gr) (x1 : Int32) (Rv : Int32) (h : f_X12_isFleet S0 x1 = some Rv) : Met l yX12_isFleet (wsM (.code yX12_isFleet cX12_isFleet 2 (some .boolean))) ({ frames := 1, cells := 0, slots := 0, locals := 22 } : Room) (va_Pc [.ref (q0 0), .int x1] (ctP E (cw_X12 E q0 S0) sz)) (ctI E (cw_X12 E q0 S0) (cw_X12 E q0 S0) sz Rv) 0 0 (va_A (cw_X12 E q0 S0) sz) := by
  refine ct_metI (by decide) (Nat.le_of_ble_eq_true rfl) ?_
  intro p e s m ar below meth c A QM hx hb hml hown hg X hP hD hS RET ls hl
  have hown : s.vm.findClass RX12 = some m.cls := hown
  have hl : lv_has ls 2 [(0, .ref (q0 0)), (1, .int x1)] := hl
  have RT : ∀ (v : Int32) (H : Heap) (locs : List Loc) (ls : Array Slot) (pc : Nat), some v = some Rv → narrow .boolean (.int v) = .int v → va_P E.1 vwCl (cw_X12 E q0 S0) H → va_D A (cw_X12 E q0 S0) → va_S A s.heap H locs → decode cX12_isFleet pc = .ok (.ireturn, 1) → W p l e ({ frames := 1, cells := 0, slots := 0, locals := 22 } : Room) s m ar below meth c H locs 0 0 QM (F0 m pc ls [.int v]) := by
    intro v H locs ls pc e hn hP hD hS d
    obtain rfl := sm_e e
    exact RET H locs pc ls hn hP hD hS d
  clear RET
  obtain ⟨H, eH⟩ : ∃ z, z = s.heap := ⟨_, rfl⟩
  rw [← eH]
  have hP : va_P E.1 vwCl (cw_X12 E q0 S0) H := by rw [eH]; exact hP
  have hS : va_S A s.heap H [] := by rw [eH]; exact hS
  clear eH
  obtain ⟨locs, el⟩ : ∃ z : List Loc, z = [] := ⟨_, rfl⟩
  rw [← el] at hS ⊢
  clear el
  refine lv_iload_n hx hb dX12_isFleet_0 rfl (lv_at hl 1 rfl) ?_
  refine lv_iconst (v := 0) hx hb dX12_isFleet_1 (by decide) ?_
  refine lv_bipush (v := 7) hx hb dX12_isFleet_2 (by decide) ?_
  obtain ⟨u1, hc, h⟩ := bd_el h
  refine ct_iN X hP hD hS (va_runS (As := [.int x1, .int 0, .int 7]) (rest := []) ⟨hx, hb, hml, hown, hg⟩ (c_X12_in l E  H.size x1 0 7 u1 hc) (va_cwS 3 hg (gwS wm_X12_110 wst_X12_in wini_X12 wco_X12_in) rfl rfl rfl (by decide +kernel) ⟨Nat.le_of_ble_eq_true rfl, Nat.le_of_ble_eq_true rfl⟩) ⟨ct_blind, ct_preN X hS _⟩ rfl rfl hl.1 rfl (lv_room (Nat.le_of_ble_eq_true rfl)) dX12_isFleet_4 ⟨Nat.zero_le _, Nat.zero_le _⟩) (fun H locs hP hD hS => ?_)
  refine lv_if_eq (tgt := 25) hx hb dX12_isFleet_7 (by decide) (fun c2 => ?_) (fun c2 => ?_)
  · have h := it_t h c2
    refine lv_iconst (v := 0) hx hb dX12_isFleet_25 (by decide) ?_
    exact RT 0 _ _ _ _ h (by decide +kernel) hP hD hS dX12_isFleet_26
  · have h := it_f h c2
    refine lv_aload_n hx hb dX12_isFleet_10 rfl (lv_at hl 0 rfl) ?_
    refine va_get (D := E.1) (ci := 11) (v := .int (S0.1 6)) (C := RX12) (T := TX12) (N := 57) hx hb hg in_X12 hown X.1 hP 0 rfl rfl 6 (by decide) (hg _ wf_X12_122) (fun _ h9 => h9) rfl dX12_isFleet_11 ?_
    refine lv_iload_n hx hb dX12_isFleet_14 rfl (lv_at hl 1 rfl) ?_
    obtain ⟨u3, hc, h⟩ := bd_el h
    refine ct_iN X hP hD hS (va_runS (As := [.int (S0.1 6), .int x1]) (rest := []) ⟨hx, hb, hml, hown, hg⟩ (c_X12_has l E  H.size (S0.1 6) x1 u3 hc) (va_cwS 2 hg (gwS wm_X12_118 wst_X12_has wini_X12 wco_X12_has) rfl rfl rfl (by decide +kernel) ⟨Nat.le_of_ble_eq_true rfl, Nat.le_of_ble_eq_true rfl⟩) ⟨ct_blind, ct_preN X hS _⟩ rfl rfl hl.1 rfl (lv_room (Nat.le_of_ble_eq_true rfl)) dX12_isFleet_15 ⟨Nat.zero_le _, Nat.zero_le _⟩) (fun H locs hP hD hS => ?_)
    refine lv_if_eq (tgt := 25) hx hb dX12_isFleet_18 (by decide) (fun c4 => ?_) (fun c4 => ?_)
    · have h := it_t h c4
      refine lv_iconst (v := 0) hx hb dX12_isFleet_25 (by decide) ?_
      exact RT 0 _ _ _ _ h (by decide +kernel) hP hD hS dX12_isFleet_26
    · have h := it_f h c4
      refine lv_iconst (v := 1) hx hb dX12_isFleet_21 (by decide) ?_
      refine lv_goto (tgt := 26) hx hb dX12_isFleet_22 (by decide) ?_
      exact RT 1 _ _ _ _ h (by decide +kernel) hP hD hS dX12_isFleet_26
theorem dX12_towards_0 : decode cX12_towards 0 = .ok (.iload_n 1, 1) := by decide +kernel
theorem dX12_towards_1 : decode cX12_towards 1 = .ok (.bipush 24, 2) := by decide +kernel
theorem dX12_towards_3 : decode cX12_towards 3 = .ok (.irem, 1) := by decide +kernel
theorem dX12_towards_4 : decode cX12_towards 4 = .ok (.iload_n 0, 1) := by decide +kernel
theorem dX12_towards_5 : decode cX12_towards 5 = .ok (.bipush 24, 2) := by decide +kernel
theorem dX12_towards_7 : decode cX12_towards 7 = .ok (.irem, 1) := by decide +kernel
theorem dX12_towards_8 : decode cX12_towards 8 = .ok (.isub, 1) := by decide +kernel
theorem dX12_towards_9 : decode cX12_towards 9 = .ok (.istore_n 2, 1) := by decide +kernel
theorem dX12_towards_10 : decode cX12_towards 10 = .ok (.iload_n 1, 1) := by decide +kernel
theorem dX12_towards_11 : decode cX12_towards 11 = .ok (.bipush 24, 2) := by decide +kernel
theorem dX12_towards_13 : decode cX12_towards 13 = .ok (.idiv, 1) := by decide +kernel
theorem dX12_towards_14 : decode cX12_towards 14 = .ok (.iload_n 0, 1) := by decide +kernel
theorem dX12_towards_15 : decode cX12_towards 15 = .ok (.bipush 24, 2) := by decide +kernel
theorem dX12_towards_17 : decode cX12_towards 17 = .ok (.idiv, 1) := by decide +kernel
theorem dX12_towards_18 : decode cX12_towards 18 = .ok (.isub, 1) := by decide +kernel
theorem dX12_towards_19 : decode cX12_towards 19 = .ok (.istore_n 3, 1) := by decide +kernel
theorem dX12_towards_20 : decode cX12_towards 20 = .ok (.iload_n 0, 1) := by decide +kernel
theorem dX12_towards_21 : decode cX12_towards 21 = .ok (.iload_n 1, 1) := by decide +kernel
theorem dX12_towards_22 : decode cX12_towards 22 = .ok (.if_icmp .ne 5, 3) := by decide +kernel
theorem dX12_towards_25 : decode cX12_towards 25 = .ok (.iconst 0, 1) := by decide +kernel
theorem dX12_towards_26 : decode cX12_towards 26 = .ok (.ireturn, 1) := by decide +kernel
theorem dX12_towards_27 : decode cX12_towards 27 = .ok (.iconst 2, 1) := by decide +kernel
theorem dX12_towards_28 : decode cX12_towards 28 = .ok (.iload_n 3, 1) := by decide +kernel
theorem dX12_towards_29 : decode cX12_towards 29 = .ok (.invokestatic 125, 3) := by decide +kernel
theorem dX12_towards_32 : decode cX12_towards 32 = .ok (.imul, 1) := by decide +kernel
theorem dX12_towards_33 : decode cX12_towards 33 = .ok (.iload_n 2, 1) := by decide +kernel
theorem dX12_towards_34 : decode cX12_towards 34 = .ok (.invokestatic 125, 3) := by decide +kernel
theorem dX12_towards_37 : decode cX12_towards 37 = .ok (.if_icmp .ge 14, 3) := by decide +kernel
theorem dX12_towards_40 : decode cX12_towards 40 = .ok (.iload_n 2, 1) := by decide +kernel
theorem dX12_towards_41 : decode cX12_towards 41 = .ok (.ifCond .le 7, 3) := by decide +kernel
theorem dX12_towards_44 : decode cX12_towards 44 = .ok (.iconst 2, 1) := by decide +kernel
theorem dX12_towards_45 : decode cX12_towards 45 = .ok (.goto 5, 3) := by decide +kernel
theorem dX12_towards_48 : decode cX12_towards 48 = .ok (.bipush 6, 2) := by decide +kernel
theorem dX12_towards_50 : decode cX12_towards 50 = .ok (.ireturn, 1) := by decide +kernel
theorem dX12_towards_51 : decode cX12_towards 51 = .ok (.iconst 2, 1) := by decide +kernel
theorem dX12_towards_52 : decode cX12_towards 52 = .ok (.iload_n 2, 1) := by decide +kernel
theorem dX12_towards_53 : decode cX12_towards 53 = .ok (.invokestatic 125, 3) := by decide +kernel
theorem dX12_towards_56 : decode cX12_towards 56 = .ok (.imul, 1) := by decide +kernel
theorem dX12_towards_57 : decode cX12_towards 57 = .ok (.iload_n 3, 1) := by decide +kernel
theorem dX12_towards_58 : decode cX12_towards 58 = .ok (.invokestatic 125, 3) := by decide +kernel
theorem dX12_towards_61 : decode cX12_towards 61 = .ok (.if_icmp .ge 13, 3) := by decide +kernel
theorem dX12_towards_64 : decode cX12_towards 64 = .ok (.iload_n 3, 1) := by decide +kernel
theorem dX12_towards_65 : decode cX12_towards 65 = .ok (.ifCond .le 7, 3) := by decide +kernel
theorem dX12_towards_68 : decode cX12_towards 68 = .ok (.iconst 4, 1) := by decide +kernel
theorem dX12_towards_69 : decode cX12_towards 69 = .ok (.goto 4, 3) := by decide +kernel
theorem dX12_towards_72 : decode cX12_towards 72 = .ok (.iconst 0, 1) := by decide +kernel
theorem dX12_towards_73 : decode cX12_towards 73 = .ok (.ireturn, 1) := by decide +kernel
theorem dX12_towards_74 : decode cX12_towards 74 = .ok (.iload_n 2, 1) := by decide +kernel
theorem dX12_towards_75 : decode cX12_towards 75 = .ok (.ifCond .le 13, 3) := by decide +kernel
theorem dX12_towards_78 : decode cX12_towards 78 = .ok (.iload_n 3, 1) := by decide +kernel
theorem dX12_towards_79 : decode cX12_towards 79 = .ok (.ifCond .le 7, 3) := by decide +kernel
theorem dX12_towards_82 : decode cX12_towards 82 = .ok (.iconst 3, 1) := by decide +kernel
theorem dX12_towards_83 : decode cX12_towards 83 = .ok (.goto 4, 3) := by decide +kernel
theorem dX12_towards_86 : decode cX12_towards 86 = .ok (.iconst 1, 1) := by decide +kernel
theorem dX12_towards_87 : decode cX12_towards 87 = .ok (.ireturn, 1) := by decide +kernel
theorem dX12_towards_88 : decode cX12_towards 88 = .ok (.iload_n 3, 1) := by decide +kernel
theorem dX12_towards_89 : decode cX12_towards 89 = .ok (.ifCond .le 7, 3) := by decide +kernel
theorem dX12_towards_92 : decode cX12_towards 92 = .ok (.iconst 5, 1) := by decide +kernel
theorem dX12_towards_93 : decode cX12_towards 93 = .ok (.goto 5, 3) := by decide +kernel
theorem dX12_towards_96 : decode cX12_towards 96 = .ok (.bipush 7, 2) := by decide +kernel
theorem dX12_towards_98 : decode cX12_towards 98 = .ok (.ireturn, 1) := by decide +kernel
def f_X12_towards (x0 : Int32) (x1 : Int32) : Option (Int32) := lt' (x1 - x1 / 24 * 24) fun v1 => lt' (x0 - x0 / 24 * 24) fun v2 => lt' ((v1 - v2)) fun v3 => lt' (x1 / 24) fun v4 => lt' (x0 / 24) fun v5 => lt' ((v4 - v5)) fun v6 => if x0 = x1 then (some 0) else ((f_X12_size v6).bind fun u8 => (f_X12_size v3).bind fun u9 => if u9 ≤ (2 * u8) then ((f_X12_size v3).bind fun u11 => (f_X12_size v6).bind fun u12 => if u12 ≤ (2 * u11) then (if v3 ≤ 0 then (if v6 ≤ 0 then (some 7) else (some 5)) else (if v6 ≤ 0 then (some 1) else (some 3))) else (if v6 ≤ 0 then (some 0) else (some 4))) else (if v3 ≤ 0 then (some 6) else (some 2)))
set_option maxHeartbeats 4000000 in
set_option maxRecDepth 100000 in
theorem c_X12_towards (l : Launch) (E : Ec) (sz : Nat) (x0 : Int32) (x1 : Int32) (Rv : Int32) (h : f_X12_towards x0 x1 = some Rv) : Met l yX12_towards (wsM (.code yX12_towards cX12_towards 4 (some .int))) ({ frames := 1, cells := 0, slots := 0, locals := 20 } : Room) (va_Pc [.int x0, .int x1] (ctP E ([]) sz)) (ctI E ([]) ([]) sz Rv) 0 0 (va_A ([]) sz) := by
  refine ct_metI (by decide) (Nat.le_of_ble_eq_true rfl) ?_
  intro p e s m ar below meth c A QM hx hb hml hown hg X hP hD hS RET ls hl
  have hown : s.vm.findClass RX12 = some m.cls := hown
  have hl : lv_has ls 4 [(0, .int x0), (1, .int x1)] := hl
  have RT : ∀ (v : Int32) (H : Heap) (locs : List Loc) (ls : Array Slot) (pc : Nat), some v = some Rv → narrow .int (.int v) = .int v → va_P E.1 vwCl ([]) H → va_D A ([]) → va_S A s.heap H locs → decode cX12_towards pc = .ok (.ireturn, 1) → W p l e ({ frames := 1, cells := 0, slots := 0, locals := 20 } : Room) s m ar below meth c H locs 0 0 QM (F0 m pc ls [.int v]) := by
    intro v H locs ls pc e hn hP hD hS d
    obtain rfl := sm_e e
    exact RET H locs pc ls hn hP hD hS d
  clear RET
  obtain ⟨H, eH⟩ : ∃ z, z = s.heap := ⟨_, rfl⟩
  rw [← eH]
  have hP : va_P E.1 vwCl ([]) H := by rw [eH]; exact hP
  have hS : va_S A s.heap H [] := by rw [eH]; exact hS
  clear eH
  obtain ⟨locs, el⟩ : ∃ z : List Loc, z = [] := ⟨_, rfl⟩
  rw [← el] at hS ⊢
  clear el
  refine lv_iload_n hx hb dX12_towards_0 rfl (lv_at hl 1 rfl) ?_
  refine lv_bipush (v := 24) hx hb dX12_towards_1 (by decide) ?_
  refine lv_irem hx hb dX12_towards_3 (by decide) ?_
  obtain ⟨v1, ev1, h⟩ := lt_el h
  refine lv_top' ev1 ?_
  refine lv_iload_n hx hb dX12_towards_4 rfl (lv_at hl 0 rfl) ?_
  refine lv_bipush (v := 24) hx hb dX12_towards_5 (by decide) ?_
  refine lv_irem hx hb dX12_towards_7 (by decide) ?_
  obtain ⟨v2, ev2, h⟩ := lt_el h
  refine lv_top' ev2 ?_
  refine lv_isub hx hb dX12_towards_8 ?_
  obtain ⟨v3, ev3, h⟩ := lt_el h
  refine lv_top' ev3 ?_
  refine lv_istore_n (lv' := [(2, .int v3), (0, .int x0), (1, .int x1)]) hx hb dX12_towards_9 rfl hl (by decide) rfl (fun ls hl => ?_)
  refine lv_iload_n hx hb dX12_towards_10 rfl (lv_at hl 2 rfl) ?_
  refine lv_bipush (v := 24) hx hb dX12_towards_11 (by decide) ?_
  refine lv_idiv hx hb dX12_towards_13 (by decide) ?_
  obtain ⟨v4, ev4, h⟩ := lt_el h
  refine lv_top' ev4 ?_
  refine lv_iload_n hx hb dX12_towards_14 rfl (lv_at hl 1 rfl) ?_
  refine lv_bipush (v := 24) hx hb dX12_towards_15 (by decide) ?_
  refine lv_idiv hx hb dX12_towards_17 (by decide) ?_
  obtain ⟨v5, ev5, h⟩ := lt_el h
  refine lv_top' ev5 ?_
  refine lv_isub hx hb dX12_towards_18 ?_
  obtain ⟨v6, ev6, h⟩ := lt_el h
  refine lv_top' ev6 ?_
  refine lv_istore_n (lv' := [(3, .int v6), (2, .int v3), (0, .int x0), (1, .int x1)]) hx hb dX12_towards_19 rfl hl (by decide) rfl (fun ls hl => ?_)
  refine lv_iload_n hx hb dX12_towards_20 rfl (lv_at hl 2 rfl) ?_
  refine lv_iload_n hx hb dX12_towards_21 rfl (lv_at hl 3 rfl) ?_
  refine lv_icmp_ne (tgt := 27) hx hb dX12_towards_22 (by decide) (fun c7 => ?_) (fun c7 => ?_)
  · have h := it_f h c7
    refine lv_iconst (v := 2) hx hb dX12_towards_27 (by decide) ?_
    refine lv_iload_n hx hb dX12_towards_28 rfl (lv_at hl 0 rfl) ?_
    obtain ⟨u8, hc, h⟩ := bd_el h
    refine ct_iN X hP hD hS (va_runS (As := [.int v6]) (rest := [.int 2]) ⟨hx, hb, hml, hown, hg⟩ (c_X12_size l E  H.size v6 u8 hc) (va_cwS 1 hg (gwS wm_X12_125 wst_X12_size wini_X12 wco_X12_size) rfl rfl rfl (by decide +kernel) ⟨Nat.le_of_ble_eq_true rfl, Nat.le_of_ble_eq_true rfl⟩) ⟨ct_blind, ct_preN X hS _⟩ rfl rfl hl.1 rfl (lv_room (Nat.le_of_ble_eq_true rfl)) dX12_towards_29 ⟨Nat.zero_le _, Nat.zero_le _⟩) (fun H locs hP hD hS => ?_)
    refine lv_imul hx hb dX12_towards_32 ?_
    refine lv_iload_n hx hb dX12_towards_33 rfl (lv_at hl 1 rfl) ?_
    obtain ⟨u9, hc, h⟩ := bd_el h
    refine ct_iN X hP hD hS (va_runS (As := [.int v3]) (rest := [.int (2 * u8)]) ⟨hx, hb, hml, hown, hg⟩ (c_X12_size l E  H.size v3 u9 hc) (va_cwS 1 hg (gwS wm_X12_125 wst_X12_size wini_X12 wco_X12_size) rfl rfl rfl (by decide +kernel) ⟨Nat.le_of_ble_eq_true rfl, Nat.le_of_ble_eq_true rfl⟩) ⟨ct_blind, ct_preN X hS _⟩ rfl rfl hl.1 rfl (lv_room (Nat.le_of_ble_eq_true rfl)) dX12_towards_34 ⟨Nat.zero_le _, Nat.zero_le _⟩) (fun H locs hP hD hS => ?_)
    refine lv_icmp_ge (tgt := 51) hx hb dX12_towards_37 (by decide) (fun c10 => ?_) (fun c10 => ?_)
    · have h := it_t h c10
      refine lv_iconst (v := 2) hx hb dX12_towards_51 (by decide) ?_
      refine lv_iload_n hx hb dX12_towards_52 rfl (lv_at hl 1 rfl) ?_
      obtain ⟨u11, hc, h⟩ := bd_el h
      refine ct_iN X hP hD hS (va_runS (As := [.int v3]) (rest := [.int 2]) ⟨hx, hb, hml, hown, hg⟩ (c_X12_size l E  H.size v3 u11 hc) (va_cwS 1 hg (gwS wm_X12_125 wst_X12_size wini_X12 wco_X12_size) rfl rfl rfl (by decide +kernel) ⟨Nat.le_of_ble_eq_true rfl, Nat.le_of_ble_eq_true rfl⟩) ⟨ct_blind, ct_preN X hS _⟩ rfl rfl hl.1 rfl (lv_room (Nat.le_of_ble_eq_true rfl)) dX12_towards_53 ⟨Nat.zero_le _, Nat.zero_le _⟩) (fun H locs hP hD hS => ?_)
      refine lv_imul hx hb dX12_towards_56 ?_
      refine lv_iload_n hx hb dX12_towards_57 rfl (lv_at hl 0 rfl) ?_
      obtain ⟨u12, hc, h⟩ := bd_el h
      refine ct_iN X hP hD hS (va_runS (As := [.int v6]) (rest := [.int (2 * u11)]) ⟨hx, hb, hml, hown, hg⟩ (c_X12_size l E  H.size v6 u12 hc) (va_cwS 1 hg (gwS wm_X12_125 wst_X12_size wini_X12 wco_X12_size) rfl rfl rfl (by decide +kernel) ⟨Nat.le_of_ble_eq_true rfl, Nat.le_of_ble_eq_true rfl⟩) ⟨ct_blind, ct_preN X hS _⟩ rfl rfl hl.1 rfl (lv_room (Nat.le_of_ble_eq_true rfl)) dX12_towards_58 ⟨Nat.zero_le _, Nat.zero_le _⟩) (fun H locs hP hD hS => ?_)
      refine lv_icmp_ge (tgt := 74) hx hb dX12_towards_61 (by decide) (fun c13 => ?_) (fun c13 => ?_)
      · have h := it_t h c13
        refine lv_iload_n hx hb dX12_towards_74 rfl (lv_at hl 1 rfl) ?_
        refine lv_if_le (tgt := 88) hx hb dX12_towards_75 (by decide) (fun c14 => ?_) (fun c14 => ?_)
        · have h := it_t h c14
          refine lv_iload_n hx hb dX12_towards_88 rfl (lv_at hl 0 rfl) ?_
          refine lv_if_le (tgt := 96) hx hb dX12_towards_89 (by decide) (fun c15 => ?_) (fun c15 => ?_)
          · have h := it_t h c15
            refine lv_bipush (v := 7) hx hb dX12_towards_96 (by decide) ?_
            exact RT 7 _ _ _ _ h rfl hP hD hS dX12_towards_98
          · have h := it_f h c15
            refine lv_iconst (v := 5) hx hb dX12_towards_92 (by decide) ?_
            refine lv_goto (tgt := 98) hx hb dX12_towards_93 (by decide) ?_
            exact RT 5 _ _ _ _ h rfl hP hD hS dX12_towards_98
        · have h := it_f h c14
          refine lv_iload_n hx hb dX12_towards_78 rfl (lv_at hl 0 rfl) ?_
          refine lv_if_le (tgt := 86) hx hb dX12_towards_79 (by decide) (fun c16 => ?_) (fun c16 => ?_)
          · have h := it_t h c16
            refine lv_iconst (v := 1) hx hb dX12_towards_86 (by decide) ?_
            exact RT 1 _ _ _ _ h rfl hP hD hS dX12_towards_87
          · have h := it_f h c16
            refine lv_iconst (v := 3) hx hb dX12_towards_82 (by decide) ?_
            refine lv_goto (tgt := 87) hx hb dX12_towards_83 (by decide) ?_
            exact RT 3 _ _ _ _ h rfl hP hD hS dX12_towards_87
      · have h := it_f h c13
        refine lv_iload_n hx hb dX12_towards_64 rfl (lv_at hl 0 rfl) ?_
        refine lv_if_le (tgt := 72) hx hb dX12_towards_65 (by decide) (fun c17 => ?_) (fun c17 => ?_)
        · have h := it_t h c17
          refine lv_iconst (v := 0) hx hb dX12_towards_72 (by decide) ?_
          exact RT 0 _ _ _ _ h rfl hP hD hS dX12_towards_73
        · have h := it_f h c17
          refine lv_iconst (v := 4) hx hb dX12_towards_68 (by decide) ?_
          refine lv_goto (tgt := 73) hx hb dX12_towards_69 (by decide) ?_
          exact RT 4 _ _ _ _ h rfl hP hD hS dX12_towards_73
    · have h := it_f h c10
      refine lv_iload_n hx hb dX12_towards_40 rfl (lv_at hl 1 rfl) ?_
      refine lv_if_le (tgt := 48) hx hb dX12_towards_41 (by decide) (fun c18 => ?_) (fun c18 => ?_)
      · have h := it_t h c18
        refine lv_bipush (v := 6) hx hb dX12_towards_48 (by decide) ?_
        exact RT 6 _ _ _ _ h rfl hP hD hS dX12_towards_50
      · have h := it_f h c18
        refine lv_iconst (v := 2) hx hb dX12_towards_44 (by decide) ?_
        refine lv_goto (tgt := 50) hx hb dX12_towards_45 (by decide) ?_
        exact RT 2 _ _ _ _ h rfl hP hD hS dX12_towards_50
  · have h := it_t h c7
    refine lv_iconst (v := 0) hx hb dX12_towards_25 (by decide) ?_
    exact RT 0 _ _ _ _ h rfl hP hD hS dX12_towards_26
theorem dX12_feels_0 : decode cX12_feels 0 = .ok (.aload_n 0, 1) := by decide +kernel
theorem dX12_feels_1 : decode cX12_feels 1 = .ok (.iload_n 1, 1) := by decide +kernel
theorem dX12_feels_2 : decode cX12_feels 2 = .ok (.invokevirtual 139, 3) := by decide +kernel
theorem dX12_feels_5 : decode cX12_feels 5 = .ok (.ifCond .eq 12, 3) := by decide +kernel
theorem dX12_feels_8 : decode cX12_feels 8 = .ok (.iload_n 2, 1) := by decide +kernel
theorem dX12_feels_9 : decode cX12_feels 9 = .ok (.iconst 0, 1) := by decide +kernel
theorem dX12_feels_10 : decode cX12_feels 10 = .ok (.iconst 2, 1) := by decide +kernel
theorem dX12_feels_11 : decode cX12_feels 11 = .ok (.invokestatic 110, 3) := by decide +kernel
theorem dX12_feels_14 : decode cX12_feels 14 = .ok (.ifCond .ne 5, 3) := by decide +kernel
theorem dX12_feels_17 : decode cX12_feels 17 = .ok (.iconst (-1), 1) := by decide +kernel
theorem dX12_feels_18 : decode cX12_feels 18 = .ok (.ireturn, 1) := by decide +kernel
theorem dX12_feels_19 : decode cX12_feels 19 = .ok (.bipush (-2), 2) := by decide +kernel
theorem dX12_feels_21 : decode cX12_feels 21 = .ok (.istore_n 3, 1) := by decide +kernel
theorem dX12_feels_22 : decode cX12_feels 22 = .ok (.iconst 0, 1) := by decide +kernel
theorem dX12_feels_23 : decode cX12_feels 23 = .ok (.istore 4, 2) := by decide +kernel
theorem dX12_feels_25 : decode cX12_feels 25 = .ok (.iconst 0, 1) := by decide +kernel
theorem dX12_feels_26 : decode cX12_feels 26 = .ok (.istore 5, 2) := by decide +kernel
theorem dX12_feels_28 : decode cX12_feels 28 = .ok (.iload 5, 2) := by decide +kernel
theorem dX12_feels_30 : decode cX12_feels 30 = .ok (.bipush 8, 2) := by decide +kernel
theorem dX12_feels_32 : decode cX12_feels 32 = .ok (.if_icmp .ge 45, 3) := by decide +kernel
theorem dX12_feels_35 : decode cX12_feels 35 = .ok (.aload_n 0, 1) := by decide +kernel
theorem dX12_feels_36 : decode cX12_feels 36 = .ok (.iload 5, 2) := by decide +kernel
theorem dX12_feels_38 : decode cX12_feels 38 = .ok (.invokevirtual 282, 3) := by decide +kernel
theorem dX12_feels_41 : decode cX12_feels 41 = .ok (.ifCond .eq 30, 3) := by decide +kernel
theorem dX12_feels_44 : decode cX12_feels 44 = .ok (.aload_n 0, 1) := by decide +kernel
theorem dX12_feels_45 : decode cX12_feels 45 = .ok (.iload_n 1, 1) := by decide +kernel
theorem dX12_feels_46 : decode cX12_feels 46 = .ok (.iload 5, 2) := by decide +kernel
theorem dX12_feels_48 : decode cX12_feels 48 = .ok (.invokevirtual 348, 3) := by decide +kernel
theorem dX12_feels_51 : decode cX12_feels 51 = .ok (.iload 4, 2) := by decide +kernel
theorem dX12_feels_53 : decode cX12_feels 53 = .ok (.if_icmp .gt 6, 3) := by decide +kernel
theorem dX12_feels_56 : decode cX12_feels 56 = .ok (.goto 15, 3) := by decide +kernel
theorem dX12_feels_59 : decode cX12_feels 59 = .ok (.aload_n 0, 1) := by decide +kernel
theorem dX12_feels_60 : decode cX12_feels 60 = .ok (.iload_n 1, 1) := by decide +kernel
theorem dX12_feels_61 : decode cX12_feels 61 = .ok (.iload 5, 2) := by decide +kernel
theorem dX12_feels_63 : decode cX12_feels 63 = .ok (.invokevirtual 348, 3) := by decide +kernel
theorem dX12_feels_66 : decode cX12_feels 66 = .ok (.istore 4, 2) := by decide +kernel
theorem dX12_feels_68 : decode cX12_feels 68 = .ok (.iload 5, 2) := by decide +kernel
theorem dX12_feels_70 : decode cX12_feels 70 = .ok (.istore_n 3, 1) := by decide +kernel
theorem dX12_feels_71 : decode cX12_feels 71 = .ok (.iinc 5 1, 3) := by decide +kernel
theorem dX12_feels_74 : decode cX12_feels 74 = .ok (.goto (-46), 3) := by decide +kernel
theorem dX12_feels_77 : decode cX12_feels 77 = .ok (.iload_n 2, 1) := by decide +kernel
theorem dX12_feels_78 : decode cX12_feels 78 = .ok (.ifCond .eq 9, 3) := by decide +kernel
theorem dX12_feels_81 : decode cX12_feels 81 = .ok (.iload_n 3, 1) := by decide +kernel
theorem dX12_feels_82 : decode cX12_feels 82 = .ok (.bipush (-2), 2) := by decide +kernel
theorem dX12_feels_84 : decode cX12_feels 84 = .ok (.if_icmp .ne 5, 3) := by decide +kernel
theorem dX12_feels_87 : decode cX12_feels 87 = .ok (.iload_n 3, 1) := by decide +kernel
theorem dX12_feels_88 : decode cX12_feels 88 = .ok (.ireturn, 1) := by decide +kernel
theorem dX12_feels_89 : decode cX12_feels 89 = .ok (.iload_n 2, 1) := by decide +kernel
theorem dX12_feels_90 : decode cX12_feels 90 = .ok (.iconst 1, 1) := by decide +kernel
theorem dX12_feels_91 : decode cX12_feels 91 = .ok (.if_icmp .ne 24, 3) := by decide +kernel
theorem dX12_feels_94 : decode cX12_feels 94 = .ok (.aload_n 0, 1) := by decide +kernel
theorem dX12_feels_95 : decode cX12_feels 95 = .ok (.getfield 19, 3) := by decide +kernel
theorem dX12_feels_98 : decode cX12_feels 98 = .ok (.iload_n 1, 1) := by decide +kernel
theorem dX12_feels_99 : decode cX12_feels 99 = .ok (.iaload, 1) := by decide +kernel
theorem dX12_feels_100 : decode cX12_feels 100 = .ok (.aload_n 0, 1) := by decide +kernel
theorem dX12_feels_101 : decode cX12_feels 101 = .ok (.getfield 7, 3) := by decide +kernel
theorem dX12_feels_104 : decode cX12_feels 104 = .ok (.bipush 64, 2) := by decide +kernel
theorem dX12_feels_106 : decode cX12_feels 106 = .ok (.iload_n 3, 1) := by decide +kernel
theorem dX12_feels_107 : decode cX12_feels 107 = .ok (.iadd, 1) := by decide +kernel
theorem dX12_feels_108 : decode cX12_feels 108 = .ok (.iaload, 1) := by decide +kernel
theorem dX12_feels_109 : decode cX12_feels 109 = .ok (.invokestatic 297, 3) := by decide +kernel
theorem dX12_feels_112 : decode cX12_feels 112 = .ok (.goto 5, 3) := by decide +kernel
theorem dX12_feels_115 : decode cX12_feels 115 = .ok (.iload 4, 2) := by decide +kernel
theorem dX12_feels_117 : decode cX12_feels 117 = .ok (.ireturn, 1) := by decide +kernel
def f_X12_feels_n28 (S0 : Gr) (x1 : Int32) (x2 : Int32) : Nat → Int32 → Int32 → Int32 → Option (Int32)
  | 0, _, _, _ => none
  | n + 1, x3, x4, x5 => if 8 ≤ x5 then (if x2 = 0 then (some x3) else (if x3 = (-2) then (some x3) else (if x2 = 1 then (rd' (S0.2 3) 8 x1 fun v9 => rd' (S0.2 0) 82 (64 + x3) fun v10 => (f_X12_towards v9 v10).bind fun u11 => some u11) else (some x4)))) else ((f_X12_isFleet S0 x5).bind fun u12 => if u12 = 0 then (lt' (x5 + 1) fun v14 => f_X12_feels_n28 S0 x1 x2 n x3 x4 v14) else ((f_X12_feltBy S0 x1 x5).bind fun u15 => if x4 < u15 then ((f_X12_feltBy S0 x1 x5).bind fun u17 => lt' (x5 + 1) fun v18 => f_X12_feels_n28 S0 x1 x2 n x5 u17 v18) else (lt' (x5 + 1) fun v19 => f_X12_feels_n28 S0 x1 x2 n x3 x4 v19)))
def f_X12_feels (S0 : Gr) (x1 : Int32) (x2 : Int32) : Option (Int32) := (f_X12_isWeb S0 x1).bind fun u1 => if u1 = 0 then (some (-1)) else ((f_X12_in x2 0 2).bind fun u3 => if u3 = 0 then (some (-1)) else (f_X12_feels_n28 S0 x1 x2 fu (-2) 0 0))
set_option maxHeartbeats 4000000 in
set_option maxRecDepth 100000 in
theorem c_X12_feels (l : Launch) (E : Ec) (q0 : Nat → Nat) (sz : Nat) (S0 : Gr) (x1 : Int32) (x2 : Int32) (Rv : Int32) (h : f_X12_feels S0 x1 x2 = some Rv) : Met l yX12_feels (wsM (.code yX12_feels cX12_feels 6 (some .int))) ({ frames := 3, cells := 0, slots := 0, locals := 64 } : Room) (va_Pc [.ref (q0 0), .int x1, .int x2] (ctP E (cw_X12 E q0 S0) sz)) (ctI E (cw_X12 E q0 S0) (cw_X12 E q0 S0) sz Rv) 0 0 (va_A (cw_X12 E q0 S0) sz) := by
  refine ct_metI (by decide) (Nat.le_of_ble_eq_true rfl) ?_
  intro p e s m ar below meth c A QM hx hb hml hown hg X hP hD hS RET ls hl
  have hown : s.vm.findClass RX12 = some m.cls := hown
  have hl : lv_has ls 6 [(0, .ref (q0 0)), (1, .int x1), (2, .int x2)] := hl
  have RT : ∀ (v : Int32) (H : Heap) (locs : List Loc) (ls : Array Slot) (pc : Nat), some v = some Rv → narrow .int (.int v) = .int v → va_P E.1 vwCl (cw_X12 E q0 S0) H → va_D A (cw_X12 E q0 S0) → va_S A s.heap H locs → decode cX12_feels pc = .ok (.ireturn, 1) → W p l e ({ frames := 3, cells := 0, slots := 0, locals := 64 } : Room) s m ar below meth c H locs 0 0 QM (F0 m pc ls [.int v]) := by
    intro v H locs ls pc e hn hP hD hS d
    obtain rfl := sm_e e
    exact RET H locs pc ls hn hP hD hS d
  clear RET
  have N28 : ∀ (n : Nat) (x3 : Int32) (x4 : Int32) (x5 : Int32) (H : Heap) (locs : List Loc) (ls : Array Slot), f_X12_feels_n28 S0 x1 x2 n x3 x4 x5 = some Rv → va_P E.1 vwCl (cw_X12 E q0 S0) H → va_D A (cw_X12 E q0 S0) → va_S A s.heap H locs → lv_has ls 6 [(0, .ref (q0 0)), (1, .int x1), (2, .int x2), (3, .int x3), (4, .int x4), (5, .int x5)] → W p l e ({ frames := 3, cells := 0, slots := 0, locals := 64 } : Room) s m ar below meth c H locs 0 0 QM (F0 m 28 ls []) := by
    intro n
    induction n with
    | zero => intro x3 x4 x5 H locs ls h; exact nn_el h
    | succ n ih =>
      intro x3 x4 x5 H locs ls h hP hD hS hl
      refine lv_iload hx hb dX12_feels_28 (lv_at hl 5 rfl) ?_
      refine lv_bipush (v := 8) hx hb dX12_feels_30 (by decide) ?_
      refine lv_icmp_ge (tgt := 77) hx hb dX12_feels_32 (by decide) (fun c5 => ?_) (fun c5 => ?_)
      · have h := it_t h c5
        refine lv_iload_n hx hb dX12_feels_77 rfl (lv_at hl 2 rfl) ?_
        refine lv_if_eq (tgt := 87) hx hb dX12_feels_78 (by decide) (fun c6 => ?_) (fun c6 => ?_)
        · have h := it_t h c6
          refine lv_iload_n hx hb dX12_feels_87 rfl (lv_at hl 3 rfl) ?_
          exact RT x3 _ _ _ _ h rfl hP hD hS dX12_feels_88
        · have h := it_f h c6
          refine lv_iload_n hx hb dX12_feels_81 rfl (lv_at hl 3 rfl) ?_
          refine lv_bipush (v := (-2)) hx hb dX12_feels_82 (by decide) ?_
          refine lv_icmp_ne (tgt := 89) hx hb dX12_feels_84 (by decide) (fun c7 => ?_) (fun c7 => ?_)
          · have h := it_f h c7
            refine lv_iload_n hx hb dX12_feels_89 rfl (lv_at hl 2 rfl) ?_
            refine lv_iconst (v := 1) hx hb dX12_feels_90 (by decide) ?_
            refine lv_icmp_ne (tgt := 115) hx hb dX12_feels_91 (by decide) (fun c8 => ?_) (fun c8 => ?_)
            · have h := it_f h c8
              refine lv_iload hx hb dX12_feels_115 (lv_at hl 4 rfl) ?_
              exact RT x4 _ _ _ _ h rfl hP hD hS dX12_feels_117
            · have h := it_t h c8
              refine lv_aload_n hx hb dX12_feels_94 rfl (lv_at hl 0 rfl) ?_
              refine va_get (D := E.1) (ci := 11) (v := .ref (q0 4)) (C := RX12) (T := TX12) (N := 57) hx hb hg in_X12 hown X.1 hP 0 rfl rfl 3 (by decide) (hg _ wf_X12_19) (fun _ h9 => h9) rfl dX12_feels_95 ?_
              refine lv_iload_n hx hb dX12_feels_98 rfl (lv_at hl 1 rfl) ?_
              obtain ⟨hi, v9, ev9, h⟩ := rd_el h
              refine va_iald hx hb X.1 hP 4 0 rfl rfl hi dX12_feels_99 ?_
              refine lv_top' ev9 ?_
              refine lv_aload_n hx hb dX12_feels_100 rfl (lv_at hl 0 rfl) ?_
              refine va_get (D := E.1) (ci := 11) (v := .ref (q0 1)) (C := RX12) (T := TX12) (N := 57) hx hb hg in_X12 hown X.1 hP 0 rfl rfl 0 (by decide) (hg _ wf_X12_7) (fun _ h9 => h9) rfl dX12_feels_101 ?_
              refine lv_bipush (v := 64) hx hb dX12_feels_104 (by decide) ?_
              refine lv_iload_n hx hb dX12_feels_106 rfl (lv_at hl 3 rfl) ?_
              refine lv_iadd hx hb dX12_feels_107 ?_
              obtain ⟨hi, v10, ev10, h⟩ := rd_el h
              refine va_iald hx hb X.1 hP 1 0 rfl rfl hi dX12_feels_108 ?_
              refine lv_top' ev10 ?_
              obtain ⟨u11, hc, h⟩ := bd_el h
              refine ct_iN X hP hD hS (va_runS (As := [.int v9, .int v10]) (rest := []) ⟨hx, hb, hml, hown, hg⟩ (c_X12_towards l E  H.size v9 v10 u11 hc) (va_cwS 2 hg (gwS wm_X12_297 wst_X12_towards wini_X12 wco_X12_towards) rfl rfl rfl (by decide +kernel) ⟨Nat.le_of_ble_eq_true rfl, Nat.le_of_ble_eq_true rfl⟩) ⟨ct_blind, ct_preN X hS _⟩ rfl rfl hl.1 rfl (lv_room (Nat.le_of_ble_eq_true rfl)) dX12_feels_109 ⟨Nat.zero_le _, Nat.zero_le _⟩) (fun H locs hP hD hS => ?_)
              refine lv_goto (tgt := 117) hx hb dX12_feels_112 (by decide) ?_
              exact RT u11 _ _ _ _ h rfl hP hD hS dX12_feels_117
          · have h := it_t h c7
            refine lv_iload_n hx hb dX12_feels_87 rfl (lv_at hl 3 rfl) ?_
            exact RT x3 _ _ _ _ h rfl hP hD hS dX12_feels_88
      · have h := it_f h c5
        refine lv_aload_n hx hb dX12_feels_35 rfl (lv_at hl 0 rfl) ?_
        refine lv_iload hx hb dX12_feels_36 (lv_at hl 5 rfl) ?_
        obtain ⟨u12, hc, h⟩ := bd_el h
        refine ct_iA (w1 := cw_X12 E q0 S0) X hP hD hS (va_runV (C := RX12) (As := [.int x5]) (rest := []) ⟨hx, hb, hml, hown, hg⟩ (c_X12_isFleet l E q0 H.size S0 x5 u12 hc) (cwV 1 hg (gwV wm_X12_282 wi_X12_isFleet wsl_X12_isFleet wini_X12 wco_X12_isFleet) rfl rfl rfl (by decide +kernel) ⟨Nat.le_of_ble_eq_true rfl, Nat.le_of_ble_eq_true rfl⟩) ⟨ct_blind, ct_rv X.1 hP 0 rfl rfl, ct_preA X hP hD hS _⟩ rfl rfl hl.1 rfl (lv_room (Nat.le_of_ble_eq_true rfl)) dX12_feels_38 ⟨Nat.zero_le _, Nat.zero_le _⟩) (fun H locs hP hD hS => ?_)
        refine lv_if_eq (tgt := 71) hx hb dX12_feels_41 (by decide) (fun c13 => ?_) (fun c13 => ?_)
        · have h := it_t h c13
          obtain ⟨v14, ev14, h⟩ := lt_el h
          refine lv_iinc (v := v14) (lv' := [(5, .int v14), (0, .ref (q0 0)), (1, .int x1), (2, .int x2), (3, .int x3), (4, .int x4)]) hx hb dX12_feels_71 hl (k := 5) rfl (by rw [ev14]; rfl) (by decide) rfl (fun ls hl => ?_)
          refine lv_goto (tgt := 28) hx hb dX12_feels_74 (by decide) ?_
          exact ih x3 x4 v14 _ _ _ h hP hD hS (lv_sub hl [1, 2, 3, 4, 5, 0] rfl)
        · have h := it_f h c13
          refine lv_aload_n hx hb dX12_feels_44 rfl (lv_at hl 0 rfl) ?_
          refine lv_iload_n hx hb dX12_feels_45 rfl (lv_at hl 1 rfl) ?_
          refine lv_iload hx hb dX12_feels_46 (lv_at hl 5 rfl) ?_
          obtain ⟨u15, hc, h⟩ := bd_el h
          refine ct_iA (w1 := cw_X12 E q0 S0) X hP hD hS (va_runV (C := RX12) (As := [.int x1, .int x5]) (rest := []) ⟨hx, hb, hml, hown, hg⟩ (c_X12_feltBy l E q0 H.size S0 x1 x5 u15 hc) (cwV 2 hg (gwV wm_X12_348 wi_X12_feltBy wsl_X12_feltBy wini_X12 wco_X12_feltBy) rfl rfl rfl (by decide +kernel) ⟨Nat.le_of_ble_eq_true rfl, Nat.le_of_ble_eq_true rfl⟩) ⟨ct_blind, ct_rv X.1 hP 0 rfl rfl, ct_preA X hP hD hS _⟩ rfl rfl hl.1 rfl (lv_room (Nat.le_of_ble_eq_true rfl)) dX12_feels_48 ⟨Nat.zero_le _, Nat.zero_le _⟩) (fun H locs hP hD hS => ?_)
          refine lv_iload hx hb dX12_feels_51 (lv_at hl 4 rfl) ?_
          refine lv_icmp_gt (tgt := 59) hx hb dX12_feels_53 (by decide) (fun c16 => ?_) (fun c16 => ?_)
          · have h := it_t h c16
            refine lv_aload_n hx hb dX12_feels_59 rfl (lv_at hl 0 rfl) ?_
            refine lv_iload_n hx hb dX12_feels_60 rfl (lv_at hl 1 rfl) ?_
            refine lv_iload hx hb dX12_feels_61 (lv_at hl 5 rfl) ?_
            obtain ⟨u17, hc, h⟩ := bd_el h
            refine ct_iA (w1 := cw_X12 E q0 S0) X hP hD hS (va_runV (C := RX12) (As := [.int x1, .int x5]) (rest := []) ⟨hx, hb, hml, hown, hg⟩ (c_X12_feltBy l E q0 H.size S0 x1 x5 u17 hc) (cwV 2 hg (gwV wm_X12_348 wi_X12_feltBy wsl_X12_feltBy wini_X12 wco_X12_feltBy) rfl rfl rfl (by decide +kernel) ⟨Nat.le_of_ble_eq_true rfl, Nat.le_of_ble_eq_true rfl⟩) ⟨ct_blind, ct_rv X.1 hP 0 rfl rfl, ct_preA X hP hD hS _⟩ rfl rfl hl.1 rfl (lv_room (Nat.le_of_ble_eq_true rfl)) dX12_feels_63 ⟨Nat.zero_le _, Nat.zero_le _⟩) (fun H locs hP hD hS => ?_)
            refine lv_istore (lv' := [(4, .int u17), (0, .ref (q0 0)), (1, .int x1), (2, .int x2), (3, .int x3), (5, .int x5)]) hx hb dX12_feels_66 hl (by decide) rfl (fun ls hl => ?_)
            refine lv_iload hx hb dX12_feels_68 (lv_at hl 5 rfl) ?_
            refine lv_istore_n (lv' := [(3, .int x5), (4, .int u17), (0, .ref (q0 0)), (1, .int x1), (2, .int x2), (5, .int x5)]) hx hb dX12_feels_70 rfl hl (by decide) rfl (fun ls hl => ?_)
            obtain ⟨v18, ev18, h⟩ := lt_el h
            refine lv_iinc (v := v18) (lv' := [(5, .int v18), (3, .int x5), (4, .int u17), (0, .ref (q0 0)), (1, .int x1), (2, .int x2)]) hx hb dX12_feels_71 hl (k := 5) rfl (by rw [ev18]; rfl) (by decide) rfl (fun ls hl => ?_)
            refine lv_goto (tgt := 28) hx hb dX12_feels_74 (by decide) ?_
            exact ih x5 u17 v18 _ _ _ h hP hD hS (lv_sub hl [3, 4, 5, 1, 2, 0] rfl)
          · have h := it_f h c16
            refine lv_goto (tgt := 71) hx hb dX12_feels_56 (by decide) ?_
            obtain ⟨v19, ev19, h⟩ := lt_el h
            refine lv_iinc (v := v19) (lv' := [(5, .int v19), (0, .ref (q0 0)), (1, .int x1), (2, .int x2), (3, .int x3), (4, .int x4)]) hx hb dX12_feels_71 hl (k := 5) rfl (by rw [ev19]; rfl) (by decide) rfl (fun ls hl => ?_)
            refine lv_goto (tgt := 28) hx hb dX12_feels_74 (by decide) ?_
            exact ih x3 x4 v19 _ _ _ h hP hD hS (lv_sub hl [1, 2, 3, 4, 5, 0] rfl)
  obtain ⟨H, eH⟩ : ∃ z, z = s.heap := ⟨_, rfl⟩
  rw [← eH]
  have hP : va_P E.1 vwCl (cw_X12 E q0 S0) H := by rw [eH]; exact hP
  have hS : va_S A s.heap H [] := by rw [eH]; exact hS
  clear eH
  obtain ⟨locs, el⟩ : ∃ z : List Loc, z = [] := ⟨_, rfl⟩
  rw [← el] at hS ⊢
  clear el
  refine lv_aload_n hx hb dX12_feels_0 rfl (lv_at hl 0 rfl) ?_
  refine lv_iload_n hx hb dX12_feels_1 rfl (lv_at hl 1 rfl) ?_
  obtain ⟨u1, hc, h⟩ := bd_el h
  refine ct_iA (w1 := cw_X12 E q0 S0) X hP hD hS (va_runV (C := RX12) (As := [.int x1]) (rest := []) ⟨hx, hb, hml, hown, hg⟩ (c_X12_isWeb l E q0 H.size S0 x1 u1 hc) (cwV 1 hg (gwV wm_X12_139 wi_X12_isWeb wsl_X12_isWeb wini_X12 wco_X12_isWeb) rfl rfl rfl (by decide +kernel) ⟨Nat.le_of_ble_eq_true rfl, Nat.le_of_ble_eq_true rfl⟩) ⟨ct_blind, ct_rv X.1 hP 0 rfl rfl, ct_preA X hP hD hS _⟩ rfl rfl hl.1 rfl (lv_room (Nat.le_of_ble_eq_true rfl)) dX12_feels_2 ⟨Nat.zero_le _, Nat.zero_le _⟩) (fun H locs hP hD hS => ?_)
  refine lv_if_eq (tgt := 17) hx hb dX12_feels_5 (by decide) (fun c2 => ?_) (fun c2 => ?_)
  · have h := it_t h c2
    refine lv_iconst (v := (-1)) hx hb dX12_feels_17 (by decide) ?_
    exact RT (-1) _ _ _ _ h rfl hP hD hS dX12_feels_18
  · have h := it_f h c2
    refine lv_iload_n hx hb dX12_feels_8 rfl (lv_at hl 2 rfl) ?_
    refine lv_iconst (v := 0) hx hb dX12_feels_9 (by decide) ?_
    refine lv_iconst (v := 2) hx hb dX12_feels_10 (by decide) ?_
    obtain ⟨u3, hc, h⟩ := bd_el h
    refine ct_iN X hP hD hS (va_runS (As := [.int x2, .int 0, .int 2]) (rest := []) ⟨hx, hb, hml, hown, hg⟩ (c_X12_in l E  H.size x2 0 2 u3 hc) (va_cwS 3 hg (gwS wm_X12_110 wst_X12_in wini_X12 wco_X12_in) rfl rfl rfl (by decide +kernel) ⟨Nat.le_of_ble_eq_true rfl, Nat.le_of_ble_eq_true rfl⟩) ⟨ct_blind, ct_preN X hS _⟩ rfl rfl hl.1 rfl (lv_room (Nat.le_of_ble_eq_true rfl)) dX12_feels_11 ⟨Nat.zero_le _, Nat.zero_le _⟩) (fun H locs hP hD hS => ?_)
    refine lv_if_ne (tgt := 19) hx hb dX12_feels_14 (by decide) (fun c4 => ?_) (fun c4 => ?_)
    · have h := it_f h c4
      refine lv_bipush (v := (-2)) hx hb dX12_feels_19 (by decide) ?_
      refine lv_istore_n (lv' := [(3, .int (-2)), (0, .ref (q0 0)), (1, .int x1), (2, .int x2)]) hx hb dX12_feels_21 rfl hl (by decide) rfl (fun ls hl => ?_)
      refine lv_iconst (v := 0) hx hb dX12_feels_22 (by decide) ?_
      refine lv_istore (lv' := [(4, .int 0), (3, .int (-2)), (0, .ref (q0 0)), (1, .int x1), (2, .int x2)]) hx hb dX12_feels_23 hl (by decide) rfl (fun ls hl => ?_)
      refine lv_iconst (v := 0) hx hb dX12_feels_25 (by decide) ?_
      refine lv_istore (lv' := [(5, .int 0), (4, .int 0), (3, .int (-2)), (0, .ref (q0 0)), (1, .int x1), (2, .int x2)]) hx hb dX12_feels_26 hl (by decide) rfl (fun ls hl => ?_)
      exact N28 fu (-2) 0 0 _ _ _ h hP hD hS (lv_sub hl [3, 4, 5, 2, 1, 0] rfl)
    · have h := it_t h c4
      refine lv_iconst (v := (-1)) hx hb dX12_feels_17 (by decide) ?_
      exact RT (-1) _ _ _ _ h rfl hP hD hS dX12_feels_18
theorem dX12_fix_0 : decode cX12_fix 0 = .ok (.iload_n 1, 1) := by decide +kernel
theorem dX12_fix_1 : decode cX12_fix 1 = .ok (.iconst 1, 1) := by decide +kernel
theorem dX12_fix_2 : decode cX12_fix 2 = .ok (.bipush 8, 2) := by decide +kernel
theorem dX12_fix_4 : decode cX12_fix 4 = .ok (.invokestatic 110, 3) := by decide +kernel
theorem dX12_fix_7 : decode cX12_fix 7 = .ok (.ifCond .eq 22, 3) := by decide +kernel
theorem dX12_fix_10 : decode cX12_fix 10 = .ok (.iload_n 2, 1) := by decide +kernel
theorem dX12_fix_11 : decode cX12_fix 11 = .ok (.iconst 0, 1) := by decide +kernel
theorem dX12_fix_12 : decode cX12_fix 12 = .ok (.iconst 1, 1) := by decide +kernel
theorem dX12_fix_13 : decode cX12_fix 13 = .ok (.invokestatic 110, 3) := by decide +kernel
theorem dX12_fix_16 : decode cX12_fix 16 = .ok (.ifCond .eq 13, 3) := by decide +kernel
theorem dX12_fix_19 : decode cX12_fix 19 = .ok (.iconst 2, 1) := by decide +kernel
theorem dX12_fix_20 : decode cX12_fix 20 = .ok (.iload_n 1, 1) := by decide +kernel
theorem dX12_fix_21 : decode cX12_fix 21 = .ok (.imul, 1) := by decide +kernel
theorem dX12_fix_22 : decode cX12_fix 22 = .ok (.aload_n 0, 1) := by decide +kernel
theorem dX12_fix_23 : decode cX12_fix 23 = .ok (.getfield 143, 3) := by decide +kernel
theorem dX12_fix_26 : decode cX12_fix 26 = .ok (.if_icmp .le 5, 3) := by decide +kernel
theorem dX12_fix_29 : decode cX12_fix 29 = .ok (.iconst (-1), 1) := by decide +kernel
theorem dX12_fix_30 : decode cX12_fix 30 = .ok (.ireturn, 1) := by decide +kernel
theorem dX12_fix_31 : decode cX12_fix 31 = .ok (.aload_n 0, 1) := by decide +kernel
theorem dX12_fix_32 : decode cX12_fix 32 = .ok (.iconst 0, 1) := by decide +kernel
theorem dX12_fix_33 : decode cX12_fix 33 = .ok (.putfield 143, 3) := by decide +kernel
theorem dX12_fix_36 : decode cX12_fix 36 = .ok (.iconst 0, 1) := by decide +kernel
theorem dX12_fix_37 : decode cX12_fix 37 = .ok (.istore_n 3, 1) := by decide +kernel
theorem dX12_fix_38 : decode cX12_fix 38 = .ok (.iload_n 3, 1) := by decide +kernel
theorem dX12_fix_39 : decode cX12_fix 39 = .ok (.iload_n 1, 1) := by decide +kernel
theorem dX12_fix_40 : decode cX12_fix 40 = .ok (.if_icmp .ge 40, 3) := by decide +kernel
theorem dX12_fix_43 : decode cX12_fix 43 = .ok (.aload_n 0, 1) := by decide +kernel
theorem dX12_fix_44 : decode cX12_fix 44 = .ok (.aload_n 0, 1) := by decide +kernel
theorem dX12_fix_45 : decode cX12_fix 45 = .ok (.iconst 2, 1) := by decide +kernel
theorem dX12_fix_46 : decode cX12_fix 46 = .ok (.iload_n 3, 1) := by decide +kernel
theorem dX12_fix_47 : decode cX12_fix 47 = .ok (.imul, 1) := by decide +kernel
theorem dX12_fix_48 : decode cX12_fix 48 = .ok (.invokevirtual 351, 3) := by decide +kernel
theorem dX12_fix_51 : decode cX12_fix 51 = .ok (.invokevirtual 139, 3) := by decide +kernel
theorem dX12_fix_54 : decode cX12_fix 54 = .ok (.ifCond .eq 17, 3) := by decide +kernel
theorem dX12_fix_57 : decode cX12_fix 57 = .ok (.aload_n 0, 1) := by decide +kernel
theorem dX12_fix_58 : decode cX12_fix 58 = .ok (.iconst 2, 1) := by decide +kernel
theorem dX12_fix_59 : decode cX12_fix 59 = .ok (.iload_n 3, 1) := by decide +kernel
theorem dX12_fix_60 : decode cX12_fix 60 = .ok (.imul, 1) := by decide +kernel
theorem dX12_fix_61 : decode cX12_fix 61 = .ok (.iconst 1, 1) := by decide +kernel
theorem dX12_fix_62 : decode cX12_fix 62 = .ok (.iadd, 1) := by decide +kernel
theorem dX12_fix_63 : decode cX12_fix 63 = .ok (.invokevirtual 351, 3) := by decide +kernel
theorem dX12_fix_66 : decode cX12_fix 66 = .ok (.bipush 8, 2) := by decide +kernel
theorem dX12_fix_68 : decode cX12_fix 68 = .ok (.if_icmp .lt 6, 3) := by decide +kernel
theorem dX12_fix_71 : decode cX12_fix 71 = .ok (.bipush (-3), 2) := by decide +kernel
theorem dX12_fix_73 : decode cX12_fix 73 = .ok (.ireturn, 1) := by decide +kernel
theorem dX12_fix_74 : decode cX12_fix 74 = .ok (.iinc 3 1, 3) := by decide +kernel
theorem dX12_fix_77 : decode cX12_fix 77 = .ok (.goto (-39), 3) := by decide +kernel
theorem dX12_fix_80 : decode cX12_fix 80 = .ok (.iconst 0, 1) := by decide +kernel
theorem dX12_fix_81 : decode cX12_fix 81 = .ok (.istore_n 3, 1) := by decide +kernel
theorem dX12_fix_82 : decode cX12_fix 82 = .ok (.bipush (-2), 2) := by decide +kernel
theorem dX12_fix_84 : decode cX12_fix 84 = .ok (.istore 4, 2) := by decide +kernel
theorem dX12_fix_86 : decode cX12_fix 86 = .ok (.sipush 383, 3) := by decide +kernel
theorem dX12_fix_89 : decode cX12_fix 89 = .ok (.istore 5, 2) := by decide +kernel
theorem dX12_fix_91 : decode cX12_fix 91 = .ok (.iload 5, 2) := by decide +kernel
theorem dX12_fix_93 : decode cX12_fix 93 = .ok (.ifCond .lt 86, 3) := by decide +kernel
theorem dX12_fix_96 : decode cX12_fix 96 = .ok (.iconst 1, 1) := by decide +kernel
theorem dX12_fix_97 : decode cX12_fix 97 = .ok (.istore 6, 2) := by decide +kernel
theorem dX12_fix_99 : decode cX12_fix 99 = .ok (.iconst 0, 1) := by decide +kernel
theorem dX12_fix_100 : decode cX12_fix 100 = .ok (.istore 7, 2) := by decide +kernel
theorem dX12_fix_102 : decode cX12_fix 102 = .ok (.iload 7, 2) := by decide +kernel
theorem dX12_fix_104 : decode cX12_fix 104 = .ok (.iload_n 1, 1) := by decide +kernel
theorem dX12_fix_105 : decode cX12_fix 105 = .ok (.if_icmp .ge 52, 3) := by decide +kernel
theorem dX12_fix_108 : decode cX12_fix 108 = .ok (.iload 6, 2) := by decide +kernel
theorem dX12_fix_110 : decode cX12_fix 110 = .ok (.ifCond .eq 38, 3) := by decide +kernel
theorem dX12_fix_113 : decode cX12_fix 113 = .ok (.aload_n 0, 1) := by decide +kernel
theorem dX12_fix_114 : decode cX12_fix 114 = .ok (.getfield 19, 3) := by decide +kernel
theorem dX12_fix_117 : decode cX12_fix 117 = .ok (.aload_n 0, 1) := by decide +kernel
theorem dX12_fix_118 : decode cX12_fix 118 = .ok (.iconst 2, 1) := by decide +kernel
theorem dX12_fix_119 : decode cX12_fix 119 = .ok (.iload 7, 2) := by decide +kernel
theorem dX12_fix_121 : decode cX12_fix 121 = .ok (.imul, 1) := by decide +kernel
theorem dX12_fix_122 : decode cX12_fix 122 = .ok (.invokevirtual 351, 3) := by decide +kernel
theorem dX12_fix_125 : decode cX12_fix 125 = .ok (.iaload, 1) := by decide +kernel
theorem dX12_fix_126 : decode cX12_fix 126 = .ok (.iload 5, 2) := by decide +kernel
theorem dX12_fix_128 : decode cX12_fix 128 = .ok (.invokestatic 297, 3) := by decide +kernel
theorem dX12_fix_131 : decode cX12_fix 131 = .ok (.aload_n 0, 1) := by decide +kernel
theorem dX12_fix_132 : decode cX12_fix 132 = .ok (.iconst 2, 1) := by decide +kernel
theorem dX12_fix_133 : decode cX12_fix 133 = .ok (.iload 7, 2) := by decide +kernel
theorem dX12_fix_135 : decode cX12_fix 135 = .ok (.imul, 1) := by decide +kernel
theorem dX12_fix_136 : decode cX12_fix 136 = .ok (.iconst 1, 1) := by decide +kernel
theorem dX12_fix_137 : decode cX12_fix 137 = .ok (.iadd, 1) := by decide +kernel
theorem dX12_fix_138 : decode cX12_fix 138 = .ok (.invokevirtual 351, 3) := by decide +kernel
theorem dX12_fix_141 : decode cX12_fix 141 = .ok (.if_icmp .ne 7, 3) := by decide +kernel
theorem dX12_fix_144 : decode cX12_fix 144 = .ok (.iconst 1, 1) := by decide +kernel
theorem dX12_fix_145 : decode cX12_fix 145 = .ok (.goto 4, 3) := by decide +kernel
theorem dX12_fix_148 : decode cX12_fix 148 = .ok (.iconst 0, 1) := by decide +kernel
theorem dX12_fix_149 : decode cX12_fix 149 = .ok (.istore 6, 2) := by decide +kernel
theorem dX12_fix_151 : decode cX12_fix 151 = .ok (.iinc 7 1, 3) := by decide +kernel
theorem dX12_fix_154 : decode cX12_fix 154 = .ok (.goto (-52), 3) := by decide +kernel
theorem dX12_fix_157 : decode cX12_fix 157 = .ok (.iload 6, 2) := by decide +kernel
theorem dX12_fix_159 : decode cX12_fix 159 = .ok (.ifCond .ne 6, 3) := by decide +kernel
theorem dX12_fix_162 : decode cX12_fix 162 = .ok (.goto 11, 3) := by decide +kernel
theorem dX12_fix_165 : decode cX12_fix 165 = .ok (.iload_n 3, 1) := by decide +kernel
theorem dX12_fix_166 : decode cX12_fix 166 = .ok (.iconst 1, 1) := by decide +kernel
theorem dX12_fix_167 : decode cX12_fix 167 = .ok (.iadd, 1) := by decide +kernel
theorem dX12_fix_168 : decode cX12_fix 168 = .ok (.istore_n 3, 1) := by decide +kernel
theorem dX12_fix_169 : decode cX12_fix 169 = .ok (.iload 5, 2) := by decide +kernel
theorem dX12_fix_171 : decode cX12_fix 171 = .ok (.istore 4, 2) := by decide +kernel
theorem dX12_fix_173 : decode cX12_fix 173 = .ok (.iinc 5 (-1), 3) := by decide +kernel
theorem dX12_fix_176 : decode cX12_fix 176 = .ok (.goto (-85), 3) := by decide +kernel
theorem dX12_fix_179 : decode cX12_fix 179 = .ok (.iload_n 2, 1) := by decide +kernel
theorem dX12_fix_180 : decode cX12_fix 180 = .ok (.ifCond .ne 7, 3) := by decide +kernel
theorem dX12_fix_183 : decode cX12_fix 183 = .ok (.iload_n 3, 1) := by decide +kernel
theorem dX12_fix_184 : decode cX12_fix 184 = .ok (.goto 5, 3) := by decide +kernel
theorem dX12_fix_187 : decode cX12_fix 187 = .ok (.iload 4, 2) := by decide +kernel
theorem dX12_fix_189 : decode cX12_fix 189 = .ok (.ireturn, 1) := by decide +kernel
def f_X12_fix_n102 (x1 : Int32) (x2 : Int32) (k91 : Gr → Int32 → Int32 → Int32 → Option (Int32 × Gr)) : Nat → Gr → Int32 → Int32 → Int32 → Int32 → Int32 → Option (Int32 × Gr)
  | 0, _, _, _, _, _, _ => none
  | n + 1, S0, x3, x4, x5, x6, x7 => if x1 ≤ x7 then (if x6 = 0 then (lt' (x5 + (-1)) fun v20 => k91 S0 x3 x4 v20) else (lt' ((x3 + 1)) fun v18 => lt' (x5 + (-1)) fun v19 => k91 S0 v18 x5 v19)) else (if x6 = 0 then (lt' (x7 + 1) fun v22 => f_X12_fix_n102 x1 x2 k91 n S0 x3 x4 x5 0 v22) else ((f_X12_octet S0 (2 * x7)).bind fun u23 => rd' (S0.2 3) 8 u23 fun v24 => (f_X12_towards v24 x5).bind fun u25 => (f_X12_octet S0 ((2 * x7) + 1)).bind fun u26 => if u25 = u26 then (lt' (x7 + 1) fun v29 => f_X12_fix_n102 x1 x2 k91 n S0 x3 x4 x5 1 v29) else (lt' (x7 + 1) fun v28 => f_X12_fix_n102 x1 x2 k91 n S0 x3 x4 x5 0 v28)))
def f_X12_fix_n91 (x1 : Int32) (x2 : Int32) : Nat → Gr → Int32 → Int32 → Int32 → Option (Int32 × Gr)
  | 0, _, _, _, _ => none
  | n + 1, S0, x3, x4, x5 => if x5 < 0 then (if x2 = 0 then (some (x3, S0)) else (some (x4, S0))) else (f_X12_fix_n102 x1 x2 (f_X12_fix_n91 x1 x2 n) fu S0 x3 x4 x5 1 0)
def f_X12_fix_n38 (x1 : Int32) (x2 : Int32) : Nat → Gr → Int32 → Option (Int32 × Gr)
  | 0, _, _ => none
  | n + 1, S0, x3 => if x1 ≤ x3 then (f_X12_fix_n91 x1 x2 fu S0 0 (-2) 383) else ((f_X12_octet S0 (2 * x3)).bind fun u8 => (f_X12_isWeb S0 u8).bind fun u9 => if u9 = 0 then (some ((-3), S0)) else ((f_X12_octet S0 ((2 * x3) + 1)).bind fun u11 => if u11 < 8 then (lt' (x3 + 1) fun v13 => f_X12_fix_n38 x1 x2 n S0 v13) else (some ((-3), S0))))
def f_X12_fix (S0 : Gr) (x1 : Int32) (x2 : Int32) : Option (Int32 × Gr) := (f_X12_in x1 1 8).bind fun u1 => if u1 = 0 then (some ((-1), S0)) else ((f_X12_in x2 0 1).bind fun u3 => if u3 = 0 then (some ((-1), S0)) else (if (2 * x1) ≤ (S0.1 8) then (lt' (sI S0 8 0) fun S0_6 => f_X12_fix_n38 x1 x2 fu S0_6 0) else (some ((-1), S0))))
set_option maxHeartbeats 4000000 in
set_option maxRecDepth 100000 in
theorem c_X12_fix (l : Launch) (E : Ec) (q0 : Nat → Nat) (sz : Nat) (S0 : Gr) (x1 : Int32) (x2 : Int32) (Rv : Int32 × Gr) (h : f_X12_fix S0 x1 x2 = some Rv) : Met l yX12_fix (wsM (.code yX12_fix cX12_fix 8 (some .int))) ({ frames := 2, cells := 0, slots := 0, locals := 43 } : Room) (va_Pc [.ref (q0 0), .int x1, .int x2] (ctP E (cw_X12 E q0 S0) sz)) (ctI E (cw_X12 E q0 S0) (cw_X12 E q0 Rv.2) sz Rv.1) 0 0 (va_A (cw_X12 E q0 S0) sz) := by
  refine ct_metI (by decide) (Nat.le_of_ble_eq_true rfl) ?_
  intro p e s m ar below meth c A QM hx hb hml hown hg X hP hD hS RET ls hl
  have hown : s.vm.findClass RX12 = some m.cls := hown
  have hl : lv_has ls 8 [(0, .ref (q0 0)), (1, .int x1), (2, .int x2)] := hl
  have RT : ∀ (v : Int32) (S0 : Gr) (H : Heap) (locs : List Loc) (ls : Array Slot) (pc : Nat), some (v, S0) = some Rv → narrow .int (.int v) = .int v → va_P E.1 vwCl (cw_X12 E q0 S0) H → va_D A (cw_X12 E q0 S0) → va_S A s.heap H locs → decode cX12_fix pc = .ok (.ireturn, 1) → W p l e ({ frames := 2, cells := 0, slots := 0, locals := 43 } : Room) s m ar below meth c H locs 0 0 QM (F0 m pc ls [.int v]) := by
    intro v S0 H locs ls pc e hn hP hD hS d
    obtain rfl := sm_e e
    exact RET H locs pc ls hn hP hD hS d
  clear RET
  have N102 : ∀ (k91 : Gr → Int32 → Int32 → Int32 → Option (Int32 × Gr)) (hk91 : ∀ (S0 : Gr) (x3 : Int32) (x4 : Int32) (x5 : Int32) (H : Heap) (locs : List Loc) (ls : Array Slot), k91 S0 x3 x4 x5 = some Rv → va_P E.1 vwCl (cw_X12 E q0 S0) H → va_D A (cw_X12 E q0 S0) → va_S A s.heap H locs → lv_has ls 8 [(0, .ref (q0 0)), (1, .int x1), (2, .int x2), (3, .int x3), (4, .int x4), (5, .int x5)] → W p l e ({ frames := 2, cells := 0, slots := 0, locals := 43 } : Room) s m ar below meth c H locs 0 0 QM (F0 m 91 ls [])) (n : Nat) (S0 : Gr) (x3 : Int32) (x4 : Int32) (x5 : Int32) (x6 : Int32) (x7 : Int32) (H : Heap) (locs : List Loc) (ls : Array Slot), f_X12_fix_n102 x1 x2 k91 n S0 x3 x4 x5 x6 x7 = some Rv → va_P E.1 vwCl (cw_X12 E q0 S0) H → va_D A (cw_X12 E q0 S0) → va_S A s.heap H locs → lv_has ls 8 [(0, .ref (q0 0)), (1, .int x1), (2, .int x2), (3, .int x3), (4, .int x4), (5, .int x5), (6, .int x6), (7, .int x7)] → W p l e ({ frames := 2, cells := 0, slots := 0, locals := 43 } : Room) s m ar below meth c H locs 0 0 QM (F0 m 102 ls []) := by
    intro k91 hk91 n
    induction n with
    | zero => intro S0 x3 x4 x5 x6 x7 H locs ls h; exact nn_el h
    | succ n ih =>
      intro S0 x3 x4 x5 x6 x7 H locs ls h hP hD hS hl
      refine lv_iload hx hb dX12_fix_102 (lv_at hl 7 rfl) ?_
      refine lv_iload_n hx hb dX12_fix_104 rfl (lv_at hl 1 rfl) ?_
      refine lv_icmp_ge (tgt := 157) hx hb dX12_fix_105 (by decide) (fun c16 => ?_) (fun c16 => ?_)
      · have h := it_t h c16
        refine lv_iload hx hb dX12_fix_157 (lv_at hl 6 rfl) ?_
        refine lv_if_ne (tgt := 165) hx hb dX12_fix_159 (by decide) (fun c17 => ?_) (fun c17 => ?_)
        · have h := it_f h c17
          refine lv_iload_n hx hb dX12_fix_165 rfl (lv_at hl 3 rfl) ?_
          refine lv_iconst (v := 1) hx hb dX12_fix_166 (by decide) ?_
          refine lv_iadd hx hb dX12_fix_167 ?_
          obtain ⟨v18, ev18, h⟩ := lt_el h
          refine lv_top' ev18 ?_
          refine lv_istore_n (lv' := [(3, .int v18), (0, .ref (q0 0)), (1, .int x1), (2, .int x2), (4, .int x4), (5, .int x5), (6, .int x6), (7, .int x7)]) hx hb dX12_fix_168 rfl hl (by decide) rfl (fun ls hl => ?_)
          refine lv_iload hx hb dX12_fix_169 (lv_at hl 5 rfl) ?_
          refine lv_istore (lv' := [(4, .int x5), (3, .int v18), (0, .ref (q0 0)), (1, .int x1), (2, .int x2), (5, .int x5), (6, .int x6), (7, .int x7)]) hx hb dX12_fix_171 hl (by decide) rfl (fun ls hl => ?_)
          obtain ⟨v19, ev19, h⟩ := lt_el h
          refine lv_iinc (v := v19) (lv' := [(5, .int v19), (4, .int x5), (3, .int v18), (0, .ref (q0 0)), (1, .int x1), (2, .int x2), (6, .int x6), (7, .int x7)]) hx hb dX12_fix_173 hl (k := 5) rfl (by rw [ev19]; rfl) (by decide) rfl (fun ls hl => ?_)
          refine lv_goto (tgt := 91) hx hb dX12_fix_176 (by decide) ?_
          exact hk91 S0 v18 x5 v19 _ _ _ h hP hD hS (lv_sub hl [3, 4, 5, 2, 1, 0] rfl)
        · have h := it_t h c17
          refine lv_goto (tgt := 173) hx hb dX12_fix_162 (by decide) ?_
          obtain ⟨v20, ev20, h⟩ := lt_el h
          refine lv_iinc (v := v20) (lv' := [(5, .int v20), (0, .ref (q0 0)), (1, .int x1), (2, .int x2), (3, .int x3), (4, .int x4), (6, .int x6), (7, .int x7)]) hx hb dX12_fix_173 hl (k := 5) rfl (by rw [ev20]; rfl) (by decide) rfl (fun ls hl => ?_)
          refine lv_goto (tgt := 91) hx hb dX12_fix_176 (by decide) ?_
          exact hk91 S0 x3 x4 v20 _ _ _ h hP hD hS (lv_sub hl [1, 2, 3, 4, 5, 0] rfl)
      · have h := it_f h c16
        refine lv_iload hx hb dX12_fix_108 (lv_at hl 6 rfl) ?_
        refine lv_if_eq (tgt := 148) hx hb dX12_fix_110 (by decide) (fun c21 => ?_) (fun c21 => ?_)
        · have h := it_t h c21
          refine lv_iconst (v := 0) hx hb dX12_fix_148 (by decide) ?_
          refine lv_istore (lv' := [(6, .int 0), (0, .ref (q0 0)), (1, .int x1), (2, .int x2), (3, .int x3), (4, .int x4), (5, .int x5), (7, .int x7)]) hx hb dX12_fix_149 hl (by decide) rfl (fun ls hl => ?_)
          obtain ⟨v22, ev22, h⟩ := lt_el h
          refine lv_iinc (v := v22) (lv' := [(7, .int v22), (6, .int 0), (0, .ref (q0 0)), (1, .int x1), (2, .int x2), (3, .int x3), (4, .int x4), (5, .int x5)]) hx hb dX12_fix_151 hl (k := 7) rfl (by rw [ev22]; rfl) (by decide) rfl (fun ls hl => ?_)
          refine lv_goto (tgt := 102) hx hb dX12_fix_154 (by decide) ?_
          exact ih S0 x3 x4 x5 0 v22 _ _ _ h hP hD hS (lv_sub hl [2, 3, 4, 5, 6, 7, 1, 0] rfl)
        · have h := it_f h c21
          refine lv_aload_n hx hb dX12_fix_113 rfl (lv_at hl 0 rfl) ?_
          refine va_get (D := E.1) (ci := 11) (v := .ref (q0 4)) (C := RX12) (T := TX12) (N := 57) hx hb hg in_X12 hown X.1 hP 0 rfl rfl 3 (by decide) (hg _ wf_X12_19) (fun _ h9 => h9) rfl dX12_fix_114 ?_
          refine lv_aload_n hx hb dX12_fix_117 rfl (lv_at hl 0 rfl) ?_
          refine lv_iconst (v := 2) hx hb dX12_fix_118 (by decide) ?_
          refine lv_iload hx hb dX12_fix_119 (lv_at hl 7 rfl) ?_
          refine lv_imul hx hb dX12_fix_121 ?_
          obtain ⟨u23, hc, h⟩ := bd_el h
          refine ct_iA (w1 := cw_X12 E q0 S0) X hP hD hS (va_runV (C := RX12) (As := [.int (2 * x7)]) (rest := [.ref (q0 4)]) ⟨hx, hb, hml, hown, hg⟩ (c_X12_octet l E q0 H.size S0 (2 * x7) u23 hc) (cwV 1 hg (gwV wm_X12_351 wi_X12_octet wsl_X12_octet wini_X12 wco_X12_octet) rfl rfl rfl (by decide +kernel) ⟨Nat.le_of_ble_eq_true rfl, Nat.le_of_ble_eq_true rfl⟩) ⟨ct_blind, ct_rv X.1 hP 0 rfl rfl, ct_preA X hP hD hS _⟩ rfl rfl hl.1 rfl (lv_room (Nat.le_of_ble_eq_true rfl)) dX12_fix_122 ⟨Nat.zero_le _, Nat.zero_le _⟩) (fun H locs hP hD hS => ?_)
          obtain ⟨hi, v24, ev24, h⟩ := rd_el h
          refine va_iald hx hb X.1 hP 4 0 rfl rfl hi dX12_fix_125 ?_
          refine lv_top' ev24 ?_
          refine lv_iload hx hb dX12_fix_126 (lv_at hl 5 rfl) ?_
          obtain ⟨u25, hc, h⟩ := bd_el h
          refine ct_iN X hP hD hS (va_runS (As := [.int v24, .int x5]) (rest := []) ⟨hx, hb, hml, hown, hg⟩ (c_X12_towards l E  H.size v24 x5 u25 hc) (va_cwS 2 hg (gwS wm_X12_297 wst_X12_towards wini_X12 wco_X12_towards) rfl rfl rfl (by decide +kernel) ⟨Nat.le_of_ble_eq_true rfl, Nat.le_of_ble_eq_true rfl⟩) ⟨ct_blind, ct_preN X hS _⟩ rfl rfl hl.1 rfl (lv_room (Nat.le_of_ble_eq_true rfl)) dX12_fix_128 ⟨Nat.zero_le _, Nat.zero_le _⟩) (fun H locs hP hD hS => ?_)
          refine lv_aload_n hx hb dX12_fix_131 rfl (lv_at hl 0 rfl) ?_
          refine lv_iconst (v := 2) hx hb dX12_fix_132 (by decide) ?_
          refine lv_iload hx hb dX12_fix_133 (lv_at hl 7 rfl) ?_
          refine lv_imul hx hb dX12_fix_135 ?_
          refine lv_iconst (v := 1) hx hb dX12_fix_136 (by decide) ?_
          refine lv_iadd hx hb dX12_fix_137 ?_
          obtain ⟨u26, hc, h⟩ := bd_el h
          refine ct_iA (w1 := cw_X12 E q0 S0) X hP hD hS (va_runV (C := RX12) (As := [.int ((2 * x7) + 1)]) (rest := [.int u25]) ⟨hx, hb, hml, hown, hg⟩ (c_X12_octet l E q0 H.size S0 ((2 * x7) + 1) u26 hc) (cwV 1 hg (gwV wm_X12_351 wi_X12_octet wsl_X12_octet wini_X12 wco_X12_octet) rfl rfl rfl (by decide +kernel) ⟨Nat.le_of_ble_eq_true rfl, Nat.le_of_ble_eq_true rfl⟩) ⟨ct_blind, ct_rv X.1 hP 0 rfl rfl, ct_preA X hP hD hS _⟩ rfl rfl hl.1 rfl (lv_room (Nat.le_of_ble_eq_true rfl)) dX12_fix_138 ⟨Nat.zero_le _, Nat.zero_le _⟩) (fun H locs hP hD hS => ?_)
          refine lv_icmp_ne (tgt := 148) hx hb dX12_fix_141 (by decide) (fun c27 => ?_) (fun c27 => ?_)
          · have h := it_f h c27
            refine lv_iconst (v := 0) hx hb dX12_fix_148 (by decide) ?_
            refine lv_istore (lv' := [(6, .int 0), (0, .ref (q0 0)), (1, .int x1), (2, .int x2), (3, .int x3), (4, .int x4), (5, .int x5), (7, .int x7)]) hx hb dX12_fix_149 hl (by decide) rfl (fun ls hl => ?_)
            obtain ⟨v28, ev28, h⟩ := lt_el h
            refine lv_iinc (v := v28) (lv' := [(7, .int v28), (6, .int 0), (0, .ref (q0 0)), (1, .int x1), (2, .int x2), (3, .int x3), (4, .int x4), (5, .int x5)]) hx hb dX12_fix_151 hl (k := 7) rfl (by rw [ev28]; rfl) (by decide) rfl (fun ls hl => ?_)
            refine lv_goto (tgt := 102) hx hb dX12_fix_154 (by decide) ?_
            exact ih S0 x3 x4 x5 0 v28 _ _ _ h hP hD hS (lv_sub hl [2, 3, 4, 5, 6, 7, 1, 0] rfl)
          · have h := it_t h c27
            refine lv_iconst (v := 1) hx hb dX12_fix_144 (by decide) ?_
            refine lv_goto (tgt := 149) hx hb dX12_fix_145 (by decide) ?_
            refine lv_istore (lv' := [(6, .int 1), (0, .ref (q0 0)), (1, .int x1), (2, .int x2), (3, .int x3), (4, .int x4), (5, .int x5), (7, .int x7)]) hx hb dX12_fix_149 hl (by decide) rfl (fun ls hl => ?_)
            obtain ⟨v29, ev29, h⟩ := lt_el h
            refine lv_iinc (v := v29) (lv' := [(7, .int v29), (6, .int 1), (0, .ref (q0 0)), (1, .int x1), (2, .int x2), (3, .int x3), (4, .int x4), (5, .int x5)]) hx hb dX12_fix_151 hl (k := 7) rfl (by rw [ev29]; rfl) (by decide) rfl (fun ls hl => ?_)
            refine lv_goto (tgt := 102) hx hb dX12_fix_154 (by decide) ?_
            exact ih S0 x3 x4 x5 1 v29 _ _ _ h hP hD hS (lv_sub hl [2, 3, 4, 5, 6, 7, 1, 0] rfl)
  have N91 : ∀ (n : Nat) (S0 : Gr) (x3 : Int32) (x4 : Int32) (x5 : Int32) (H : Heap) (locs : List Loc) (ls : Array Slot), f_X12_fix_n91 x1 x2 n S0 x3 x4 x5 = some Rv → va_P E.1 vwCl (cw_X12 E q0 S0) H → va_D A (cw_X12 E q0 S0) → va_S A s.heap H locs → lv_has ls 8 [(0, .ref (q0 0)), (1, .int x1), (2, .int x2), (3, .int x3), (4, .int x4), (5, .int x5)] → W p l e ({ frames := 2, cells := 0, slots := 0, locals := 43 } : Room) s m ar below meth c H locs 0 0 QM (F0 m 91 ls []) := by
    intro n
    induction n with
    | zero => intro S0 x3 x4 x5 H locs ls h; exact nn_el h
    | succ n ih =>
      intro S0 x3 x4 x5 H locs ls h hP hD hS hl
      refine lv_iload hx hb dX12_fix_91 (lv_at hl 5 rfl) ?_
      refine lv_if_lt (tgt := 179) hx hb dX12_fix_93 (by decide) (fun c14 => ?_) (fun c14 => ?_)
      · have h := it_t h c14
        refine lv_iload_n hx hb dX12_fix_179 rfl (lv_at hl 2 rfl) ?_
        refine lv_if_ne (tgt := 187) hx hb dX12_fix_180 (by decide) (fun c15 => ?_) (fun c15 => ?_)
        · have h := it_f h c15
          refine lv_iload hx hb dX12_fix_187 (lv_at hl 4 rfl) ?_
          exact RT x4 S0 _ _ _ _ h rfl hP hD hS dX12_fix_189
        · have h := it_t h c15
          refine lv_iload_n hx hb dX12_fix_183 rfl (lv_at hl 3 rfl) ?_
          refine lv_goto (tgt := 189) hx hb dX12_fix_184 (by decide) ?_
          exact RT x3 S0 _ _ _ _ h rfl hP hD hS dX12_fix_189
      · have h := it_f h c14
        refine lv_iconst (v := 1) hx hb dX12_fix_96 (by decide) ?_
        refine lv_istore (lv' := [(6, .int 1), (0, .ref (q0 0)), (1, .int x1), (2, .int x2), (3, .int x3), (4, .int x4), (5, .int x5)]) hx hb dX12_fix_97 hl (by decide) rfl (fun ls hl => ?_)
        refine lv_iconst (v := 0) hx hb dX12_fix_99 (by decide) ?_
        refine lv_istore (lv' := [(7, .int 0), (6, .int 1), (0, .ref (q0 0)), (1, .int x1), (2, .int x2), (3, .int x3), (4, .int x4), (5, .int x5)]) hx hb dX12_fix_100 hl (by decide) rfl (fun ls hl => ?_)
        exact N102 (f_X12_fix_n91 x1 x2 n) ih fu S0 x3 x4 x5 1 0 _ _ _ h hP hD hS (lv_sub hl [2, 3, 4, 5, 6, 7, 1, 0] rfl)
  have N38 : ∀ (n : Nat) (S0 : Gr) (x3 : Int32) (H : Heap) (locs : List Loc) (ls : Array Slot), f_X12_fix_n38 x1 x2 n S0 x3 = some Rv → va_P E.1 vwCl (cw_X12 E q0 S0) H → va_D A (cw_X12 E q0 S0) → va_S A s.heap H locs → lv_has ls 8 [(0, .ref (q0 0)), (1, .int x1), (2, .int x2), (3, .int x3)] → W p l e ({ frames := 2, cells := 0, slots := 0, locals := 43 } : Room) s m ar below meth c H locs 0 0 QM (F0 m 38 ls []) := by
    intro n
    induction n with
    | zero => intro S0 x3 H locs ls h; exact nn_el h
    | succ n ih =>
      intro S0 x3 H locs ls h hP hD hS hl
      refine lv_iload_n hx hb dX12_fix_38 rfl (lv_at hl 3 rfl) ?_
      refine lv_iload_n hx hb dX12_fix_39 rfl (lv_at hl 1 rfl) ?_
      refine lv_icmp_ge (tgt := 80) hx hb dX12_fix_40 (by decide) (fun c7 => ?_) (fun c7 => ?_)
      · have h := it_t h c7
        refine lv_iconst (v := 0) hx hb dX12_fix_80 (by decide) ?_
        refine lv_istore_n (lv' := [(3, .int 0), (0, .ref (q0 0)), (1, .int x1), (2, .int x2)]) hx hb dX12_fix_81 rfl hl (by decide) rfl (fun ls hl => ?_)
        refine lv_bipush (v := (-2)) hx hb dX12_fix_82 (by decide) ?_
        refine lv_istore (lv' := [(4, .int (-2)), (3, .int 0), (0, .ref (q0 0)), (1, .int x1), (2, .int x2)]) hx hb dX12_fix_84 hl (by decide) rfl (fun ls hl => ?_)
        refine lv_sipush (v := 383) hx hb dX12_fix_86 (by decide) ?_
        refine lv_istore (lv' := [(5, .int 383), (4, .int (-2)), (3, .int 0), (0, .ref (q0 0)), (1, .int x1), (2, .int x2)]) hx hb dX12_fix_89 hl (by decide) rfl (fun ls hl => ?_)
        exact N91 fu S0 0 (-2) 383 _ _ _ h hP hD hS (lv_sub hl [3, 4, 5, 2, 1, 0] rfl)
      · have h := it_f h c7
        refine lv_aload_n hx hb dX12_fix_43 rfl (lv_at hl 0 rfl) ?_
        refine lv_aload_n hx hb dX12_fix_44 rfl (lv_at hl 0 rfl) ?_
        refine lv_iconst (v := 2) hx hb dX12_fix_45 (by decide) ?_
        refine lv_iload_n hx hb dX12_fix_46 rfl (lv_at hl 3 rfl) ?_
        refine lv_imul hx hb dX12_fix_47 ?_
        obtain ⟨u8, hc, h⟩ := bd_el h
        refine ct_iA (w1 := cw_X12 E q0 S0) X hP hD hS (va_runV (C := RX12) (As := [.int (2 * x3)]) (rest := [.ref (q0 0)]) ⟨hx, hb, hml, hown, hg⟩ (c_X12_octet l E q0 H.size S0 (2 * x3) u8 hc) (cwV 1 hg (gwV wm_X12_351 wi_X12_octet wsl_X12_octet wini_X12 wco_X12_octet) rfl rfl rfl (by decide +kernel) ⟨Nat.le_of_ble_eq_true rfl, Nat.le_of_ble_eq_true rfl⟩) ⟨ct_blind, ct_rv X.1 hP 0 rfl rfl, ct_preA X hP hD hS _⟩ rfl rfl hl.1 rfl (lv_room (Nat.le_of_ble_eq_true rfl)) dX12_fix_48 ⟨Nat.zero_le _, Nat.zero_le _⟩) (fun H locs hP hD hS => ?_)
        obtain ⟨u9, hc, h⟩ := bd_el h
        refine ct_iA (w1 := cw_X12 E q0 S0) X hP hD hS (va_runV (C := RX12) (As := [.int u8]) (rest := []) ⟨hx, hb, hml, hown, hg⟩ (c_X12_isWeb l E q0 H.size S0 u8 u9 hc) (cwV 1 hg (gwV wm_X12_139 wi_X12_isWeb wsl_X12_isWeb wini_X12 wco_X12_isWeb) rfl rfl rfl (by decide +kernel) ⟨Nat.le_of_ble_eq_true rfl, Nat.le_of_ble_eq_true rfl⟩) ⟨ct_blind, ct_rv X.1 hP 0 rfl rfl, ct_preA X hP hD hS _⟩ rfl rfl hl.1 rfl (lv_room (Nat.le_of_ble_eq_true rfl)) dX12_fix_51 ⟨Nat.zero_le _, Nat.zero_le _⟩) (fun H locs hP hD hS => ?_)
        refine lv_if_eq (tgt := 71) hx hb dX12_fix_54 (by decide) (fun c10 => ?_) (fun c10 => ?_)
        · have h := it_t h c10
          refine lv_bipush (v := (-3)) hx hb dX12_fix_71 (by decide) ?_
          exact RT (-3) S0 _ _ _ _ h rfl hP hD hS dX12_fix_73
        · have h := it_f h c10
          refine lv_aload_n hx hb dX12_fix_57 rfl (lv_at hl 0 rfl) ?_
          refine lv_iconst (v := 2) hx hb dX12_fix_58 (by decide) ?_
          refine lv_iload_n hx hb dX12_fix_59 rfl (lv_at hl 3 rfl) ?_
          refine lv_imul hx hb dX12_fix_60 ?_
          refine lv_iconst (v := 1) hx hb dX12_fix_61 (by decide) ?_
          refine lv_iadd hx hb dX12_fix_62 ?_
          obtain ⟨u11, hc, h⟩ := bd_el h
          refine ct_iA (w1 := cw_X12 E q0 S0) X hP hD hS (va_runV (C := RX12) (As := [.int ((2 * x3) + 1)]) (rest := []) ⟨hx, hb, hml, hown, hg⟩ (c_X12_octet l E q0 H.size S0 ((2 * x3) + 1) u11 hc) (cwV 1 hg (gwV wm_X12_351 wi_X12_octet wsl_X12_octet wini_X12 wco_X12_octet) rfl rfl rfl (by decide +kernel) ⟨Nat.le_of_ble_eq_true rfl, Nat.le_of_ble_eq_true rfl⟩) ⟨ct_blind, ct_rv X.1 hP 0 rfl rfl, ct_preA X hP hD hS _⟩ rfl rfl hl.1 rfl (lv_room (Nat.le_of_ble_eq_true rfl)) dX12_fix_63 ⟨Nat.zero_le _, Nat.zero_le _⟩) (fun H locs hP hD hS => ?_)
          refine lv_bipush (v := 8) hx hb dX12_fix_66 (by decide) ?_
          refine lv_icmp_lt (tgt := 74) hx hb dX12_fix_68 (by decide) (fun c12 => ?_) (fun c12 => ?_)
          · have h := it_t h c12
            obtain ⟨v13, ev13, h⟩ := lt_el h
            refine lv_iinc (v := v13) (lv' := [(3, .int v13), (0, .ref (q0 0)), (1, .int x1), (2, .int x2)]) hx hb dX12_fix_74 hl (k := 3) rfl (by rw [ev13]; rfl) (by decide) rfl (fun ls hl => ?_)
            refine lv_goto (tgt := 38) hx hb dX12_fix_77 (by decide) ?_
            exact ih S0 v13 _ _ _ h hP hD hS (lv_sub hl [1, 2, 3, 0] rfl)
          · have h := it_f h c12
            refine lv_bipush (v := (-3)) hx hb dX12_fix_71 (by decide) ?_
            exact RT (-3) S0 _ _ _ _ h rfl hP hD hS dX12_fix_73
  obtain ⟨H, eH⟩ : ∃ z, z = s.heap := ⟨_, rfl⟩
  rw [← eH]
  have hP : va_P E.1 vwCl (cw_X12 E q0 S0) H := by rw [eH]; exact hP
  have hS : va_S A s.heap H [] := by rw [eH]; exact hS
  clear eH
  obtain ⟨locs, el⟩ : ∃ z : List Loc, z = [] := ⟨_, rfl⟩
  rw [← el] at hS ⊢
  clear el
  refine lv_iload_n hx hb dX12_fix_0 rfl (lv_at hl 1 rfl) ?_
  refine lv_iconst (v := 1) hx hb dX12_fix_1 (by decide) ?_
  refine lv_bipush (v := 8) hx hb dX12_fix_2 (by decide) ?_
  obtain ⟨u1, hc, h⟩ := bd_el h
  refine ct_iN X hP hD hS (va_runS (As := [.int x1, .int 1, .int 8]) (rest := []) ⟨hx, hb, hml, hown, hg⟩ (c_X12_in l E  H.size x1 1 8 u1 hc) (va_cwS 3 hg (gwS wm_X12_110 wst_X12_in wini_X12 wco_X12_in) rfl rfl rfl (by decide +kernel) ⟨Nat.le_of_ble_eq_true rfl, Nat.le_of_ble_eq_true rfl⟩) ⟨ct_blind, ct_preN X hS _⟩ rfl rfl hl.1 rfl (lv_room (Nat.le_of_ble_eq_true rfl)) dX12_fix_4 ⟨Nat.zero_le _, Nat.zero_le _⟩) (fun H locs hP hD hS => ?_)
  refine lv_if_eq (tgt := 29) hx hb dX12_fix_7 (by decide) (fun c2 => ?_) (fun c2 => ?_)
  · have h := it_t h c2
    refine lv_iconst (v := (-1)) hx hb dX12_fix_29 (by decide) ?_
    exact RT (-1) S0 _ _ _ _ h rfl hP hD hS dX12_fix_30
  · have h := it_f h c2
    refine lv_iload_n hx hb dX12_fix_10 rfl (lv_at hl 2 rfl) ?_
    refine lv_iconst (v := 0) hx hb dX12_fix_11 (by decide) ?_
    refine lv_iconst (v := 1) hx hb dX12_fix_12 (by decide) ?_
    obtain ⟨u3, hc, h⟩ := bd_el h
    refine ct_iN X hP hD hS (va_runS (As := [.int x2, .int 0, .int 1]) (rest := []) ⟨hx, hb, hml, hown, hg⟩ (c_X12_in l E  H.size x2 0 1 u3 hc) (va_cwS 3 hg (gwS wm_X12_110 wst_X12_in wini_X12 wco_X12_in) rfl rfl rfl (by decide +kernel) ⟨Nat.le_of_ble_eq_true rfl, Nat.le_of_ble_eq_true rfl⟩) ⟨ct_blind, ct_preN X hS _⟩ rfl rfl hl.1 rfl (lv_room (Nat.le_of_ble_eq_true rfl)) dX12_fix_13 ⟨Nat.zero_le _, Nat.zero_le _⟩) (fun H locs hP hD hS => ?_)
    refine lv_if_eq (tgt := 29) hx hb dX12_fix_16 (by decide) (fun c4 => ?_) (fun c4 => ?_)
    · have h := it_t h c4
      refine lv_iconst (v := (-1)) hx hb dX12_fix_29 (by decide) ?_
      exact RT (-1) S0 _ _ _ _ h rfl hP hD hS dX12_fix_30
    · have h := it_f h c4
      refine lv_iconst (v := 2) hx hb dX12_fix_19 (by decide) ?_
      refine lv_iload_n hx hb dX12_fix_20 rfl (lv_at hl 1 rfl) ?_
      refine lv_imul hx hb dX12_fix_21 ?_
      refine lv_aload_n hx hb dX12_fix_22 rfl (lv_at hl 0 rfl) ?_
      refine va_get (D := E.1) (ci := 11) (v := .int (S0.1 8)) (C := RX12) (T := TX12) (N := 57) hx hb hg in_X12 hown X.1 hP 0 rfl rfl 8 (by decide) (hg _ wf_X12_143) (fun _ h9 => h9) rfl dX12_fix_23 ?_
      refine lv_icmp_le (tgt := 31) hx hb dX12_fix_26 (by decide) (fun c5 => ?_) (fun c5 => ?_)
      · have h := it_t h c5
        refine lv_aload_n hx hb dX12_fix_31 rfl (lv_at hl 0 rfl) ?_
        refine lv_iconst (v := 0) hx hb dX12_fix_32 (by decide) ?_
        obtain ⟨S0_6, eS, h⟩ := lt_el h
        refine va_put (D := E.1) (ci := 11) (v := .int 0) (ty := .int) (C := RX12) (T := TX12) (N := 57) hx hb hg in_X12 tyX12 tyX12_ok nmX12 hown X.1 hP hD hS 0 rfl rfl 8 (by decide) (hg _ wf_X12_143) (fun _ h9 => h9) rfl (by decide +kernel) rfl rfl (Nat.le_of_ble_eq_true rfl) dX12_fix_33 (fun H locs hP hD hS => ?_)
        have hP : va_P E.1 vwCl (cw_X12 E q0 S0_6) H := by rw [eS]; exact hP
        have hD : va_D A (cw_X12 E q0 S0_6) := by rw [eS]; exact hD
        clear eS
        refine lv_iconst (v := 0) hx hb dX12_fix_36 (by decide) ?_
        refine lv_istore_n (lv' := [(3, .int 0), (0, .ref (q0 0)), (1, .int x1), (2, .int x2)]) hx hb dX12_fix_37 rfl hl (by decide) rfl (fun ls hl => ?_)
        exact N38 fu S0_6 0 _ _ _ h hP hD hS (lv_sub hl [1, 2, 3, 0] rfl)
      · have h := it_f h c5
        refine lv_iconst (v := (-1)) hx hb dX12_fix_29 (by decide) ?_
        exact RT (-1) S0 _ _ _ _ h rfl hP hD hS dX12_fix_30
theorem dX12_fleetIs_0 : decode cX12_fleetIs 0 = .ok (.aload_n 0, 1) := by decide +kernel
theorem dX12_fleetIs_1 : decode cX12_fleetIs 1 = .ok (.iload_n 1, 1) := by decide +kernel
theorem dX12_fleetIs_2 : decode cX12_fleetIs 2 = .ok (.invokevirtual 282, 3) := by decide +kernel
theorem dX12_fleetIs_5 : decode cX12_fleetIs 5 = .ok (.ifCond .ne 5, 3) := by decide +kernel
theorem dX12_fleetIs_8 : decode cX12_fleetIs 8 = .ok (.iconst (-1), 1) := by decide +kernel
theorem dX12_fleetIs_9 : decode cX12_fleetIs 9 = .ok (.ireturn, 1) := by decide +kernel
theorem dX12_fleetIs_10 : decode cX12_fleetIs 10 = .ok (.iload_n 2, 1) := by decide +kernel
theorem dX12_fleetIs_11 : decode cX12_fleetIs 11 = .ok (.ifCond .ne 15, 3) := by decide +kernel
theorem dX12_fleetIs_14 : decode cX12_fleetIs 14 = .ok (.aload_n 0, 1) := by decide +kernel
theorem dX12_fleetIs_15 : decode cX12_fleetIs 15 = .ok (.getfield 7, 3) := by decide +kernel
theorem dX12_fleetIs_18 : decode cX12_fleetIs 18 = .ok (.bipush 64, 2) := by decide +kernel
theorem dX12_fleetIs_20 : decode cX12_fleetIs 20 = .ok (.iload_n 1, 1) := by decide +kernel
theorem dX12_fleetIs_21 : decode cX12_fleetIs 21 = .ok (.iadd, 1) := by decide +kernel
theorem dX12_fleetIs_22 : decode cX12_fleetIs 22 = .ok (.iaload, 1) := by decide +kernel
theorem dX12_fleetIs_23 : decode cX12_fleetIs 23 = .ok (.goto 38, 3) := by decide +kernel
theorem dX12_fleetIs_26 : decode cX12_fleetIs 26 = .ok (.iload_n 2, 1) := by decide +kernel
theorem dX12_fleetIs_27 : decode cX12_fleetIs 27 = .ok (.iconst 1, 1) := by decide +kernel
theorem dX12_fleetIs_28 : decode cX12_fleetIs 28 = .ok (.if_icmp .ne 12, 3) := by decide +kernel
theorem dX12_fleetIs_31 : decode cX12_fleetIs 31 = .ok (.aload_n 0, 1) := by decide +kernel
theorem dX12_fleetIs_32 : decode cX12_fleetIs 32 = .ok (.getfield 22, 3) := by decide +kernel
theorem dX12_fleetIs_35 : decode cX12_fleetIs 35 = .ok (.iload_n 1, 1) := by decide +kernel
theorem dX12_fleetIs_36 : decode cX12_fleetIs 36 = .ok (.iaload, 1) := by decide +kernel
theorem dX12_fleetIs_37 : decode cX12_fleetIs 37 = .ok (.goto 24, 3) := by decide +kernel
theorem dX12_fleetIs_40 : decode cX12_fleetIs 40 = .ok (.iload_n 2, 1) := by decide +kernel
theorem dX12_fleetIs_41 : decode cX12_fleetIs 41 = .ok (.iconst 2, 1) := by decide +kernel
theorem dX12_fleetIs_42 : decode cX12_fleetIs 42 = .ok (.if_icmp .ne 18, 3) := by decide +kernel
theorem dX12_fleetIs_45 : decode cX12_fleetIs 45 = .ok (.aload_n 0, 1) := by decide +kernel
theorem dX12_fleetIs_46 : decode cX12_fleetIs 46 = .ok (.getfield 7, 3) := by decide +kernel
theorem dX12_fleetIs_49 : decode cX12_fleetIs 49 = .ok (.bipush 72, 2) := by decide +kernel
theorem dX12_fleetIs_51 : decode cX12_fleetIs 51 = .ok (.iload_n 1, 1) := by decide +kernel
theorem dX12_fleetIs_52 : decode cX12_fleetIs 52 = .ok (.iadd, 1) := by decide +kernel
theorem dX12_fleetIs_53 : decode cX12_fleetIs 53 = .ok (.iaload, 1) := by decide +kernel
theorem dX12_fleetIs_54 : decode cX12_fleetIs 54 = .ok (.invokestatic 345, 3) := by decide +kernel
theorem dX12_fleetIs_57 : decode cX12_fleetIs 57 = .ok (.goto 4, 3) := by decide +kernel
theorem dX12_fleetIs_60 : decode cX12_fleetIs 60 = .ok (.iconst (-1), 1) := by decide +kernel
theorem dX12_fleetIs_61 : decode cX12_fleetIs 61 = .ok (.ireturn, 1) := by decide +kernel
def f_X12_fleetIs (S0 : Gr) (x1 : Int32) (x2 : Int32) : Option (Int32) := (f_X12_isFleet S0 x1).bind fun u1 => if u1 = 0 then (some (-1)) else (if x2 = 0 then (rd' (S0.2 0) 82 (64 + x1) fun v9 => some v9) else (if x2 = 1 then (rd' (S0.2 4) 8 x1 fun v8 => some v8) else (if x2 = 2 then (rd' (S0.2 0) 82 (72 + x1) fun v6 => (f_X12_orNone v6).bind fun u7 => some u7) else (some (-1)))))
set_option maxHeartbeats 4000000 in
set_option maxRecDepth 100000 in
theorem c_X12_fleetIs (l : Launch) (E : Ec) (q0 : Nat → Nat) (sz : Nat) (S0 : Gr) (x1 : Int32) (x2 : Int32) (Rv : Int32) (h : f_X12_fleetIs S0 x1 x2 = some Rv) : Met l yX12_fleetIs (wsM (.code yX12_fleetIs cX12_fleetIs 3 (some .int))) ({ frames := 2, cells := 0, slots := 0, locals := 43 } : Room) (va_Pc [.ref (q0 0), .int x1, .int x2] (ctP E (cw_X12 E q0 S0) sz)) (ctI E (cw_X12 E q0 S0) (cw_X12 E q0 S0) sz Rv) 0 0 (va_A (cw_X12 E q0 S0) sz) := by
  refine ct_metI (by decide) (Nat.le_of_ble_eq_true rfl) ?_
  intro p e s m ar below meth c A QM hx hb hml hown hg X hP hD hS RET ls hl
  have hown : s.vm.findClass RX12 = some m.cls := hown
  have hl : lv_has ls 3 [(0, .ref (q0 0)), (1, .int x1), (2, .int x2)] := hl
  have RT : ∀ (v : Int32) (H : Heap) (locs : List Loc) (ls : Array Slot) (pc : Nat), some v = some Rv → narrow .int (.int v) = .int v → va_P E.1 vwCl (cw_X12 E q0 S0) H → va_D A (cw_X12 E q0 S0) → va_S A s.heap H locs → decode cX12_fleetIs pc = .ok (.ireturn, 1) → W p l e ({ frames := 2, cells := 0, slots := 0, locals := 43 } : Room) s m ar below meth c H locs 0 0 QM (F0 m pc ls [.int v]) := by
    intro v H locs ls pc e hn hP hD hS d
    obtain rfl := sm_e e
    exact RET H locs pc ls hn hP hD hS d
  clear RET
  obtain ⟨H, eH⟩ : ∃ z, z = s.heap := ⟨_, rfl⟩
  rw [← eH]
  have hP : va_P E.1 vwCl (cw_X12 E q0 S0) H := by rw [eH]; exact hP
  have hS : va_S A s.heap H [] := by rw [eH]; exact hS
  clear eH
  obtain ⟨locs, el⟩ : ∃ z : List Loc, z = [] := ⟨_, rfl⟩
  rw [← el] at hS ⊢
  clear el
  refine lv_aload_n hx hb dX12_fleetIs_0 rfl (lv_at hl 0 rfl) ?_
  refine lv_iload_n hx hb dX12_fleetIs_1 rfl (lv_at hl 1 rfl) ?_
  obtain ⟨u1, hc, h⟩ := bd_el h
  refine ct_iA (w1 := cw_X12 E q0 S0) X hP hD hS (va_runV (C := RX12) (As := [.int x1]) (rest := []) ⟨hx, hb, hml, hown, hg⟩ (c_X12_isFleet l E q0 H.size S0 x1 u1 hc) (cwV 1 hg (gwV wm_X12_282 wi_X12_isFleet wsl_X12_isFleet wini_X12 wco_X12_isFleet) rfl rfl rfl (by decide +kernel) ⟨Nat.le_of_ble_eq_true rfl, Nat.le_of_ble_eq_true rfl⟩) ⟨ct_blind, ct_rv X.1 hP 0 rfl rfl, ct_preA X hP hD hS _⟩ rfl rfl hl.1 rfl (lv_room (Nat.le_of_ble_eq_true rfl)) dX12_fleetIs_2 ⟨Nat.zero_le _, Nat.zero_le _⟩) (fun H locs hP hD hS => ?_)
  refine lv_if_ne (tgt := 10) hx hb dX12_fleetIs_5 (by decide) (fun c2 => ?_) (fun c2 => ?_)
  · have h := it_f h c2
    refine lv_iload_n hx hb dX12_fleetIs_10 rfl (lv_at hl 2 rfl) ?_
    refine lv_if_ne (tgt := 26) hx hb dX12_fleetIs_11 (by decide) (fun c3 => ?_) (fun c3 => ?_)
    · have h := it_f h c3
      refine lv_iload_n hx hb dX12_fleetIs_26 rfl (lv_at hl 2 rfl) ?_
      refine lv_iconst (v := 1) hx hb dX12_fleetIs_27 (by decide) ?_
      refine lv_icmp_ne (tgt := 40) hx hb dX12_fleetIs_28 (by decide) (fun c4 => ?_) (fun c4 => ?_)
      · have h := it_f h c4
        refine lv_iload_n hx hb dX12_fleetIs_40 rfl (lv_at hl 2 rfl) ?_
        refine lv_iconst (v := 2) hx hb dX12_fleetIs_41 (by decide) ?_
        refine lv_icmp_ne (tgt := 60) hx hb dX12_fleetIs_42 (by decide) (fun c5 => ?_) (fun c5 => ?_)
        · have h := it_f h c5
          refine lv_iconst (v := (-1)) hx hb dX12_fleetIs_60 (by decide) ?_
          exact RT (-1) _ _ _ _ h rfl hP hD hS dX12_fleetIs_61
        · have h := it_t h c5
          refine lv_aload_n hx hb dX12_fleetIs_45 rfl (lv_at hl 0 rfl) ?_
          refine va_get (D := E.1) (ci := 11) (v := .ref (q0 1)) (C := RX12) (T := TX12) (N := 57) hx hb hg in_X12 hown X.1 hP 0 rfl rfl 0 (by decide) (hg _ wf_X12_7) (fun _ h9 => h9) rfl dX12_fleetIs_46 ?_
          refine lv_bipush (v := 72) hx hb dX12_fleetIs_49 (by decide) ?_
          refine lv_iload_n hx hb dX12_fleetIs_51 rfl (lv_at hl 1 rfl) ?_
          refine lv_iadd hx hb dX12_fleetIs_52 ?_
          obtain ⟨hi, v6, ev6, h⟩ := rd_el h
          refine va_iald hx hb X.1 hP 1 0 rfl rfl hi dX12_fleetIs_53 ?_
          refine lv_top' ev6 ?_
          obtain ⟨u7, hc, h⟩ := bd_el h
          refine ct_iN X hP hD hS (va_runS (As := [.int v6]) (rest := []) ⟨hx, hb, hml, hown, hg⟩ (c_X12_orNone l E  H.size v6 u7 hc) (va_cwS 1 hg (gwS wm_X12_345 wst_X12_orNone wini_X12 wco_X12_orNone) rfl rfl rfl (by decide +kernel) ⟨Nat.le_of_ble_eq_true rfl, Nat.le_of_ble_eq_true rfl⟩) ⟨ct_blind, ct_preN X hS _⟩ rfl rfl hl.1 rfl (lv_room (Nat.le_of_ble_eq_true rfl)) dX12_fleetIs_54 ⟨Nat.zero_le _, Nat.zero_le _⟩) (fun H locs hP hD hS => ?_)
          refine lv_goto (tgt := 61) hx hb dX12_fleetIs_57 (by decide) ?_
          exact RT u7 _ _ _ _ h rfl hP hD hS dX12_fleetIs_61
      · have h := it_t h c4
        refine lv_aload_n hx hb dX12_fleetIs_31 rfl (lv_at hl 0 rfl) ?_
        refine va_get (D := E.1) (ci := 11) (v := .ref (q0 5)) (C := RX12) (T := TX12) (N := 57) hx hb hg in_X12 hown X.1 hP 0 rfl rfl 4 (by decide) (hg _ wf_X12_22) (fun _ h9 => h9) rfl dX12_fleetIs_32 ?_
        refine lv_iload_n hx hb dX12_fleetIs_35 rfl (lv_at hl 1 rfl) ?_
        obtain ⟨hi, v8, ev8, h⟩ := rd_el h
        refine va_iald hx hb X.1 hP 5 0 rfl rfl hi dX12_fleetIs_36 ?_
        refine lv_top' ev8 ?_
        refine lv_goto (tgt := 61) hx hb dX12_fleetIs_37 (by decide) ?_
        exact RT v8 _ _ _ _ h rfl hP hD hS dX12_fleetIs_61
    · have h := it_t h c3
      refine lv_aload_n hx hb dX12_fleetIs_14 rfl (lv_at hl 0 rfl) ?_
      refine va_get (D := E.1) (ci := 11) (v := .ref (q0 1)) (C := RX12) (T := TX12) (N := 57) hx hb hg in_X12 hown X.1 hP 0 rfl rfl 0 (by decide) (hg _ wf_X12_7) (fun _ h9 => h9) rfl dX12_fleetIs_15 ?_
      refine lv_bipush (v := 64) hx hb dX12_fleetIs_18 (by decide) ?_
      refine lv_iload_n hx hb dX12_fleetIs_20 rfl (lv_at hl 1 rfl) ?_
      refine lv_iadd hx hb dX12_fleetIs_21 ?_
      obtain ⟨hi, v9, ev9, h⟩ := rd_el h
      refine va_iald hx hb X.1 hP 1 0 rfl rfl hi dX12_fleetIs_22 ?_
      refine lv_top' ev9 ?_
      refine lv_goto (tgt := 61) hx hb dX12_fleetIs_23 (by decide) ?_
      exact RT v9 _ _ _ _ h rfl hP hD hS dX12_fleetIs_61
  · have h := it_t h c2
    refine lv_iconst (v := (-1)) hx hb dX12_fleetIs_8 (by decide) ?_
    exact RT (-1) _ _ _ _ h rfl hP hD hS dX12_fleetIs_9
theorem dX12_hangs_0 : decode cX12_hangs 0 = .ok (.iload_n 1, 1) := by decide +kernel
theorem dX12_hangs_1 : decode cX12_hangs 1 = .ok (.iconst 3, 1) := by decide +kernel
theorem dX12_hangs_2 : decode cX12_hangs 2 = .ok (.bipush 30, 2) := by decide +kernel
theorem dX12_hangs_4 : decode cX12_hangs 4 = .ok (.invokestatic 110, 3) := by decide +kernel
theorem dX12_hangs_7 : decode cX12_hangs 7 = .ok (.ifCond .ne 7, 3) := by decide +kernel
theorem dX12_hangs_10 : decode cX12_hangs 10 = .ok (.ldc2_w 408, 3) := by decide +kernel
theorem dX12_hangs_13 : decode cX12_hangs 13 = .ok (.lreturn, 1) := by decide +kernel
theorem dX12_hangs_14 : decode cX12_hangs 14 = .ok (.ldc2_w 410, 3) := by decide +kernel
theorem dX12_hangs_17 : decode cX12_hangs 17 = .ok (.lstore_n 2, 1) := by decide +kernel
theorem dX12_hangs_18 : decode cX12_hangs 18 = .ok (.lconst 1, 1) := by decide +kernel
theorem dX12_hangs_19 : decode cX12_hangs 19 = .ok (.lstore 4, 2) := by decide +kernel
theorem dX12_hangs_21 : decode cX12_hangs 21 = .ok (.iconst 0, 1) := by decide +kernel
theorem dX12_hangs_22 : decode cX12_hangs 22 = .ok (.istore 6, 2) := by decide +kernel
theorem dX12_hangs_24 : decode cX12_hangs 24 = .ok (.iload 6, 2) := by decide +kernel
theorem dX12_hangs_26 : decode cX12_hangs 26 = .ok (.iconst 2, 1) := by decide +kernel
theorem dX12_hangs_27 : decode cX12_hangs 27 = .ok (.iload_n 1, 1) := by decide +kernel
theorem dX12_hangs_28 : decode cX12_hangs 28 = .ok (.imul, 1) := by decide +kernel
theorem dX12_hangs_29 : decode cX12_hangs 29 = .ok (.if_icmp .ge 22, 3) := by decide +kernel
theorem dX12_hangs_32 : decode cX12_hangs 32 = .ok (.lload_n 2, 1) := by decide +kernel
theorem dX12_hangs_33 : decode cX12_hangs 33 = .ok (.lload 4, 2) := by decide +kernel
theorem dX12_hangs_35 : decode cX12_hangs 35 = .ok (.ladd, 1) := by decide +kernel
theorem dX12_hangs_36 : decode cX12_hangs 36 = .ok (.lstore 7, 2) := by decide +kernel
theorem dX12_hangs_38 : decode cX12_hangs 38 = .ok (.lload 4, 2) := by decide +kernel
theorem dX12_hangs_40 : decode cX12_hangs 40 = .ok (.lstore_n 2, 1) := by decide +kernel
theorem dX12_hangs_41 : decode cX12_hangs 41 = .ok (.lload 7, 2) := by decide +kernel
theorem dX12_hangs_43 : decode cX12_hangs 43 = .ok (.lstore 4, 2) := by decide +kernel
theorem dX12_hangs_45 : decode cX12_hangs 45 = .ok (.iinc 6 1, 3) := by decide +kernel
theorem dX12_hangs_48 : decode cX12_hangs 48 = .ok (.goto (-24), 3) := by decide +kernel
theorem dX12_hangs_51 : decode cX12_hangs 51 = .ok (.lload_n 2, 1) := by decide +kernel
theorem dX12_hangs_52 : decode cX12_hangs 52 = .ok (.ldc2_w 410, 3) := by decide +kernel
theorem dX12_hangs_55 : decode cX12_hangs 55 = .ok (.lsub, 1) := by decide +kernel
theorem dX12_hangs_56 : decode cX12_hangs 56 = .ok (.lreturn, 1) := by decide +kernel
def f_X12_hangs_n24 (S0 : Gr) (x1 : Int32) : Nat → Int64 → Int64 → Int32 → Option (Int64)
  | 0, _, _, _ => none
  | n + 1, x2, x4, x6 => if (2 * x1) ≤ x6 then (some (x2 - 2)) else (lt' ((x2 + x4)) fun v4 => lt' (x6 + 1) fun v5 => f_X12_hangs_n24 S0 x1 n x4 v4 v5)
def f_X12_hangs (S0 : Gr) (x1 : Int32) : Option (Int64) := (f_X12_in x1 3 30).bind fun u1 => if u1 = 0 then (some (-1)) else (f_X12_hangs_n24 S0 x1 fu 2 1 0)
set_option maxHeartbeats 4000000 in
set_option maxRecDepth 100000 in
theorem c_X12_hangs (l : Launch) (E : Ec) (q0 : Nat → Nat) (sz : Nat) (S0 : Gr) (x1 : Int32) (Rv : Int64) (h : f_X12_hangs S0 x1 = some Rv) : Met l yX12_hangs (wsM (.code yX12_hangs cX12_hangs 9 (some .long))) ({ frames := 1, cells := 0, slots := 0, locals := 22 } : Room) (va_Pc [.ref (q0 0), .int x1] (ctP E (cw_X12 E q0 S0) sz)) (ctL E (cw_X12 E q0 S0) (cw_X12 E q0 S0) sz Rv) 0 0 (va_A (cw_X12 E q0 S0) sz) := by
  refine ct_metL (by decide) (Nat.le_of_ble_eq_true rfl) ?_
  intro p e s m ar below meth c A QM hx hb hml hown hg X hP hD hS RET ls hl
  have hown : s.vm.findClass RX12 = some m.cls := hown
  have hl : lv_has ls 9 [(0, .ref (q0 0)), (1, .int x1)] := hl
  have RT : ∀ (v : Int64) (H : Heap) (locs : List Loc) (ls : Array Slot) (pc : Nat), some v = some Rv → va_P E.1 vwCl (cw_X12 E q0 S0) H → va_D A (cw_X12 E q0 S0) → va_S A s.heap H locs → decode cX12_hangs pc = .ok (.lreturn, 1) → W p l e ({ frames := 1, cells := 0, slots := 0, locals := 22 } : Room) s m ar below meth c H locs 0 0 QM (F0 m pc ls [.long v]) := by
    intro v H locs ls pc e hP hD hS d
    obtain rfl := sm_e e
    exact RET H locs pc ls hP hD hS d
  clear RET
  have N24 : ∀ (n : Nat) (x2 : Int64) (x4 : Int64) (x6 : Int32) (H : Heap) (locs : List Loc) (ls : Array Slot), f_X12_hangs_n24 S0 x1 n x2 x4 x6 = some Rv → va_P E.1 vwCl (cw_X12 E q0 S0) H → va_D A (cw_X12 E q0 S0) → va_S A s.heap H locs → lv_has ls 9 [(1, .int x1), (2, .long x2), (4, .long x4), (6, .int x6)] → W p l e ({ frames := 1, cells := 0, slots := 0, locals := 22 } : Room) s m ar below meth c H locs 0 0 QM (F0 m 24 ls []) := by
    intro n
    induction n with
    | zero => intro x2 x4 x6 H locs ls h; exact nn_el h
    | succ n ih =>
      intro x2 x4 x6 H locs ls h hP hD hS hl
      refine lv_iload hx hb dX12_hangs_24 (lv_at hl 3 rfl) ?_
      refine lv_iconst (v := 2) hx hb dX12_hangs_26 (by decide) ?_
      refine lv_iload_n hx hb dX12_hangs_27 rfl (lv_at hl 0 rfl) ?_
      refine lv_imul hx hb dX12_hangs_28 ?_
      refine lv_icmp_ge (tgt := 51) hx hb dX12_hangs_29 (by decide) (fun c3 => ?_) (fun c3 => ?_)
      · have h := it_t h c3
        refine lv_lload_n hx hb dX12_hangs_51 rfl (lv_at hl 1 rfl) ?_
        refine lv_ldc2 hx hb hown (hg _ wcn_X12_410) dX12_hangs_52 ?_
        refine lv_lsub hx hb dX12_hangs_55 ?_
        exact RT (x2 - 2) _ _ _ _ h hP hD hS dX12_hangs_56
      · have h := it_f h c3
        refine lv_lload_n hx hb dX12_hangs_32 rfl (lv_at hl 1 rfl) ?_
        refine lv_lload hx hb dX12_hangs_33 (lv_at hl 2 rfl) ?_
        refine lv_ladd hx hb dX12_hangs_35 ?_
        obtain ⟨v4, ev4, h⟩ := lt_el h
        refine lv_topl' ev4 ?_
        refine lv_lstore (lv' := [(7, .long v4), (1, .int x1), (2, .long x2), (4, .long x4), (6, .int x6)]) hx hb dX12_hangs_36 hl (by decide) rfl (fun ls hl => ?_)
        refine lv_lload hx hb dX12_hangs_38 (lv_at hl 3 rfl) ?_
        refine lv_lstore_n (lv' := [(2, .long x4), (7, .long v4), (1, .int x1), (4, .long x4), (6, .int x6)]) hx hb dX12_hangs_40 rfl hl (by decide) rfl (fun ls hl => ?_)
        refine lv_lload hx hb dX12_hangs_41 (lv_at hl 1 rfl) ?_
        refine lv_lstore (lv' := [(4, .long v4), (2, .long x4), (7, .long v4), (1, .int x1), (6, .int x6)]) hx hb dX12_hangs_43 hl (by decide) rfl (fun ls hl => ?_)
        obtain ⟨v5, ev5, h⟩ := lt_el h
        refine lv_iinc (v := v5) (lv' := [(6, .int v5), (4, .long v4), (2, .long x4), (7, .long v4), (1, .int x1)]) hx hb dX12_hangs_45 hl (k := 4) rfl (by rw [ev5]; rfl) (by decide) rfl (fun ls hl => ?_)
        refine lv_goto (tgt := 24) hx hb dX12_hangs_48 (by decide) ?_
        exact ih x4 v4 v5 _ _ _ h hP hD hS (lv_sub hl [4, 2, 1, 0] rfl)
  obtain ⟨H, eH⟩ : ∃ z, z = s.heap := ⟨_, rfl⟩
  rw [← eH]
  have hP : va_P E.1 vwCl (cw_X12 E q0 S0) H := by rw [eH]; exact hP
  have hS : va_S A s.heap H [] := by rw [eH]; exact hS
  clear eH
  obtain ⟨locs, el⟩ : ∃ z : List Loc, z = [] := ⟨_, rfl⟩
  rw [← el] at hS ⊢
  clear el
  refine lv_iload_n hx hb dX12_hangs_0 rfl (lv_at hl 1 rfl) ?_
  refine lv_iconst (v := 3) hx hb dX12_hangs_1 (by decide) ?_
  refine lv_bipush (v := 30) hx hb dX12_hangs_2 (by decide) ?_
  obtain ⟨u1, hc, h⟩ := bd_el h
  refine ct_iN X hP hD hS (va_runS (As := [.int x1, .int 3, .int 30]) (rest := []) ⟨hx, hb, hml, hown, hg⟩ (c_X12_in l E  H.size x1 3 30 u1 hc) (va_cwS 3 hg (gwS wm_X12_110 wst_X12_in wini_X12 wco_X12_in) rfl rfl rfl (by decide +kernel) ⟨Nat.le_of_ble_eq_true rfl, Nat.le_of_ble_eq_true rfl⟩) ⟨ct_blind, ct_preN X hS _⟩ rfl rfl hl.1 rfl (lv_room (Nat.le_of_ble_eq_true rfl)) dX12_hangs_4 ⟨Nat.zero_le _, Nat.zero_le _⟩) (fun H locs hP hD hS => ?_)
  refine lv_if_ne (tgt := 14) hx hb dX12_hangs_7 (by decide) (fun c2 => ?_) (fun c2 => ?_)
  · have h := it_f h c2
    refine lv_ldc2 hx hb hown (hg _ wcn_X12_410) dX12_hangs_14 ?_
    refine lv_lstore_n (lv' := [(2, .long 2), (0, .ref (q0 0)), (1, .int x1)]) hx hb dX12_hangs_17 rfl hl (by decide) rfl (fun ls hl => ?_)
    refine lv_lconst (v := 1) hx hb dX12_hangs_18 (by decide) ?_
    refine lv_lstore (lv' := [(4, .long 1), (2, .long 2), (0, .ref (q0 0)), (1, .int x1)]) hx hb dX12_hangs_19 hl (by decide) rfl (fun ls hl => ?_)
    refine lv_iconst (v := 0) hx hb dX12_hangs_21 (by decide) ?_
    refine lv_istore (lv' := [(6, .int 0), (4, .long 1), (2, .long 2), (0, .ref (q0 0)), (1, .int x1)]) hx hb dX12_hangs_22 hl (by decide) rfl (fun ls hl => ?_)
    exact N24 fu 2 1 0 _ _ _ h hP hD hS (lv_sub hl [4, 2, 1, 0] rfl)
  · have h := it_t h c2
    refine lv_ldc2 hx hb hown (hg _ wcn_X12_408) dX12_hangs_10 ?_
    exact RT (-1) _ _ _ _ h hP hD hS dX12_hangs_13
theorem dX12_reckon_0 : decode cX12_reckon 0 = .ok (.iload_n 0, 1) := by decide +kernel
theorem dX12_reckon_1 : decode cX12_reckon 1 = .ok (.tableswitch 85 2 8 #[43, 47, 51, 55, 59, 63, 74], 43) := by decide +kernel
theorem dX12_reckon_44 : decode cX12_reckon 44 = .ok (.iload_n 1, 1) := by decide +kernel
theorem dX12_reckon_45 : decode cX12_reckon 45 = .ok (.iload_n 2, 1) := by decide +kernel
theorem dX12_reckon_46 : decode cX12_reckon 46 = .ok (.iadd, 1) := by decide +kernel
theorem dX12_reckon_47 : decode cX12_reckon 47 = .ok (.ireturn, 1) := by decide +kernel
theorem dX12_reckon_48 : decode cX12_reckon 48 = .ok (.iload_n 1, 1) := by decide +kernel
theorem dX12_reckon_49 : decode cX12_reckon 49 = .ok (.iload_n 2, 1) := by decide +kernel
theorem dX12_reckon_50 : decode cX12_reckon 50 = .ok (.isub, 1) := by decide +kernel
theorem dX12_reckon_51 : decode cX12_reckon 51 = .ok (.ireturn, 1) := by decide +kernel
theorem dX12_reckon_52 : decode cX12_reckon 52 = .ok (.iload_n 1, 1) := by decide +kernel
theorem dX12_reckon_53 : decode cX12_reckon 53 = .ok (.iload_n 2, 1) := by decide +kernel
theorem dX12_reckon_54 : decode cX12_reckon 54 = .ok (.imul, 1) := by decide +kernel
theorem dX12_reckon_55 : decode cX12_reckon 55 = .ok (.ireturn, 1) := by decide +kernel
theorem dX12_reckon_56 : decode cX12_reckon 56 = .ok (.iload_n 1, 1) := by decide +kernel
theorem dX12_reckon_57 : decode cX12_reckon 57 = .ok (.iload_n 2, 1) := by decide +kernel
theorem dX12_reckon_58 : decode cX12_reckon 58 = .ok (.idiv, 1) := by decide +kernel
theorem dX12_reckon_59 : decode cX12_reckon 59 = .ok (.ireturn, 1) := by decide +kernel
theorem dX12_reckon_60 : decode cX12_reckon 60 = .ok (.iload_n 1, 1) := by decide +kernel
theorem dX12_reckon_61 : decode cX12_reckon 61 = .ok (.iload_n 2, 1) := by decide +kernel
theorem dX12_reckon_62 : decode cX12_reckon 62 = .ok (.irem, 1) := by decide +kernel
theorem dX12_reckon_63 : decode cX12_reckon 63 = .ok (.ireturn, 1) := by decide +kernel
theorem dX12_reckon_64 : decode cX12_reckon 64 = .ok (.iload_n 1, 1) := by decide +kernel
theorem dX12_reckon_65 : decode cX12_reckon 65 = .ok (.iload_n 2, 1) := by decide +kernel
theorem dX12_reckon_66 : decode cX12_reckon 66 = .ok (.if_icmp .ge 7, 3) := by decide +kernel
theorem dX12_reckon_69 : decode cX12_reckon 69 = .ok (.iconst 1, 1) := by decide +kernel
theorem dX12_reckon_70 : decode cX12_reckon 70 = .ok (.goto 4, 3) := by decide +kernel
theorem dX12_reckon_73 : decode cX12_reckon 73 = .ok (.iconst 0, 1) := by decide +kernel
theorem dX12_reckon_74 : decode cX12_reckon 74 = .ok (.ireturn, 1) := by decide +kernel
theorem dX12_reckon_75 : decode cX12_reckon 75 = .ok (.iload_n 1, 1) := by decide +kernel
theorem dX12_reckon_76 : decode cX12_reckon 76 = .ok (.iload_n 2, 1) := by decide +kernel
theorem dX12_reckon_77 : decode cX12_reckon 77 = .ok (.if_icmp .le 7, 3) := by decide +kernel
theorem dX12_reckon_80 : decode cX12_reckon 80 = .ok (.iconst 1, 1) := by decide +kernel
theorem dX12_reckon_81 : decode cX12_reckon 81 = .ok (.goto 4, 3) := by decide +kernel
theorem dX12_reckon_84 : decode cX12_reckon 84 = .ok (.iconst 0, 1) := by decide +kernel
theorem dX12_reckon_85 : decode cX12_reckon 85 = .ok (.ireturn, 1) := by decide +kernel
theorem dX12_reckon_86 : decode cX12_reckon 86 = .ok (.iload_n 1, 1) := by decide +kernel
theorem dX12_reckon_87 : decode cX12_reckon 87 = .ok (.iload_n 2, 1) := by decide +kernel
theorem dX12_reckon_88 : decode cX12_reckon 88 = .ok (.if_icmp .ne 7, 3) := by decide +kernel
theorem dX12_reckon_91 : decode cX12_reckon 91 = .ok (.iconst 1, 1) := by decide +kernel
theorem dX12_reckon_92 : decode cX12_reckon 92 = .ok (.goto 4, 3) := by decide +kernel
theorem dX12_reckon_95 : decode cX12_reckon 95 = .ok (.iconst 0, 1) := by decide +kernel
theorem dX12_reckon_96 : decode cX12_reckon 96 = .ok (.ireturn, 1) := by decide +kernel
def f_X12_reckon (x0 : Int32) (x1 : Int32) (x2 : Int32) : Option (Int32) := if x0 = 2 then (some (x1 + x2)) else if x0 = 3 then (some (x1 - x2)) else if x0 = 4 then (some (x1 * x2)) else if x0 = 5 then (dz' x2 (lt' (x1 / x2) fun v5 => some v5)) else if x0 = 6 then (dz' x2 (lt' (x1 - x1 / x2 * x2) fun v7 => some v7)) else if x0 = 7 then (if x2 ≤ x1 then (some 0) else (some 1)) else if x0 = 8 then (if x1 ≤ x2 then (some 0) else (some 1)) else (if x1 = x2 then (some 1) else (some 0))
set_option maxHeartbeats 4000000 in
set_option maxRecDepth 100000 in
theorem c_X12_reckon (l : Launch) (E : Ec) (sz : Nat) (x0 : Int32) (x1 : Int32) (x2 : Int32) (Rv : Int32) (h : f_X12_reckon x0 x1 x2 = some Rv) : Met l yX12_reckon (wsM (.code yX12_reckon cX12_reckon 3 (some .int))) ({ frames := 0, cells := 0, slots := 0, locals := 0 } : Room) (va_Pc [.int x0, .int x1, .int x2] (ctP E ([]) sz)) (ctI E ([]) ([]) sz Rv) 0 0 (va_A ([]) sz) := by
  refine ct_metI (by decide) (Nat.le_of_ble_eq_true rfl) ?_
  intro p e s m ar below meth c A QM hx hb hml hown hg X hP hD hS RET ls hl
  have hown : s.vm.findClass RX12 = some m.cls := hown
  have hl : lv_has ls 3 [(0, .int x0), (1, .int x1), (2, .int x2)] := hl
  have RT : ∀ (v : Int32) (H : Heap) (locs : List Loc) (ls : Array Slot) (pc : Nat), some v = some Rv → narrow .int (.int v) = .int v → va_P E.1 vwCl ([]) H → va_D A ([]) → va_S A s.heap H locs → decode cX12_reckon pc = .ok (.ireturn, 1) → W p l e ({ frames := 0, cells := 0, slots := 0, locals := 0 } : Room) s m ar below meth c H locs 0 0 QM (F0 m pc ls [.int v]) := by
    intro v H locs ls pc e hn hP hD hS d
    obtain rfl := sm_e e
    exact RET H locs pc ls hn hP hD hS d
  clear RET
  obtain ⟨H, eH⟩ : ∃ z, z = s.heap := ⟨_, rfl⟩
  rw [← eH]
  have hP : va_P E.1 vwCl ([]) H := by rw [eH]; exact hP
  have hS : va_S A s.heap H [] := by rw [eH]; exact hS
  clear eH
  obtain ⟨locs, el⟩ : ∃ z : List Loc, z = [] := ⟨_, rfl⟩
  rw [← el] at hS ⊢
  clear el
  refine lv_iload_n hx hb dX12_reckon_0 rfl (lv_at hl 0 rfl) ?_
  by_cases c1 : x0 = 2
  · have h := it_t h c1
    refine lv_tableIn (tgt := 44) hx hb dX12_reckon_1 (by rw [c1]; decide) (by rw [c1]; decide) (by rw [c1] <;> rfl) (by decide) ?_
    refine lv_iload_n hx hb dX12_reckon_44 rfl (lv_at hl 1 rfl) ?_
    refine lv_iload_n hx hb dX12_reckon_45 rfl (lv_at hl 2 rfl) ?_
    refine lv_iadd hx hb dX12_reckon_46 ?_
    exact RT (x1 + x2) _ _ _ _ h rfl hP hD hS dX12_reckon_47
  · have h := it_f h c1
    by_cases c2 : x0 = 3
    · have h := it_t h c2
      refine lv_tableIn (tgt := 48) hx hb dX12_reckon_1 (by rw [c2]; decide) (by rw [c2]; decide) (by rw [c2] <;> rfl) (by decide) ?_
      refine lv_iload_n hx hb dX12_reckon_48 rfl (lv_at hl 1 rfl) ?_
      refine lv_iload_n hx hb dX12_reckon_49 rfl (lv_at hl 2 rfl) ?_
      refine lv_isub hx hb dX12_reckon_50 ?_
      exact RT (x1 - x2) _ _ _ _ h rfl hP hD hS dX12_reckon_51
    · have h := it_f h c2
      by_cases c3 : x0 = 4
      · have h := it_t h c3
        refine lv_tableIn (tgt := 52) hx hb dX12_reckon_1 (by rw [c3]; decide) (by rw [c3]; decide) (by rw [c3] <;> rfl) (by decide) ?_
        refine lv_iload_n hx hb dX12_reckon_52 rfl (lv_at hl 1 rfl) ?_
        refine lv_iload_n hx hb dX12_reckon_53 rfl (lv_at hl 2 rfl) ?_
        refine lv_imul hx hb dX12_reckon_54 ?_
        exact RT (x1 * x2) _ _ _ _ h rfl hP hD hS dX12_reckon_55
      · have h := it_f h c3
        by_cases c4 : x0 = 5
        · have h := it_t h c4
          refine lv_tableIn (tgt := 56) hx hb dX12_reckon_1 (by rw [c4]; decide) (by rw [c4]; decide) (by rw [c4] <;> rfl) (by decide) ?_
          refine lv_iload_n hx hb dX12_reckon_56 rfl (lv_at hl 1 rfl) ?_
          refine lv_iload_n hx hb dX12_reckon_57 rfl (lv_at hl 2 rfl) ?_
          obtain ⟨hz, h⟩ := dz_el h
          refine lv_idiv hx hb dX12_reckon_58 hz ?_
          obtain ⟨v5, ev5, h⟩ := lt_el h
          refine lv_top' ev5 ?_
          exact RT v5 _ _ _ _ h rfl hP hD hS dX12_reckon_59
        · have h := it_f h c4
          by_cases c6 : x0 = 6
          · have h := it_t h c6
            refine lv_tableIn (tgt := 60) hx hb dX12_reckon_1 (by rw [c6]; decide) (by rw [c6]; decide) (by rw [c6] <;> rfl) (by decide) ?_
            refine lv_iload_n hx hb dX12_reckon_60 rfl (lv_at hl 1 rfl) ?_
            refine lv_iload_n hx hb dX12_reckon_61 rfl (lv_at hl 2 rfl) ?_
            obtain ⟨hz, h⟩ := dz_el h
            refine lv_irem hx hb dX12_reckon_62 hz ?_
            obtain ⟨v7, ev7, h⟩ := lt_el h
            refine lv_top' ev7 ?_
            exact RT v7 _ _ _ _ h rfl hP hD hS dX12_reckon_63
          · have h := it_f h c6
            by_cases c8 : x0 = 7
            · have h := it_t h c8
              refine lv_tableIn (tgt := 64) hx hb dX12_reckon_1 (by rw [c8]; decide) (by rw [c8]; decide) (by rw [c8] <;> rfl) (by decide) ?_
              refine lv_iload_n hx hb dX12_reckon_64 rfl (lv_at hl 1 rfl) ?_
              refine lv_iload_n hx hb dX12_reckon_65 rfl (lv_at hl 2 rfl) ?_
              refine lv_icmp_ge (tgt := 73) hx hb dX12_reckon_66 (by decide) (fun c9 => ?_) (fun c9 => ?_)
              · have h := it_t h c9
                refine lv_iconst (v := 0) hx hb dX12_reckon_73 (by decide) ?_
                exact RT 0 _ _ _ _ h rfl hP hD hS dX12_reckon_74
              · have h := it_f h c9
                refine lv_iconst (v := 1) hx hb dX12_reckon_69 (by decide) ?_
                refine lv_goto (tgt := 74) hx hb dX12_reckon_70 (by decide) ?_
                exact RT 1 _ _ _ _ h rfl hP hD hS dX12_reckon_74
            · have h := it_f h c8
              by_cases c10 : x0 = 8
              · have h := it_t h c10
                refine lv_tableIn (tgt := 75) hx hb dX12_reckon_1 (by rw [c10]; decide) (by rw [c10]; decide) (by rw [c10] <;> rfl) (by decide) ?_
                refine lv_iload_n hx hb dX12_reckon_75 rfl (lv_at hl 1 rfl) ?_
                refine lv_iload_n hx hb dX12_reckon_76 rfl (lv_at hl 2 rfl) ?_
                refine lv_icmp_le (tgt := 84) hx hb dX12_reckon_77 (by decide) (fun c11 => ?_) (fun c11 => ?_)
                · have h := it_t h c11
                  refine lv_iconst (v := 0) hx hb dX12_reckon_84 (by decide) ?_
                  exact RT 0 _ _ _ _ h rfl hP hD hS dX12_reckon_85
                · have h := it_f h c11
                  refine lv_iconst (v := 1) hx hb dX12_reckon_80 (by decide) ?_
                  refine lv_goto (tgt := 85) hx hb dX12_reckon_81 (by decide) ?_
                  exact RT 1 _ _ _ _ h rfl hP hD hS dX12_reckon_85
              · have h := it_f h c10
                have ho : (x0).toInt < 2 ∨ 8 < (x0).toInt := by
                  by_cases h1 : (x0).toInt < 2
                  · exact Or.inl h1
                  by_cases h2 : 8 < (x0).toInt
                  · exact Or.inr h2
                  have h3 : (x0).toInt = 2 ∨ (x0).toInt = 3 ∨ (x0).toInt = 4 ∨ (x0).toInt = 5 ∨ (x0).toInt = 6 ∨ (x0).toInt = 7 ∨ (x0).toInt = 8 := by omega
                  rcases h3 with h3 | h3 | h3 | h3 | h3 | h3 | h3
                  · exact absurd (Int32.toInt_inj.mp (h3.trans (by decide))) c1
                  · exact absurd (Int32.toInt_inj.mp (h3.trans (by decide))) c2
                  · exact absurd (Int32.toInt_inj.mp (h3.trans (by decide))) c3
                  · exact absurd (Int32.toInt_inj.mp (h3.trans (by decide))) c4
                  · exact absurd (Int32.toInt_inj.mp (h3.trans (by decide))) c6
                  · exact absurd (Int32.toInt_inj.mp (h3.trans (by decide))) c8
                  · exact absurd (Int32.toInt_inj.mp (h3.trans (by decide))) c10
                refine lv_tableOut (tgt := 86) hx hb dX12_reckon_1 ho (by decide) ?_
                refine lv_iload_n hx hb dX12_reckon_86 rfl (lv_at hl 1 rfl) ?_
                refine lv_iload_n hx hb dX12_reckon_87 rfl (lv_at hl 2 rfl) ?_
                refine lv_icmp_ne (tgt := 95) hx hb dX12_reckon_88 (by decide) (fun c12 => ?_) (fun c12 => ?_)
                · have h := it_f h c12
                  refine lv_iconst (v := 0) hx hb dX12_reckon_95 (by decide) ?_
                  exact RT 0 _ _ _ _ h rfl hP hD hS dX12_reckon_96
                · have h := it_t h c12
                  refine lv_iconst (v := 1) hx hb dX12_reckon_91 (by decide) ?_
                  refine lv_goto (tgt := 96) hx hb dX12_reckon_92 (by decide) ?_
                  exact RT 1 _ _ _ _ h rfl hP hD hS dX12_reckon_96
theorem dX12_reckonsTo_0 : decode cX12_reckonsTo 0 = .ok (.iconst 0, 1) := by decide +kernel
theorem dX12_reckonsTo_1 : decode cX12_reckonsTo 1 = .ok (.istore_n 3, 1) := by decide +kernel
theorem dX12_reckonsTo_2 : decode cX12_reckonsTo 2 = .ok (.sipush 260, 3) := by decide +kernel
theorem dX12_reckonsTo_5 : decode cX12_reckonsTo 5 = .ok (.iload_n 1, 1) := by decide +kernel
theorem dX12_reckonsTo_6 : decode cX12_reckonsTo 6 = .ok (.sipush 260, 3) := by decide +kernel
theorem dX12_reckonsTo_9 : decode cX12_reckonsTo 9 = .ok (.idiv, 1) := by decide +kernel
theorem dX12_reckonsTo_10 : decode cX12_reckonsTo 10 = .ok (.imul, 1) := by decide +kernel
theorem dX12_reckonsTo_11 : decode cX12_reckonsTo 11 = .ok (.istore 4, 2) := by decide +kernel
theorem dX12_reckonsTo_13 : decode cX12_reckonsTo 13 = .ok (.iload_n 1, 1) := by decide +kernel
theorem dX12_reckonsTo_14 : decode cX12_reckonsTo 14 = .ok (.istore 5, 2) := by decide +kernel
theorem dX12_reckonsTo_16 : decode cX12_reckonsTo 16 = .ok (.iload 5, 2) := by decide +kernel
theorem dX12_reckonsTo_18 : decode cX12_reckonsTo 18 = .ok (.iload_n 2, 1) := by decide +kernel
theorem dX12_reckonsTo_19 : decode cX12_reckonsTo 19 = .ok (.if_icmp .ge 214, 3) := by decide +kernel
theorem dX12_reckonsTo_22 : decode cX12_reckonsTo 22 = .ok (.aload_n 0, 1) := by decide +kernel
theorem dX12_reckonsTo_23 : decode cX12_reckonsTo 23 = .ok (.getfield 47, 3) := by decide +kernel
theorem dX12_reckonsTo_26 : decode cX12_reckonsTo 26 = .ok (.iload 5, 2) := by decide +kernel
theorem dX12_reckonsTo_28 : decode cX12_reckonsTo 28 = .ok (.iaload, 1) := by decide +kernel
theorem dX12_reckonsTo_29 : decode cX12_reckonsTo 29 = .ok (.ldc 176, 2) := by decide +kernel
theorem dX12_reckonsTo_31 : decode cX12_reckonsTo 31 = .ok (.idiv, 1) := by decide +kernel
theorem dX12_reckonsTo_32 : decode cX12_reckonsTo 32 = .ok (.istore 6, 2) := by decide +kernel
theorem dX12_reckonsTo_34 : decode cX12_reckonsTo 34 = .ok (.aload_n 0, 1) := by decide +kernel
theorem dX12_reckonsTo_35 : decode cX12_reckonsTo 35 = .ok (.getfield 47, 3) := by decide +kernel
theorem dX12_reckonsTo_38 : decode cX12_reckonsTo 38 = .ok (.iload 5, 2) := by decide +kernel
theorem dX12_reckonsTo_40 : decode cX12_reckonsTo 40 = .ok (.iaload, 1) := by decide +kernel
theorem dX12_reckonsTo_41 : decode cX12_reckonsTo 41 = .ok (.ldc 176, 2) := by decide +kernel
theorem dX12_reckonsTo_43 : decode cX12_reckonsTo 43 = .ok (.irem, 1) := by decide +kernel
theorem dX12_reckonsTo_44 : decode cX12_reckonsTo 44 = .ok (.istore 7, 2) := by decide +kernel
theorem dX12_reckonsTo_46 : decode cX12_reckonsTo 46 = .ok (.iload 5, 2) := by decide +kernel
theorem dX12_reckonsTo_48 : decode cX12_reckonsTo 48 = .ok (.iconst 1, 1) := by decide +kernel
theorem dX12_reckonsTo_49 : decode cX12_reckonsTo 49 = .ok (.iadd, 1) := by decide +kernel
theorem dX12_reckonsTo_50 : decode cX12_reckonsTo 50 = .ok (.istore 5, 2) := by decide +kernel
theorem dX12_reckonsTo_52 : decode cX12_reckonsTo 52 = .ok (.iload 6, 2) := by decide +kernel
theorem dX12_reckonsTo_54 : decode cX12_reckonsTo 54 = .ok (.ifCond .eq 9, 3) := by decide +kernel
theorem dX12_reckonsTo_57 : decode cX12_reckonsTo 57 = .ok (.iload 6, 2) := by decide +kernel
theorem dX12_reckonsTo_59 : decode cX12_reckonsTo 59 = .ok (.iconst 1, 1) := by decide +kernel
theorem dX12_reckonsTo_60 : decode cX12_reckonsTo 60 = .ok (.if_icmp .ne 33, 3) := by decide +kernel
theorem dX12_reckonsTo_63 : decode cX12_reckonsTo 63 = .ok (.aload_n 0, 1) := by decide +kernel
theorem dX12_reckonsTo_64 : decode cX12_reckonsTo 64 = .ok (.getfield 62, 3) := by decide +kernel
theorem dX12_reckonsTo_67 : decode cX12_reckonsTo 67 = .ok (.iload_n 3, 1) := by decide +kernel
theorem dX12_reckonsTo_68 : decode cX12_reckonsTo 68 = .ok (.iload 6, 2) := by decide +kernel
theorem dX12_reckonsTo_70 : decode cX12_reckonsTo 70 = .ok (.ifCond .ne 8, 3) := by decide +kernel
theorem dX12_reckonsTo_73 : decode cX12_reckonsTo 73 = .ok (.iload 7, 2) := by decide +kernel
theorem dX12_reckonsTo_75 : decode cX12_reckonsTo 75 = .ok (.goto 10, 3) := by decide +kernel
theorem dX12_reckonsTo_78 : decode cX12_reckonsTo 78 = .ok (.aload_n 0, 1) := by decide +kernel
theorem dX12_reckonsTo_79 : decode cX12_reckonsTo 79 = .ok (.getfield 65, 3) := by decide +kernel
theorem dX12_reckonsTo_82 : decode cX12_reckonsTo 82 = .ok (.iload 7, 2) := by decide +kernel
theorem dX12_reckonsTo_84 : decode cX12_reckonsTo 84 = .ok (.iaload, 1) := by decide +kernel
theorem dX12_reckonsTo_85 : decode cX12_reckonsTo 85 = .ok (.iastore, 1) := by decide +kernel
theorem dX12_reckonsTo_86 : decode cX12_reckonsTo 86 = .ok (.iload_n 3, 1) := by decide +kernel
theorem dX12_reckonsTo_87 : decode cX12_reckonsTo 87 = .ok (.iconst 1, 1) := by decide +kernel
theorem dX12_reckonsTo_88 : decode cX12_reckonsTo 88 = .ok (.iadd, 1) := by decide +kernel
theorem dX12_reckonsTo_89 : decode cX12_reckonsTo 89 = .ok (.istore_n 3, 1) := by decide +kernel
theorem dX12_reckonsTo_90 : decode cX12_reckonsTo 90 = .ok (.goto 140, 3) := by decide +kernel
theorem dX12_reckonsTo_93 : decode cX12_reckonsTo 93 = .ok (.iload 6, 2) := by decide +kernel
theorem dX12_reckonsTo_95 : decode cX12_reckonsTo 95 = .ok (.bipush 10, 2) := by decide +kernel
theorem dX12_reckonsTo_97 : decode cX12_reckonsTo 97 = .ok (.if_icmp .ne 24, 3) := by decide +kernel
theorem dX12_reckonsTo_100 : decode cX12_reckonsTo 100 = .ok (.aload_n 0, 1) := by decide +kernel
theorem dX12_reckonsTo_101 : decode cX12_reckonsTo 101 = .ok (.getfield 62, 3) := by decide +kernel
theorem dX12_reckonsTo_104 : decode cX12_reckonsTo 104 = .ok (.iload_n 3, 1) := by decide +kernel
theorem dX12_reckonsTo_105 : decode cX12_reckonsTo 105 = .ok (.iconst 1, 1) := by decide +kernel
theorem dX12_reckonsTo_106 : decode cX12_reckonsTo 106 = .ok (.isub, 1) := by decide +kernel
theorem dX12_reckonsTo_107 : decode cX12_reckonsTo 107 = .ok (.iconst 1, 1) := by decide +kernel
theorem dX12_reckonsTo_108 : decode cX12_reckonsTo 108 = .ok (.aload_n 0, 1) := by decide +kernel
theorem dX12_reckonsTo_109 : decode cX12_reckonsTo 109 = .ok (.getfield 62, 3) := by decide +kernel
theorem dX12_reckonsTo_112 : decode cX12_reckonsTo 112 = .ok (.iload_n 3, 1) := by decide +kernel
theorem dX12_reckonsTo_113 : decode cX12_reckonsTo 113 = .ok (.iconst 1, 1) := by decide +kernel
theorem dX12_reckonsTo_114 : decode cX12_reckonsTo 114 = .ok (.isub, 1) := by decide +kernel
theorem dX12_reckonsTo_115 : decode cX12_reckonsTo 115 = .ok (.iaload, 1) := by decide +kernel
theorem dX12_reckonsTo_116 : decode cX12_reckonsTo 116 = .ok (.isub, 1) := by decide +kernel
theorem dX12_reckonsTo_117 : decode cX12_reckonsTo 117 = .ok (.iastore, 1) := by decide +kernel
theorem dX12_reckonsTo_118 : decode cX12_reckonsTo 118 = .ok (.goto 112, 3) := by decide +kernel
theorem dX12_reckonsTo_121 : decode cX12_reckonsTo 121 = .ok (.iload 6, 2) := by decide +kernel
theorem dX12_reckonsTo_123 : decode cX12_reckonsTo 123 = .ok (.bipush 11, 2) := by decide +kernel
theorem dX12_reckonsTo_125 : decode cX12_reckonsTo 125 = .ok (.if_icmp .eq 10, 3) := by decide +kernel
theorem dX12_reckonsTo_128 : decode cX12_reckonsTo 128 = .ok (.iload 6, 2) := by decide +kernel
theorem dX12_reckonsTo_130 : decode cX12_reckonsTo 130 = .ok (.bipush 12, 2) := by decide +kernel
theorem dX12_reckonsTo_132 : decode cX12_reckonsTo 132 = .ok (.if_icmp .ne 43, 3) := by decide +kernel
theorem dX12_reckonsTo_135 : decode cX12_reckonsTo 135 = .ok (.aload_n 0, 1) := by decide +kernel
theorem dX12_reckonsTo_136 : decode cX12_reckonsTo 136 = .ok (.getfield 62, 3) := by decide +kernel
theorem dX12_reckonsTo_139 : decode cX12_reckonsTo 139 = .ok (.iload_n 3, 1) := by decide +kernel
theorem dX12_reckonsTo_140 : decode cX12_reckonsTo 140 = .ok (.iconst 1, 1) := by decide +kernel
theorem dX12_reckonsTo_141 : decode cX12_reckonsTo 141 = .ok (.isub, 1) := by decide +kernel
theorem dX12_reckonsTo_142 : decode cX12_reckonsTo 142 = .ok (.iaload, 1) := by decide +kernel
theorem dX12_reckonsTo_143 : decode cX12_reckonsTo 143 = .ok (.iload 6, 2) := by decide +kernel
theorem dX12_reckonsTo_145 : decode cX12_reckonsTo 145 = .ok (.bipush 12, 2) := by decide +kernel
theorem dX12_reckonsTo_147 : decode cX12_reckonsTo 147 = .ok (.if_icmp .ne 7, 3) := by decide +kernel
theorem dX12_reckonsTo_150 : decode cX12_reckonsTo 150 = .ok (.iconst 1, 1) := by decide +kernel
theorem dX12_reckonsTo_151 : decode cX12_reckonsTo 151 = .ok (.goto 4, 3) := by decide +kernel
theorem dX12_reckonsTo_154 : decode cX12_reckonsTo 154 = .ok (.iconst 0, 1) := by decide +kernel
theorem dX12_reckonsTo_155 : decode cX12_reckonsTo 155 = .ok (.if_icmp .ne 13, 3) := by decide +kernel
theorem dX12_reckonsTo_158 : decode cX12_reckonsTo 158 = .ok (.iload 4, 2) := by decide +kernel
theorem dX12_reckonsTo_160 : decode cX12_reckonsTo 160 = .ok (.iload 7, 2) := by decide +kernel
theorem dX12_reckonsTo_162 : decode cX12_reckonsTo 162 = .ok (.iadd, 1) := by decide +kernel
theorem dX12_reckonsTo_163 : decode cX12_reckonsTo 163 = .ok (.istore 5, 2) := by decide +kernel
theorem dX12_reckonsTo_165 : decode cX12_reckonsTo 165 = .ok (.goto 65, 3) := by decide +kernel
theorem dX12_reckonsTo_168 : decode cX12_reckonsTo 168 = .ok (.iload_n 3, 1) := by decide +kernel
theorem dX12_reckonsTo_169 : decode cX12_reckonsTo 169 = .ok (.iconst 1, 1) := by decide +kernel
theorem dX12_reckonsTo_170 : decode cX12_reckonsTo 170 = .ok (.isub, 1) := by decide +kernel
theorem dX12_reckonsTo_171 : decode cX12_reckonsTo 171 = .ok (.istore_n 3, 1) := by decide +kernel
theorem dX12_reckonsTo_172 : decode cX12_reckonsTo 172 = .ok (.goto 58, 3) := by decide +kernel
theorem dX12_reckonsTo_175 : decode cX12_reckonsTo 175 = .ok (.iload_n 3, 1) := by decide +kernel
theorem dX12_reckonsTo_176 : decode cX12_reckonsTo 176 = .ok (.iconst 1, 1) := by decide +kernel
theorem dX12_reckonsTo_177 : decode cX12_reckonsTo 177 = .ok (.isub, 1) := by decide +kernel
theorem dX12_reckonsTo_178 : decode cX12_reckonsTo 178 = .ok (.istore_n 3, 1) := by decide +kernel
theorem dX12_reckonsTo_179 : decode cX12_reckonsTo 179 = .ok (.iload 6, 2) := by decide +kernel
theorem dX12_reckonsTo_181 : decode cX12_reckonsTo 181 = .ok (.iconst 5, 1) := by decide +kernel
theorem dX12_reckonsTo_182 : decode cX12_reckonsTo 182 = .ok (.if_icmp .eq 10, 3) := by decide +kernel
theorem dX12_reckonsTo_185 : decode cX12_reckonsTo 185 = .ok (.iload 6, 2) := by decide +kernel
theorem dX12_reckonsTo_187 : decode cX12_reckonsTo 187 = .ok (.bipush 6, 2) := by decide +kernel
theorem dX12_reckonsTo_189 : decode cX12_reckonsTo 189 = .ok (.if_icmp .ne 14, 3) := by decide +kernel
theorem dX12_reckonsTo_192 : decode cX12_reckonsTo 192 = .ok (.aload_n 0, 1) := by decide +kernel
theorem dX12_reckonsTo_193 : decode cX12_reckonsTo 193 = .ok (.getfield 62, 3) := by decide +kernel
theorem dX12_reckonsTo_196 : decode cX12_reckonsTo 196 = .ok (.iload_n 3, 1) := by decide +kernel
theorem dX12_reckonsTo_197 : decode cX12_reckonsTo 197 = .ok (.iaload, 1) := by decide +kernel
theorem dX12_reckonsTo_198 : decode cX12_reckonsTo 198 = .ok (.ifCond .ne 5, 3) := by decide +kernel
theorem dX12_reckonsTo_201 : decode cX12_reckonsTo 201 = .ok (.iconst 0, 1) := by decide +kernel
theorem dX12_reckonsTo_202 : decode cX12_reckonsTo 202 = .ok (.ireturn, 1) := by decide +kernel
theorem dX12_reckonsTo_203 : decode cX12_reckonsTo 203 = .ok (.aload_n 0, 1) := by decide +kernel
theorem dX12_reckonsTo_204 : decode cX12_reckonsTo 204 = .ok (.getfield 62, 3) := by decide +kernel
theorem dX12_reckonsTo_207 : decode cX12_reckonsTo 207 = .ok (.iload_n 3, 1) := by decide +kernel
theorem dX12_reckonsTo_208 : decode cX12_reckonsTo 208 = .ok (.iconst 1, 1) := by decide +kernel
theorem dX12_reckonsTo_209 : decode cX12_reckonsTo 209 = .ok (.isub, 1) := by decide +kernel
theorem dX12_reckonsTo_210 : decode cX12_reckonsTo 210 = .ok (.iload 6, 2) := by decide +kernel
theorem dX12_reckonsTo_212 : decode cX12_reckonsTo 212 = .ok (.aload_n 0, 1) := by decide +kernel
theorem dX12_reckonsTo_213 : decode cX12_reckonsTo 213 = .ok (.getfield 62, 3) := by decide +kernel
theorem dX12_reckonsTo_216 : decode cX12_reckonsTo 216 = .ok (.iload_n 3, 1) := by decide +kernel
theorem dX12_reckonsTo_217 : decode cX12_reckonsTo 217 = .ok (.iconst 1, 1) := by decide +kernel
theorem dX12_reckonsTo_218 : decode cX12_reckonsTo 218 = .ok (.isub, 1) := by decide +kernel
theorem dX12_reckonsTo_219 : decode cX12_reckonsTo 219 = .ok (.iaload, 1) := by decide +kernel
theorem dX12_reckonsTo_220 : decode cX12_reckonsTo 220 = .ok (.aload_n 0, 1) := by decide +kernel
theorem dX12_reckonsTo_221 : decode cX12_reckonsTo 221 = .ok (.getfield 62, 3) := by decide +kernel
theorem dX12_reckonsTo_224 : decode cX12_reckonsTo 224 = .ok (.iload_n 3, 1) := by decide +kernel
theorem dX12_reckonsTo_225 : decode cX12_reckonsTo 225 = .ok (.iaload, 1) := by decide +kernel
theorem dX12_reckonsTo_226 : decode cX12_reckonsTo 226 = .ok (.invokestatic 245, 3) := by decide +kernel
theorem dX12_reckonsTo_229 : decode cX12_reckonsTo 229 = .ok (.iastore, 1) := by decide +kernel
theorem dX12_reckonsTo_230 : decode cX12_reckonsTo 230 = .ok (.goto (-214), 3) := by decide +kernel
theorem dX12_reckonsTo_233 : decode cX12_reckonsTo 233 = .ok (.aload_n 0, 1) := by decide +kernel
theorem dX12_reckonsTo_234 : decode cX12_reckonsTo 234 = .ok (.getfield 62, 3) := by decide +kernel
theorem dX12_reckonsTo_237 : decode cX12_reckonsTo 237 = .ok (.iconst 0, 1) := by decide +kernel
theorem dX12_reckonsTo_238 : decode cX12_reckonsTo 238 = .ok (.iaload, 1) := by decide +kernel
theorem dX12_reckonsTo_239 : decode cX12_reckonsTo 239 = .ok (.ireturn, 1) := by decide +kernel
def f_X12_reckonsTo_n63 (x1 : Int32) (x2 : Int32) (k16 : Gr → Int32 → Int32 → Int32 → Option (Int32 × Gr)) (S0 : Gr) (x3 : Int32) (x4 : Int32) (x5 : Int32) (x6 : Int32) (x7 : Int32) : Option (Int32 × Gr) := if x6 = 0 then (ck' 260 x3 (lt' (sA S0 29 (Int32.toNatClampNeg x3) x7) fun S0_40 => lt' ((x3 + 1)) fun v41 => k16 S0_40 v41 x4 x5)) else (rd' (S0.2 30) 10 x7 fun v37 => ck' 260 x3 (lt' (sA S0 29 (Int32.toNatClampNeg x3) v37) fun S0_38 => lt' ((x3 + 1)) fun v39 => k16 S0_38 v39 x4 x5))
def f_X12_reckonsTo_n135 (x1 : Int32) (x2 : Int32) (k16 : Gr → Int32 → Int32 → Int32 → Option (Int32 × Gr)) (S0 : Gr) (x3 : Int32) (x4 : Int32) (x5 : Int32) (x6 : Int32) (x7 : Int32) : Option (Int32 × Gr) := rd' (S0.2 29) 260 (x3 - 1) fun v28 => if x6 = 12 then (if v28 = 1 then (lt' ((x4 + x7)) fun v35 => k16 S0 x3 x4 v35) else (lt' ((x3 - 1)) fun v34 => k16 S0 v34 x4 x5)) else (if v28 = 0 then (lt' ((x4 + x7)) fun v32 => k16 S0 x3 x4 v32) else (lt' ((x3 - 1)) fun v31 => k16 S0 v31 x4 x5))
def f_X12_reckonsTo_n203 (x1 : Int32) (x2 : Int32) (k16 : Gr → Int32 → Int32 → Int32 → Option (Int32 × Gr)) (S0 : Gr) (x3 : Int32) (x4 : Int32) (x5 : Int32) (x6 : Int32) : Option (Int32 × Gr) := rd' (S0.2 29) 260 (x3 - 1) fun v24 => rd' (S0.2 29) 260 x3 fun v25 => (f_X12_reckon x6 v24 v25).bind fun u26 => ck' 260 (x3 - 1) (lt' (sA S0 29 (Int32.toNatClampNeg (x3 - 1)) u26) fun S0_27 => k16 S0_27 x3 x4 x5)
def f_X12_reckonsTo_n16 (x1 : Int32) (x2 : Int32) : Nat → Gr → Int32 → Int32 → Int32 → Option (Int32 × Gr)
  | 0, _, _, _, _ => none
  | n + 1, S0, x3, x4, x5 => if x2 ≤ x5 then (rd' (S0.2 29) 260 0 fun v4 => some (v4, S0)) else (rd' (S0.2 24) 260 x5 fun v5 => lt' (v5 / 1048576) fun v6 => rd' (S0.2 24) 260 x5 fun v7 => lt' (v7 - v7 / 1048576 * 1048576) fun v8 => lt' ((x5 + 1)) fun v9 => if v6 = 0 then (f_X12_reckonsTo_n63 x1 x2 (f_X12_reckonsTo_n16 x1 x2 n) S0 x3 x4 v9 v6 v8) else (if v6 = 1 then (f_X12_reckonsTo_n63 x1 x2 (f_X12_reckonsTo_n16 x1 x2 n) S0 x3 x4 v9 v6 v8) else (if v6 = 10 then (rd' (S0.2 29) 260 (x3 - 1) fun v22 => ck' 260 (x3 - 1) (lt' (sA S0 29 (Int32.toNatClampNeg (x3 - 1)) (1 - v22)) fun S0_23 => f_X12_reckonsTo_n16 x1 x2 n S0_23 x3 x4 v9)) else (if v6 = 11 then (f_X12_reckonsTo_n135 x1 x2 (f_X12_reckonsTo_n16 x1 x2 n) S0 x3 x4 v9 v6 v8) else (if v6 = 12 then (f_X12_reckonsTo_n135 x1 x2 (f_X12_reckonsTo_n16 x1 x2 n) S0 x3 x4 v9 v6 v8) else (lt' ((x3 - 1)) fun v15 => if v6 = 5 then (rd' (S0.2 29) 260 v15 fun v17 => if v17 = 0 then (some (0, S0)) else (f_X12_reckonsTo_n203 x1 x2 (f_X12_reckonsTo_n16 x1 x2 n) S0 v15 x4 v9 v6)) else (if v6 = 6 then (rd' (S0.2 29) 260 v15 fun v20 => if v20 = 0 then (some (0, S0)) else (f_X12_reckonsTo_n203 x1 x2 (f_X12_reckonsTo_n16 x1 x2 n) S0 v15 x4 v9 v6)) else (f_X12_reckonsTo_n203 x1 x2 (f_X12_reckonsTo_n16 x1 x2 n) S0 v15 x4 v9 v6))))))))
def f_X12_reckonsTo (S0 : Gr) (x1 : Int32) (x2 : Int32) : Option (Int32 × Gr) := lt' (x1 / 260) fun v1 => lt' ((260 * v1)) fun v2 => f_X12_reckonsTo_n16 x1 x2 fu S0 0 v2 x1
set_option maxHeartbeats 4000000 in
set_option maxRecDepth 100000 in
theorem c_X12_reckonsTo (l : Launch) (E : Ec) (q0 : Nat → Nat) (sz : Nat) (S0 : Gr) (x1 : Int32) (x2 : Int32) (Rv : Int32 × Gr) (h : f_X12_reckonsTo S0 x1 x2 = some Rv) : Met l yX12_reckonsTo (wsM (.code yX12_reckonsTo cX12_reckonsTo 8 (some .int))) ({ frames := 1, cells := 0, slots := 0, locals := 22 } : Room) (va_Pc [.ref (q0 0), .int x1, .int x2] (ctP E (cw_X12 E q0 S0) sz)) (ctI E (cw_X12 E q0 S0) (cw_X12 E q0 Rv.2) sz Rv.1) 0 0 (va_A (cw_X12 E q0 S0) sz) := by
  refine ct_metI (by decide) (Nat.le_of_ble_eq_true rfl) ?_
  intro p e s m ar below meth c A QM hx hb hml hown hg X hP hD hS RET ls hl
  have hown : s.vm.findClass RX12 = some m.cls := hown
  have hl : lv_has ls 8 [(0, .ref (q0 0)), (1, .int x1), (2, .int x2)] := hl
  have RT : ∀ (v : Int32) (S0 : Gr) (H : Heap) (locs : List Loc) (ls : Array Slot) (pc : Nat), some (v, S0) = some Rv → narrow .int (.int v) = .int v → va_P E.1 vwCl (cw_X12 E q0 S0) H → va_D A (cw_X12 E q0 S0) → va_S A s.heap H locs → decode cX12_reckonsTo pc = .ok (.ireturn, 1) → W p l e ({ frames := 1, cells := 0, slots := 0, locals := 22 } : Room) s m ar below meth c H locs 0 0 QM (F0 m pc ls [.int v]) := by
    intro v S0 H locs ls pc e hn hP hD hS d
    obtain rfl := sm_e e
    exact RET H locs pc ls hn hP hD hS d
  clear RET
  have N63 : ∀ (k16 : Gr → Int32 → Int32 → Int32 → Option (Int32 × Gr)) (hk16 : ∀ (S0 : Gr) (x3 : Int32) (x4 : Int32) (x5 : Int32) (H : Heap) (locs : List Loc) (ls : Array Slot), k16 S0 x3 x4 x5 = some Rv → va_P E.1 vwCl (cw_X12 E q0 S0) H → va_D A (cw_X12 E q0 S0) → va_S A s.heap H locs → lv_has ls 8 [(0, .ref (q0 0)), (2, .int x2), (3, .int x3), (4, .int x4), (5, .int x5)] → W p l e ({ frames := 1, cells := 0, slots := 0, locals := 22 } : Room) s m ar below meth c H locs 0 0 QM (F0 m 16 ls [])) (S0 : Gr) (x3 : Int32) (x4 : Int32) (x5 : Int32) (x6 : Int32) (x7 : Int32) (H : Heap) (locs : List Loc) (ls : Array Slot), f_X12_reckonsTo_n63 x1 x2 k16 S0 x3 x4 x5 x6 x7 = some Rv → va_P E.1 vwCl (cw_X12 E q0 S0) H → va_D A (cw_X12 E q0 S0) → va_S A s.heap H locs → lv_has ls 8 [(0, .ref (q0 0)), (2, .int x2), (3, .int x3), (4, .int x4), (5, .int x5), (6, .int x6), (7, .int x7)] → W p l e ({ frames := 1, cells := 0, slots := 0, locals := 22 } : Room) s m ar below meth c H locs 0 0 QM (F0 m 63 ls []) := by
    intro k16 hk16 S0 x3 x4 x5 x6 x7 H locs ls h hP hD hS hl
    refine lv_aload_n hx hb dX12_reckonsTo_63 rfl (lv_at hl 0 rfl) ?_
    refine va_get (D := E.1) (ci := 11) (v := .ref (q0 18)) (C := RX12) (T := TX12) (N := 57) hx hb hg in_X12 hown X.1 hP 0 rfl rfl 29 (by decide) (hg _ wf_X12_62) (fun _ h9 => h9) rfl dX12_reckonsTo_64 ?_
    refine lv_iload_n hx hb dX12_reckonsTo_67 rfl (lv_at hl 2 rfl) ?_
    refine lv_iload hx hb dX12_reckonsTo_68 (lv_at hl 5 rfl) ?_
    refine lv_if_ne (tgt := 78) hx hb dX12_reckonsTo_70 (by decide) (fun c36 => ?_) (fun c36 => ?_)
    · have h := it_f h c36
      refine lv_aload_n hx hb dX12_reckonsTo_78 rfl (lv_at hl 0 rfl) ?_
      refine va_get (D := E.1) (ci := 11) (v := .ref (q0 19)) (C := RX12) (T := TX12) (N := 57) hx hb hg in_X12 hown X.1 hP 0 rfl rfl 30 (by decide) (hg _ wf_X12_65) (fun _ h9 => h9) rfl dX12_reckonsTo_79 ?_
      refine lv_iload hx hb dX12_reckonsTo_82 (lv_at hl 6 rfl) ?_
      obtain ⟨hi, v37, ev37, h⟩ := rd_el h
      refine va_iald hx hb X.1 hP 19 0 rfl rfl hi dX12_reckonsTo_84 ?_
      refine lv_top' ev37 ?_
      obtain ⟨hi, h⟩ := ck_el h
      obtain ⟨S0_38, eS, h⟩ := lt_el h
      refine va_iast hx hb X.1 hP hD hS 18 0 rfl rfl hi dX12_reckonsTo_85 (fun H locs hP hD hS => ?_)
      have hP : va_P E.1 vwCl (cw_X12 E q0 S0_38) H := by rw [eS]; exact hP
      have hD : va_D A (cw_X12 E q0 S0_38) := by rw [eS]; exact hD
      clear eS
      refine lv_iload_n hx hb dX12_reckonsTo_86 rfl (lv_at hl 2 rfl) ?_
      refine lv_iconst (v := 1) hx hb dX12_reckonsTo_87 (by decide) ?_
      refine lv_iadd hx hb dX12_reckonsTo_88 ?_
      obtain ⟨v39, ev39, h⟩ := lt_el h
      refine lv_top' ev39 ?_
      refine lv_istore_n (lv' := [(3, .int v39), (0, .ref (q0 0)), (2, .int x2), (4, .int x4), (5, .int x5), (6, .int x6), (7, .int x7)]) hx hb dX12_reckonsTo_89 rfl hl (by decide) rfl (fun ls hl => ?_)
      refine lv_goto (tgt := 230) hx hb dX12_reckonsTo_90 (by decide) ?_
      refine lv_goto (tgt := 16) hx hb dX12_reckonsTo_230 (by decide) ?_
      exact hk16 S0_38 v39 x4 x5 _ _ _ h hP hD hS (lv_sub hl [1, 2, 0, 3, 4] rfl)
    · have h := it_t h c36
      refine lv_iload hx hb dX12_reckonsTo_73 (lv_at hl 6 rfl) ?_
      refine lv_goto (tgt := 85) hx hb dX12_reckonsTo_75 (by decide) ?_
      obtain ⟨hi, h⟩ := ck_el h
      obtain ⟨S0_40, eS, h⟩ := lt_el h
      refine va_iast hx hb X.1 hP hD hS 18 0 rfl rfl hi dX12_reckonsTo_85 (fun H locs hP hD hS => ?_)
      have hP : va_P E.1 vwCl (cw_X12 E q0 S0_40) H := by rw [eS]; exact hP
      have hD : va_D A (cw_X12 E q0 S0_40) := by rw [eS]; exact hD
      clear eS
      refine lv_iload_n hx hb dX12_reckonsTo_86 rfl (lv_at hl 2 rfl) ?_
      refine lv_iconst (v := 1) hx hb dX12_reckonsTo_87 (by decide) ?_
      refine lv_iadd hx hb dX12_reckonsTo_88 ?_
      obtain ⟨v41, ev41, h⟩ := lt_el h
      refine lv_top' ev41 ?_
      refine lv_istore_n (lv' := [(3, .int v41), (0, .ref (q0 0)), (2, .int x2), (4, .int x4), (5, .int x5), (6, .int x6), (7, .int x7)]) hx hb dX12_reckonsTo_89 rfl hl (by decide) rfl (fun ls hl => ?_)
      refine lv_goto (tgt := 230) hx hb dX12_reckonsTo_90 (by decide) ?_
      refine lv_goto (tgt := 16) hx hb dX12_reckonsTo_230 (by decide) ?_
      exact hk16 S0_40 v41 x4 x5 _ _ _ h hP hD hS (lv_sub hl [1, 2, 0, 3, 4] rfl)
  have N135 : ∀ (k16 : Gr → Int32 → Int32 → Int32 → Option (Int32 × Gr)) (hk16 : ∀ (S0 : Gr) (x3 : Int32) (x4 : Int32) (x5 : Int32) (H : Heap) (locs : List Loc) (ls : Array Slot), k16 S0 x3 x4 x5 = some Rv → va_P E.1 vwCl (cw_X12 E q0 S0) H → va_D A (cw_X12 E q0 S0) → va_S A s.heap H locs → lv_has ls 8 [(0, .ref (q0 0)), (2, .int x2), (3, .int x3), (4, .int x4), (5, .int x5)] → W p l e ({ frames := 1, cells := 0, slots := 0, locals := 22 } : Room) s m ar below meth c H locs 0 0 QM (F0 m 16 ls [])) (S0 : Gr) (x3 : Int32) (x4 : Int32) (x5 : Int32) (x6 : Int32) (x7 : Int32) (H : Heap) (locs : List Loc) (ls : Array Slot), f_X12_reckonsTo_n135 x1 x2 k16 S0 x3 x4 x5 x6 x7 = some Rv → va_P E.1 vwCl (cw_X12 E q0 S0) H → va_D A (cw_X12 E q0 S0) → va_S A s.heap H locs → lv_has ls 8 [(0, .ref (q0 0)), (2, .int x2), (3, .int x3), (4, .int x4), (5, .int x5), (6, .int x6), (7, .int x7)] → W p l e ({ frames := 1, cells := 0, slots := 0, locals := 22 } : Room) s m ar below meth c H locs 0 0 QM (F0 m 135 ls []) := by
    intro k16 hk16 S0 x3 x4 x5 x6 x7 H locs ls h hP hD hS hl
    refine lv_aload_n hx hb dX12_reckonsTo_135 rfl (lv_at hl 0 rfl) ?_
    refine va_get (D := E.1) (ci := 11) (v := .ref (q0 18)) (C := RX12) (T := TX12) (N := 57) hx hb hg in_X12 hown X.1 hP 0 rfl rfl 29 (by decide) (hg _ wf_X12_62) (fun _ h9 => h9) rfl dX12_reckonsTo_136 ?_
    refine lv_iload_n hx hb dX12_reckonsTo_139 rfl (lv_at hl 2 rfl) ?_
    refine lv_iconst (v := 1) hx hb dX12_reckonsTo_140 (by decide) ?_
    refine lv_isub hx hb dX12_reckonsTo_141 ?_
    obtain ⟨hi, v28, ev28, h⟩ := rd_el h
    refine va_iald hx hb X.1 hP 18 0 rfl rfl hi dX12_reckonsTo_142 ?_
    refine lv_top' ev28 ?_
    refine lv_iload hx hb dX12_reckonsTo_143 (lv_at hl 5 rfl) ?_
    refine lv_bipush (v := 12) hx hb dX12_reckonsTo_145 (by decide) ?_
    refine lv_icmp_ne (tgt := 154) hx hb dX12_reckonsTo_147 (by decide) (fun c29 => ?_) (fun c29 => ?_)
    · have h := it_f h c29
      refine lv_iconst (v := 0) hx hb dX12_reckonsTo_154 (by decide) ?_
      refine lv_icmp_ne (tgt := 168) hx hb dX12_reckonsTo_155 (by decide) (fun c30 => ?_) (fun c30 => ?_)
      · have h := it_f h c30
        refine lv_iload_n hx hb dX12_reckonsTo_168 rfl (lv_at hl 2 rfl) ?_
        refine lv_iconst (v := 1) hx hb dX12_reckonsTo_169 (by decide) ?_
        refine lv_isub hx hb dX12_reckonsTo_170 ?_
        obtain ⟨v31, ev31, h⟩ := lt_el h
        refine lv_top' ev31 ?_
        refine lv_istore_n (lv' := [(3, .int v31), (0, .ref (q0 0)), (2, .int x2), (4, .int x4), (5, .int x5), (6, .int x6), (7, .int x7)]) hx hb dX12_reckonsTo_171 rfl hl (by decide) rfl (fun ls hl => ?_)
        refine lv_goto (tgt := 230) hx hb dX12_reckonsTo_172 (by decide) ?_
        refine lv_goto (tgt := 16) hx hb dX12_reckonsTo_230 (by decide) ?_
        exact hk16 S0 v31 x4 x5 _ _ _ h hP hD hS (lv_sub hl [1, 2, 0, 3, 4] rfl)
      · have h := it_t h c30
        refine lv_iload hx hb dX12_reckonsTo_158 (lv_at hl 3 rfl) ?_
        refine lv_iload hx hb dX12_reckonsTo_160 (lv_at hl 6 rfl) ?_
        refine lv_iadd hx hb dX12_reckonsTo_162 ?_
        obtain ⟨v32, ev32, h⟩ := lt_el h
        refine lv_top' ev32 ?_
        refine lv_istore (lv' := [(5, .int v32), (0, .ref (q0 0)), (2, .int x2), (3, .int x3), (4, .int x4), (6, .int x6), (7, .int x7)]) hx hb dX12_reckonsTo_163 hl (by decide) rfl (fun ls hl => ?_)
        refine lv_goto (tgt := 230) hx hb dX12_reckonsTo_165 (by decide) ?_
        refine lv_goto (tgt := 16) hx hb dX12_reckonsTo_230 (by decide) ?_
        exact hk16 S0 x3 x4 v32 _ _ _ h hP hD hS (lv_sub hl [1, 2, 3, 4, 0] rfl)
    · have h := it_t h c29
      refine lv_iconst (v := 1) hx hb dX12_reckonsTo_150 (by decide) ?_
      refine lv_goto (tgt := 155) hx hb dX12_reckonsTo_151 (by decide) ?_
      refine lv_icmp_ne (tgt := 168) hx hb dX12_reckonsTo_155 (by decide) (fun c33 => ?_) (fun c33 => ?_)
      · have h := it_f h c33
        refine lv_iload_n hx hb dX12_reckonsTo_168 rfl (lv_at hl 2 rfl) ?_
        refine lv_iconst (v := 1) hx hb dX12_reckonsTo_169 (by decide) ?_
        refine lv_isub hx hb dX12_reckonsTo_170 ?_
        obtain ⟨v34, ev34, h⟩ := lt_el h
        refine lv_top' ev34 ?_
        refine lv_istore_n (lv' := [(3, .int v34), (0, .ref (q0 0)), (2, .int x2), (4, .int x4), (5, .int x5), (6, .int x6), (7, .int x7)]) hx hb dX12_reckonsTo_171 rfl hl (by decide) rfl (fun ls hl => ?_)
        refine lv_goto (tgt := 230) hx hb dX12_reckonsTo_172 (by decide) ?_
        refine lv_goto (tgt := 16) hx hb dX12_reckonsTo_230 (by decide) ?_
        exact hk16 S0 v34 x4 x5 _ _ _ h hP hD hS (lv_sub hl [1, 2, 0, 3, 4] rfl)
      · have h := it_t h c33
        refine lv_iload hx hb dX12_reckonsTo_158 (lv_at hl 3 rfl) ?_
        refine lv_iload hx hb dX12_reckonsTo_160 (lv_at hl 6 rfl) ?_
        refine lv_iadd hx hb dX12_reckonsTo_162 ?_
        obtain ⟨v35, ev35, h⟩ := lt_el h
        refine lv_top' ev35 ?_
        refine lv_istore (lv' := [(5, .int v35), (0, .ref (q0 0)), (2, .int x2), (3, .int x3), (4, .int x4), (6, .int x6), (7, .int x7)]) hx hb dX12_reckonsTo_163 hl (by decide) rfl (fun ls hl => ?_)
        refine lv_goto (tgt := 230) hx hb dX12_reckonsTo_165 (by decide) ?_
        refine lv_goto (tgt := 16) hx hb dX12_reckonsTo_230 (by decide) ?_
        exact hk16 S0 x3 x4 v35 _ _ _ h hP hD hS (lv_sub hl [1, 2, 3, 4, 0] rfl)
  have N203 : ∀ (k16 : Gr → Int32 → Int32 → Int32 → Option (Int32 × Gr)) (hk16 : ∀ (S0 : Gr) (x3 : Int32) (x4 : Int32) (x5 : Int32) (H : Heap) (locs : List Loc) (ls : Array Slot), k16 S0 x3 x4 x5 = some Rv → va_P E.1 vwCl (cw_X12 E q0 S0) H → va_D A (cw_X12 E q0 S0) → va_S A s.heap H locs → lv_has ls 8 [(0, .ref (q0 0)), (2, .int x2), (3, .int x3), (4, .int x4), (5, .int x5)] → W p l e ({ frames := 1, cells := 0, slots := 0, locals := 22 } : Room) s m ar below meth c H locs 0 0 QM (F0 m 16 ls [])) (S0 : Gr) (x3 : Int32) (x4 : Int32) (x5 : Int32) (x6 : Int32) (H : Heap) (locs : List Loc) (ls : Array Slot), f_X12_reckonsTo_n203 x1 x2 k16 S0 x3 x4 x5 x6 = some Rv → va_P E.1 vwCl (cw_X12 E q0 S0) H → va_D A (cw_X12 E q0 S0) → va_S A s.heap H locs → lv_has ls 8 [(0, .ref (q0 0)), (2, .int x2), (3, .int x3), (4, .int x4), (5, .int x5), (6, .int x6)] → W p l e ({ frames := 1, cells := 0, slots := 0, locals := 22 } : Room) s m ar below meth c H locs 0 0 QM (F0 m 203 ls []) := by
    intro k16 hk16 S0 x3 x4 x5 x6 H locs ls h hP hD hS hl
    refine lv_aload_n hx hb dX12_reckonsTo_203 rfl (lv_at hl 0 rfl) ?_
    refine va_get (D := E.1) (ci := 11) (v := .ref (q0 18)) (C := RX12) (T := TX12) (N := 57) hx hb hg in_X12 hown X.1 hP 0 rfl rfl 29 (by decide) (hg _ wf_X12_62) (fun _ h9 => h9) rfl dX12_reckonsTo_204 ?_
    refine lv_iload_n hx hb dX12_reckonsTo_207 rfl (lv_at hl 2 rfl) ?_
    refine lv_iconst (v := 1) hx hb dX12_reckonsTo_208 (by decide) ?_
    refine lv_isub hx hb dX12_reckonsTo_209 ?_
    refine lv_iload hx hb dX12_reckonsTo_210 (lv_at hl 5 rfl) ?_
    refine lv_aload_n hx hb dX12_reckonsTo_212 rfl (lv_at hl 0 rfl) ?_
    refine va_get (D := E.1) (ci := 11) (v := .ref (q0 18)) (C := RX12) (T := TX12) (N := 57) hx hb hg in_X12 hown X.1 hP 0 rfl rfl 29 (by decide) (hg _ wf_X12_62) (fun _ h9 => h9) rfl dX12_reckonsTo_213 ?_
    refine lv_iload_n hx hb dX12_reckonsTo_216 rfl (lv_at hl 2 rfl) ?_
    refine lv_iconst (v := 1) hx hb dX12_reckonsTo_217 (by decide) ?_
    refine lv_isub hx hb dX12_reckonsTo_218 ?_
    obtain ⟨hi, v24, ev24, h⟩ := rd_el h
    refine va_iald hx hb X.1 hP 18 0 rfl rfl hi dX12_reckonsTo_219 ?_
    refine lv_top' ev24 ?_
    refine lv_aload_n hx hb dX12_reckonsTo_220 rfl (lv_at hl 0 rfl) ?_
    refine va_get (D := E.1) (ci := 11) (v := .ref (q0 18)) (C := RX12) (T := TX12) (N := 57) hx hb hg in_X12 hown X.1 hP 0 rfl rfl 29 (by decide) (hg _ wf_X12_62) (fun _ h9 => h9) rfl dX12_reckonsTo_221 ?_
    refine lv_iload_n hx hb dX12_reckonsTo_224 rfl (lv_at hl 2 rfl) ?_
    obtain ⟨hi, v25, ev25, h⟩ := rd_el h
    refine va_iald hx hb X.1 hP 18 0 rfl rfl hi dX12_reckonsTo_225 ?_
    refine lv_top' ev25 ?_
    obtain ⟨u26, hc, h⟩ := bd_el h
    refine ct_iN X hP hD hS (va_runS (As := [.int x6, .int v24, .int v25]) (rest := [.int (x3 - 1), .ref (q0 18)]) ⟨hx, hb, hml, hown, hg⟩ (c_X12_reckon l E  H.size x6 v24 v25 u26 hc) (va_cwS 3 hg (gwS wm_X12_245 wst_X12_reckon wini_X12 wco_X12_reckon) rfl rfl rfl (by decide +kernel) ⟨Nat.le_of_ble_eq_true rfl, Nat.le_of_ble_eq_true rfl⟩) ⟨ct_blind, ct_preN X hS _⟩ rfl rfl hl.1 rfl (lv_room (Nat.le_of_ble_eq_true rfl)) dX12_reckonsTo_226 ⟨Nat.zero_le _, Nat.zero_le _⟩) (fun H locs hP hD hS => ?_)
    obtain ⟨hi, h⟩ := ck_el h
    obtain ⟨S0_27, eS, h⟩ := lt_el h
    refine va_iast hx hb X.1 hP hD hS 18 0 rfl rfl hi dX12_reckonsTo_229 (fun H locs hP hD hS => ?_)
    have hP : va_P E.1 vwCl (cw_X12 E q0 S0_27) H := by rw [eS]; exact hP
    have hD : va_D A (cw_X12 E q0 S0_27) := by rw [eS]; exact hD
    clear eS
    refine lv_goto (tgt := 16) hx hb dX12_reckonsTo_230 (by decide) ?_
    exact hk16 S0_27 x3 x4 x5 _ _ _ h hP hD hS (lv_sub hl [0, 1, 2, 3, 4] rfl)
  have N16 : ∀ (n : Nat) (S0 : Gr) (x3 : Int32) (x4 : Int32) (x5 : Int32) (H : Heap) (locs : List Loc) (ls : Array Slot), f_X12_reckonsTo_n16 x1 x2 n S0 x3 x4 x5 = some Rv → va_P E.1 vwCl (cw_X12 E q0 S0) H → va_D A (cw_X12 E q0 S0) → va_S A s.heap H locs → lv_has ls 8 [(0, .ref (q0 0)), (2, .int x2), (3, .int x3), (4, .int x4), (5, .int x5)] → W p l e ({ frames := 1, cells := 0, slots := 0, locals := 22 } : Room) s m ar below meth c H locs 0 0 QM (F0 m 16 ls []) := by
    intro n
    induction n with
    | zero => intro S0 x3 x4 x5 H locs ls h; exact nn_el h
    | succ n ih =>
      intro S0 x3 x4 x5 H locs ls h hP hD hS hl
      refine lv_iload hx hb dX12_reckonsTo_16 (lv_at hl 4 rfl) ?_
      refine lv_iload_n hx hb dX12_reckonsTo_18 rfl (lv_at hl 1 rfl) ?_
      refine lv_icmp_ge (tgt := 233) hx hb dX12_reckonsTo_19 (by decide) (fun c3 => ?_) (fun c3 => ?_)
      · have h := it_t h c3
        refine lv_aload_n hx hb dX12_reckonsTo_233 rfl (lv_at hl 0 rfl) ?_
        refine va_get (D := E.1) (ci := 11) (v := .ref (q0 18)) (C := RX12) (T := TX12) (N := 57) hx hb hg in_X12 hown X.1 hP 0 rfl rfl 29 (by decide) (hg _ wf_X12_62) (fun _ h9 => h9) rfl dX12_reckonsTo_234 ?_
        refine lv_iconst (v := 0) hx hb dX12_reckonsTo_237 (by decide) ?_
        obtain ⟨hi, v4, ev4, h⟩ := rd_el h
        refine va_iald hx hb X.1 hP 18 0 rfl rfl hi dX12_reckonsTo_238 ?_
        refine lv_top' ev4 ?_
        exact RT v4 S0 _ _ _ _ h rfl hP hD hS dX12_reckonsTo_239
      · have h := it_f h c3
        refine lv_aload_n hx hb dX12_reckonsTo_22 rfl (lv_at hl 0 rfl) ?_
        refine va_get (D := E.1) (ci := 11) (v := .ref (q0 13)) (C := RX12) (T := TX12) (N := 57) hx hb hg in_X12 hown X.1 hP 0 rfl rfl 24 (by decide) (hg _ wf_X12_47) (fun _ h9 => h9) rfl dX12_reckonsTo_23 ?_
        refine lv_iload hx hb dX12_reckonsTo_26 (lv_at hl 4 rfl) ?_
        obtain ⟨hi, v5, ev5, h⟩ := rd_el h
        refine va_iald hx hb X.1 hP 13 0 rfl rfl hi dX12_reckonsTo_28 ?_
        refine lv_top' ev5 ?_
        refine lv_ldc hx hb hown (hg _ wcn_X12_176) dX12_reckonsTo_29 ?_
        refine lv_idiv hx hb dX12_reckonsTo_31 (by decide) ?_
        obtain ⟨v6, ev6, h⟩ := lt_el h
        refine lv_top' ev6 ?_
        refine lv_istore (lv' := [(6, .int v6), (0, .ref (q0 0)), (2, .int x2), (3, .int x3), (4, .int x4), (5, .int x5)]) hx hb dX12_reckonsTo_32 hl (by decide) rfl (fun ls hl => ?_)
        refine lv_aload_n hx hb dX12_reckonsTo_34 rfl (lv_at hl 1 rfl) ?_
        refine va_get (D := E.1) (ci := 11) (v := .ref (q0 13)) (C := RX12) (T := TX12) (N := 57) hx hb hg in_X12 hown X.1 hP 0 rfl rfl 24 (by decide) (hg _ wf_X12_47) (fun _ h9 => h9) rfl dX12_reckonsTo_35 ?_
        refine lv_iload hx hb dX12_reckonsTo_38 (lv_at hl 5 rfl) ?_
        obtain ⟨hi, v7, ev7, h⟩ := rd_el h
        refine va_iald hx hb X.1 hP 13 0 rfl rfl hi dX12_reckonsTo_40 ?_
        refine lv_top' ev7 ?_
        refine lv_ldc hx hb hown (hg _ wcn_X12_176) dX12_reckonsTo_41 ?_
        refine lv_irem hx hb dX12_reckonsTo_43 (by decide) ?_
        obtain ⟨v8, ev8, h⟩ := lt_el h
        refine lv_top' ev8 ?_
        refine lv_istore (lv' := [(7, .int v8), (6, .int v6), (0, .ref (q0 0)), (2, .int x2), (3, .int x3), (4, .int x4), (5, .int x5)]) hx hb dX12_reckonsTo_44 hl (by decide) rfl (fun ls hl => ?_)
        refine lv_iload hx hb dX12_reckonsTo_46 (lv_at hl 6 rfl) ?_
        refine lv_iconst (v := 1) hx hb dX12_reckonsTo_48 (by decide) ?_
        refine lv_iadd hx hb dX12_reckonsTo_49 ?_
        obtain ⟨v9, ev9, h⟩ := lt_el h
        refine lv_top' ev9 ?_
        refine lv_istore (lv' := [(5, .int v9), (7, .int v8), (6, .int v6), (0, .ref (q0 0)), (2, .int x2), (3, .int x3), (4, .int x4)]) hx hb dX12_reckonsTo_50 hl (by decide) rfl (fun ls hl => ?_)
        refine lv_iload hx hb dX12_reckonsTo_52 (lv_at hl 2 rfl) ?_
        refine lv_if_eq (tgt := 63) hx hb dX12_reckonsTo_54 (by decide) (fun c10 => ?_) (fun c10 => ?_)
        · have h := it_t h c10
          exact N63 (f_X12_reckonsTo_n16 x1 x2 n) ih S0 x3 x4 v9 v6 v8 _ _ _ h hP hD hS (lv_sub hl [3, 4, 5, 6, 0, 2, 1] rfl)
        · have h := it_f h c10
          refine lv_iload hx hb dX12_reckonsTo_57 (lv_at hl 2 rfl) ?_
          refine lv_iconst (v := 1) hx hb dX12_reckonsTo_59 (by decide) ?_
          refine lv_icmp_ne (tgt := 93) hx hb dX12_reckonsTo_60 (by decide) (fun c11 => ?_) (fun c11 => ?_)
          · have h := it_f h c11
            refine lv_iload hx hb dX12_reckonsTo_93 (lv_at hl 2 rfl) ?_
            refine lv_bipush (v := 10) hx hb dX12_reckonsTo_95 (by decide) ?_
            refine lv_icmp_ne (tgt := 121) hx hb dX12_reckonsTo_97 (by decide) (fun c12 => ?_) (fun c12 => ?_)
            · have h := it_f h c12
              refine lv_iload hx hb dX12_reckonsTo_121 (lv_at hl 2 rfl) ?_
              refine lv_bipush (v := 11) hx hb dX12_reckonsTo_123 (by decide) ?_
              refine lv_icmp_eq (tgt := 135) hx hb dX12_reckonsTo_125 (by decide) (fun c13 => ?_) (fun c13 => ?_)
              · have h := it_t h c13
                exact N135 (f_X12_reckonsTo_n16 x1 x2 n) ih S0 x3 x4 v9 v6 v8 _ _ _ h hP hD hS (lv_sub hl [3, 4, 5, 6, 0, 2, 1] rfl)
              · have h := it_f h c13
                refine lv_iload hx hb dX12_reckonsTo_128 (lv_at hl 2 rfl) ?_
                refine lv_bipush (v := 12) hx hb dX12_reckonsTo_130 (by decide) ?_
                refine lv_icmp_ne (tgt := 175) hx hb dX12_reckonsTo_132 (by decide) (fun c14 => ?_) (fun c14 => ?_)
                · have h := it_f h c14
                  refine lv_iload_n hx hb dX12_reckonsTo_175 rfl (lv_at hl 5 rfl) ?_
                  refine lv_iconst (v := 1) hx hb dX12_reckonsTo_176 (by decide) ?_
                  refine lv_isub hx hb dX12_reckonsTo_177 ?_
                  obtain ⟨v15, ev15, h⟩ := lt_el h
                  refine lv_top' ev15 ?_
                  refine lv_istore_n (lv' := [(3, .int v15), (5, .int v9), (7, .int v8), (6, .int v6), (0, .ref (q0 0)), (2, .int x2), (4, .int x4)]) hx hb dX12_reckonsTo_178 rfl hl (by decide) rfl (fun ls hl => ?_)
                  refine lv_iload hx hb dX12_reckonsTo_179 (lv_at hl 3 rfl) ?_
                  refine lv_iconst (v := 5) hx hb dX12_reckonsTo_181 (by decide) ?_
                  refine lv_icmp_eq (tgt := 192) hx hb dX12_reckonsTo_182 (by decide) (fun c16 => ?_) (fun c16 => ?_)
                  · have h := it_t h c16
                    refine lv_aload_n hx hb dX12_reckonsTo_192 rfl (lv_at hl 4 rfl) ?_
                    refine va_get (D := E.1) (ci := 11) (v := .ref (q0 18)) (C := RX12) (T := TX12) (N := 57) hx hb hg in_X12 hown X.1 hP 0 rfl rfl 29 (by decide) (hg _ wf_X12_62) (fun _ h9 => h9) rfl dX12_reckonsTo_193 ?_
                    refine lv_iload_n hx hb dX12_reckonsTo_196 rfl (lv_at hl 0 rfl) ?_
                    obtain ⟨hi, v17, ev17, h⟩ := rd_el h
                    refine va_iald hx hb X.1 hP 18 0 rfl rfl hi dX12_reckonsTo_197 ?_
                    refine lv_top' ev17 ?_
                    refine lv_if_ne (tgt := 203) hx hb dX12_reckonsTo_198 (by decide) (fun c18 => ?_) (fun c18 => ?_)
                    · have h := it_f h c18
                      exact N203 (f_X12_reckonsTo_n16 x1 x2 n) ih S0 v15 x4 v9 v6 _ _ _ h hP hD hS (lv_sub hl [4, 5, 0, 6, 1, 3] rfl)
                    · have h := it_t h c18
                      refine lv_iconst (v := 0) hx hb dX12_reckonsTo_201 (by decide) ?_
                      exact RT 0 S0 _ _ _ _ h rfl hP hD hS dX12_reckonsTo_202
                  · have h := it_f h c16
                    refine lv_iload hx hb dX12_reckonsTo_185 (lv_at hl 3 rfl) ?_
                    refine lv_bipush (v := 6) hx hb dX12_reckonsTo_187 (by decide) ?_
                    refine lv_icmp_ne (tgt := 203) hx hb dX12_reckonsTo_189 (by decide) (fun c19 => ?_) (fun c19 => ?_)
                    · have h := it_f h c19
                      exact N203 (f_X12_reckonsTo_n16 x1 x2 n) ih S0 v15 x4 v9 v6 _ _ _ h hP hD hS (lv_sub hl [4, 5, 0, 6, 1, 3] rfl)
                    · have h := it_t h c19
                      refine lv_aload_n hx hb dX12_reckonsTo_192 rfl (lv_at hl 4 rfl) ?_
                      refine va_get (D := E.1) (ci := 11) (v := .ref (q0 18)) (C := RX12) (T := TX12) (N := 57) hx hb hg in_X12 hown X.1 hP 0 rfl rfl 29 (by decide) (hg _ wf_X12_62) (fun _ h9 => h9) rfl dX12_reckonsTo_193 ?_
                      refine lv_iload_n hx hb dX12_reckonsTo_196 rfl (lv_at hl 0 rfl) ?_
                      obtain ⟨hi, v20, ev20, h⟩ := rd_el h
                      refine va_iald hx hb X.1 hP 18 0 rfl rfl hi dX12_reckonsTo_197 ?_
                      refine lv_top' ev20 ?_
                      refine lv_if_ne (tgt := 203) hx hb dX12_reckonsTo_198 (by decide) (fun c21 => ?_) (fun c21 => ?_)
                      · have h := it_f h c21
                        exact N203 (f_X12_reckonsTo_n16 x1 x2 n) ih S0 v15 x4 v9 v6 _ _ _ h hP hD hS (lv_sub hl [4, 5, 0, 6, 1, 3] rfl)
                      · have h := it_t h c21
                        refine lv_iconst (v := 0) hx hb dX12_reckonsTo_201 (by decide) ?_
                        exact RT 0 S0 _ _ _ _ h rfl hP hD hS dX12_reckonsTo_202
                · have h := it_t h c14
                  exact N135 (f_X12_reckonsTo_n16 x1 x2 n) ih S0 x3 x4 v9 v6 v8 _ _ _ h hP hD hS (lv_sub hl [3, 4, 5, 6, 0, 2, 1] rfl)
            · have h := it_t h c12
              refine lv_aload_n hx hb dX12_reckonsTo_100 rfl (lv_at hl 3 rfl) ?_
              refine va_get (D := E.1) (ci := 11) (v := .ref (q0 18)) (C := RX12) (T := TX12) (N := 57) hx hb hg in_X12 hown X.1 hP 0 rfl rfl 29 (by decide) (hg _ wf_X12_62) (fun _ h9 => h9) rfl dX12_reckonsTo_101 ?_
              refine lv_iload_n hx hb dX12_reckonsTo_104 rfl (lv_at hl 5 rfl) ?_
              refine lv_iconst (v := 1) hx hb dX12_reckonsTo_105 (by decide) ?_
              refine lv_isub hx hb dX12_reckonsTo_106 ?_
              refine lv_iconst (v := 1) hx hb dX12_reckonsTo_107 (by decide) ?_
              refine lv_aload_n hx hb dX12_reckonsTo_108 rfl (lv_at hl 3 rfl) ?_
              refine va_get (D := E.1) (ci := 11) (v := .ref (q0 18)) (C := RX12) (T := TX12) (N := 57) hx hb hg in_X12 hown X.1 hP 0 rfl rfl 29 (by decide) (hg _ wf_X12_62) (fun _ h9 => h9) rfl dX12_reckonsTo_109 ?_
              refine lv_iload_n hx hb dX12_reckonsTo_112 rfl (lv_at hl 5 rfl) ?_
              refine lv_iconst (v := 1) hx hb dX12_reckonsTo_113 (by decide) ?_
              refine lv_isub hx hb dX12_reckonsTo_114 ?_
              obtain ⟨hi, v22, ev22, h⟩ := rd_el h
              refine va_iald hx hb X.1 hP 18 0 rfl rfl hi dX12_reckonsTo_115 ?_
              refine lv_top' ev22 ?_
              refine lv_isub hx hb dX12_reckonsTo_116 ?_
              obtain ⟨hi, h⟩ := ck_el h
              obtain ⟨S0_23, eS, h⟩ := lt_el h
              refine va_iast hx hb X.1 hP hD hS 18 0 rfl rfl hi dX12_reckonsTo_117 (fun H locs hP hD hS => ?_)
              have hP : va_P E.1 vwCl (cw_X12 E q0 S0_23) H := by rw [eS]; exact hP
              have hD : va_D A (cw_X12 E q0 S0_23) := by rw [eS]; exact hD
              clear eS
              refine lv_goto (tgt := 230) hx hb dX12_reckonsTo_118 (by decide) ?_
              refine lv_goto (tgt := 16) hx hb dX12_reckonsTo_230 (by decide) ?_
              exact ih S0_23 x3 x4 v9 _ _ _ h hP hD hS (lv_sub hl [3, 4, 5, 6, 0] rfl)
          · have h := it_t h c11
            exact N63 (f_X12_reckonsTo_n16 x1 x2 n) ih S0 x3 x4 v9 v6 v8 _ _ _ h hP hD hS (lv_sub hl [3, 4, 5, 6, 0, 2, 1] rfl)
  obtain ⟨H, eH⟩ : ∃ z, z = s.heap := ⟨_, rfl⟩
  rw [← eH]
  have hP : va_P E.1 vwCl (cw_X12 E q0 S0) H := by rw [eH]; exact hP
  have hS : va_S A s.heap H [] := by rw [eH]; exact hS
  clear eH
  obtain ⟨locs, el⟩ : ∃ z : List Loc, z = [] := ⟨_, rfl⟩
  rw [← el] at hS ⊢
  clear el
  refine lv_iconst (v := 0) hx hb dX12_reckonsTo_0 (by decide) ?_
  refine lv_istore_n (lv' := [(3, .int 0), (0, .ref (q0 0)), (1, .int x1), (2, .int x2)]) hx hb dX12_reckonsTo_1 rfl hl (by decide) rfl (fun ls hl => ?_)
  refine lv_sipush (v := 260) hx hb dX12_reckonsTo_2 (by decide) ?_
  refine lv_iload_n hx hb dX12_reckonsTo_5 rfl (lv_at hl 2 rfl) ?_
  refine lv_sipush (v := 260) hx hb dX12_reckonsTo_6 (by decide) ?_
  refine lv_idiv hx hb dX12_reckonsTo_9 (by decide) ?_
  obtain ⟨v1, ev1, h⟩ := lt_el h
  refine lv_top' ev1 ?_
  refine lv_imul hx hb dX12_reckonsTo_10 ?_
  obtain ⟨v2, ev2, h⟩ := lt_el h
  refine lv_top' ev2 ?_
  refine lv_istore (lv' := [(4, .int v2), (3, .int 0), (0, .ref (q0 0)), (1, .int x1), (2, .int x2)]) hx hb dX12_reckonsTo_11 hl (by decide) rfl (fun ls hl => ?_)
  refine lv_iload_n hx hb dX12_reckonsTo_13 rfl (lv_at hl 3 rfl) ?_
  refine lv_istore (lv' := [(5, .int x1), (4, .int v2), (3, .int 0), (0, .ref (q0 0)), (1, .int x1), (2, .int x2)]) hx hb dX12_reckonsTo_14 hl (by decide) rfl (fun ls hl => ?_)
  exact N16 fu S0 0 v2 x1 _ _ _ h hP hD hS (lv_sub hl [3, 5, 2, 1, 0] rfl)
theorem dX12_byLaw_0 : decode cX12_byLaw 0 = .ok (.iconst 0, 1) := by decide +kernel
theorem dX12_byLaw_1 : decode cX12_byLaw 1 = .ok (.istore_n 2, 1) := by decide +kernel
theorem dX12_byLaw_2 : decode cX12_byLaw 2 = .ok (.iload_n 2, 1) := by decide +kernel
theorem dX12_byLaw_3 : decode cX12_byLaw 3 = .ok (.aload_n 0, 1) := by decide +kernel
theorem dX12_byLaw_4 : decode cX12_byLaw 4 = .ok (.getfield 242, 3) := by decide +kernel
theorem dX12_byLaw_7 : decode cX12_byLaw 7 = .ok (.if_icmp .ge 80, 3) := by decide +kernel
theorem dX12_byLaw_10 : decode cX12_byLaw 10 = .ok (.aload_n 0, 1) := by decide +kernel
theorem dX12_byLaw_11 : decode cX12_byLaw 11 = .ok (.getfield 50, 3) := by decide +kernel
theorem dX12_byLaw_14 : decode cX12_byLaw 14 = .ok (.iload_n 2, 1) := by decide +kernel
theorem dX12_byLaw_15 : decode cX12_byLaw 15 = .ok (.iaload, 1) := by decide +kernel
theorem dX12_byLaw_16 : decode cX12_byLaw 16 = .ok (.iload_n 1, 1) := by decide +kernel
theorem dX12_byLaw_17 : decode cX12_byLaw 17 = .ok (.if_icmp .ne 64, 3) := by decide +kernel
theorem dX12_byLaw_20 : decode cX12_byLaw 20 = .ok (.aload_n 0, 1) := by decide +kernel
theorem dX12_byLaw_21 : decode cX12_byLaw 21 = .ok (.aload_n 0, 1) := by decide +kernel
theorem dX12_byLaw_22 : decode cX12_byLaw 22 = .ok (.getfield 56, 3) := by decide +kernel
theorem dX12_byLaw_25 : decode cX12_byLaw 25 = .ok (.iload_n 2, 1) := by decide +kernel
theorem dX12_byLaw_26 : decode cX12_byLaw 26 = .ok (.iaload, 1) := by decide +kernel
theorem dX12_byLaw_27 : decode cX12_byLaw 27 = .ok (.aload_n 0, 1) := by decide +kernel
theorem dX12_byLaw_28 : decode cX12_byLaw 28 = .ok (.getfield 59, 3) := by decide +kernel
theorem dX12_byLaw_31 : decode cX12_byLaw 31 = .ok (.iload_n 2, 1) := by decide +kernel
theorem dX12_byLaw_32 : decode cX12_byLaw 32 = .ok (.iaload, 1) := by decide +kernel
theorem dX12_byLaw_33 : decode cX12_byLaw 33 = .ok (.invokevirtual 249, 3) := by decide +kernel
theorem dX12_byLaw_36 : decode cX12_byLaw 36 = .ok (.iconst 1, 1) := by decide +kernel
theorem dX12_byLaw_37 : decode cX12_byLaw 37 = .ok (.if_icmp .eq 6, 3) := by decide +kernel
theorem dX12_byLaw_40 : decode cX12_byLaw 40 = .ok (.goto 41, 3) := by decide +kernel
theorem dX12_byLaw_43 : decode cX12_byLaw 43 = .ok (.aload_n 0, 1) := by decide +kernel
theorem dX12_byLaw_44 : decode cX12_byLaw 44 = .ok (.aload_n 0, 1) := by decide +kernel
theorem dX12_byLaw_45 : decode cX12_byLaw 45 = .ok (.getfield 53, 3) := by decide +kernel
theorem dX12_byLaw_48 : decode cX12_byLaw 48 = .ok (.iload_n 2, 1) := by decide +kernel
theorem dX12_byLaw_49 : decode cX12_byLaw 49 = .ok (.iaload, 1) := by decide +kernel
theorem dX12_byLaw_50 : decode cX12_byLaw 50 = .ok (.aload_n 0, 1) := by decide +kernel
theorem dX12_byLaw_51 : decode cX12_byLaw 51 = .ok (.getfield 56, 3) := by decide +kernel
theorem dX12_byLaw_54 : decode cX12_byLaw 54 = .ok (.iload_n 2, 1) := by decide +kernel
theorem dX12_byLaw_55 : decode cX12_byLaw 55 = .ok (.iaload, 1) := by decide +kernel
theorem dX12_byLaw_56 : decode cX12_byLaw 56 = .ok (.invokevirtual 249, 3) := by decide +kernel
theorem dX12_byLaw_59 : decode cX12_byLaw 59 = .ok (.istore_n 3, 1) := by decide +kernel
theorem dX12_byLaw_60 : decode cX12_byLaw 60 = .ok (.iload_n 3, 1) := by decide +kernel
theorem dX12_byLaw_61 : decode cX12_byLaw 61 = .ok (.ifCond .ge 7, 3) := by decide +kernel
theorem dX12_byLaw_64 : decode cX12_byLaw 64 = .ok (.iconst 0, 1) := by decide +kernel
theorem dX12_byLaw_65 : decode cX12_byLaw 65 = .ok (.goto 15, 3) := by decide +kernel
theorem dX12_byLaw_68 : decode cX12_byLaw 68 = .ok (.iload_n 3, 1) := by decide +kernel
theorem dX12_byLaw_69 : decode cX12_byLaw 69 = .ok (.bipush 99, 2) := by decide +kernel
theorem dX12_byLaw_71 : decode cX12_byLaw 71 = .ok (.if_icmp .le 8, 3) := by decide +kernel
theorem dX12_byLaw_74 : decode cX12_byLaw 74 = .ok (.bipush 99, 2) := by decide +kernel
theorem dX12_byLaw_76 : decode cX12_byLaw 76 = .ok (.goto 4, 3) := by decide +kernel
theorem dX12_byLaw_79 : decode cX12_byLaw 79 = .ok (.iload_n 3, 1) := by decide +kernel
theorem dX12_byLaw_80 : decode cX12_byLaw 80 = .ok (.ireturn, 1) := by decide +kernel
theorem dX12_byLaw_81 : decode cX12_byLaw 81 = .ok (.iinc 2 1, 3) := by decide +kernel
theorem dX12_byLaw_84 : decode cX12_byLaw 84 = .ok (.goto (-82), 3) := by decide +kernel
theorem dX12_byLaw_87 : decode cX12_byLaw 87 = .ok (.iconst 0, 1) := by decide +kernel
theorem dX12_byLaw_88 : decode cX12_byLaw 88 = .ok (.ireturn, 1) := by decide +kernel
def f_X12_byLaw_n2 (x1 : Int32) : Nat → Gr → Int32 → Option (Int32 × Gr)
  | 0, _, _ => none
  | n + 1, S0, x2 => if (S0.1 17) ≤ x2 then (some (0, S0)) else (rd' (S0.2 25) 16 x2 fun v2 => if v2 = x1 then (rd' (S0.2 27) 16 x2 fun v5 => rd' (S0.2 28) 16 x2 fun v6 => (f_X12_reckonsTo S0 v5 v6).bind fun u7 => if u7.1 = 1 then (rd' (u7.2.2 26) 16 x2 fun v9 => rd' (u7.2.2 27) 16 x2 fun v10 => (f_X12_reckonsTo u7.2 v9 v10).bind fun u11 => if 0 ≤ u11.1 then (if u11.1 ≤ 99 then (some (u11.1, u11.2)) else (some (99, u11.2))) else (some (0, u11.2))) else (lt' (x2 + 1) fun v14 => f_X12_byLaw_n2 x1 n u7.2 v14)) else (lt' (x2 + 1) fun v4 => f_X12_byLaw_n2 x1 n S0 v4))
def f_X12_byLaw (S0 : Gr) (x1 : Int32) : Option (Int32 × Gr) := f_X12_byLaw_n2 x1 fu S0 0
set_option maxHeartbeats 4000000 in
set_option maxRecDepth 100000 in
theorem c_X12_byLaw (l : Launch) (E : Ec) (q0 : Nat → Nat) (sz : Nat) (S0 : Gr) (x1 : Int32) (Rv : Int32 × Gr) (h : f_X12_byLaw S0 x1 = some Rv) : Met l yX12_byLaw (wsM (.code yX12_byLaw cX12_byLaw 4 (some .int))) ({ frames := 2, cells := 0, slots := 0, locals := 49 } : Room) (va_Pc [.ref (q0 0), .int x1] (ctP E (cw_X12 E q0 S0) sz)) (ctI E (cw_X12 E q0 S0) (cw_X12 E q0 Rv.2) sz Rv.1) 0 0 (va_A (cw_X12 E q0 S0) sz) := by
  refine ct_metI (by decide) (Nat.le_of_ble_eq_true rfl) ?_
  intro p e s m ar below meth c A QM hx hb hml hown hg X hP hD hS RET ls hl
  have hown : s.vm.findClass RX12 = some m.cls := hown
  have hl : lv_has ls 4 [(0, .ref (q0 0)), (1, .int x1)] := hl
  have RT : ∀ (v : Int32) (S0 : Gr) (H : Heap) (locs : List Loc) (ls : Array Slot) (pc : Nat), some (v, S0) = some Rv → narrow .int (.int v) = .int v → va_P E.1 vwCl (cw_X12 E q0 S0) H → va_D A (cw_X12 E q0 S0) → va_S A s.heap H locs → decode cX12_byLaw pc = .ok (.ireturn, 1) → W p l e ({ frames := 2, cells := 0, slots := 0, locals := 49 } : Room) s m ar below meth c H locs 0 0 QM (F0 m pc ls [.int v]) := by
    intro v S0 H locs ls pc e hn hP hD hS d
    obtain rfl := sm_e e
    exact RET H locs pc ls hn hP hD hS d
  clear RET
  have N2 : ∀ (n : Nat) (S0 : Gr) (x2 : Int32) (H : Heap) (locs : List Loc) (ls : Array Slot), f_X12_byLaw_n2 x1 n S0 x2 = some Rv → va_P E.1 vwCl (cw_X12 E q0 S0) H → va_D A (cw_X12 E q0 S0) → va_S A s.heap H locs → lv_has ls 4 [(0, .ref (q0 0)), (1, .int x1), (2, .int x2)] → W p l e ({ frames := 2, cells := 0, slots := 0, locals := 49 } : Room) s m ar below meth c H locs 0 0 QM (F0 m 2 ls []) := by
    intro n
    induction n with
    | zero => intro S0 x2 H locs ls h; exact nn_el h
    | succ n ih =>
      intro S0 x2 H locs ls h hP hD hS hl
      refine lv_iload_n hx hb dX12_byLaw_2 rfl (lv_at hl 2 rfl) ?_
      refine lv_aload_n hx hb dX12_byLaw_3 rfl (lv_at hl 0 rfl) ?_
      refine va_get (D := E.1) (ci := 11) (v := .int (S0.1 17)) (C := RX12) (T := TX12) (N := 57) hx hb hg in_X12 hown X.1 hP 0 rfl rfl 17 (by decide) (hg _ wf_X12_242) (fun _ h9 => h9) rfl dX12_byLaw_4 ?_
      refine lv_icmp_ge (tgt := 87) hx hb dX12_byLaw_7 (by decide) (fun c1 => ?_) (fun c1 => ?_)
      · have h := it_t h c1
        refine lv_iconst (v := 0) hx hb dX12_byLaw_87 (by decide) ?_
        exact RT 0 S0 _ _ _ _ h rfl hP hD hS dX12_byLaw_88
      · have h := it_f h c1
        refine lv_aload_n hx hb dX12_byLaw_10 rfl (lv_at hl 0 rfl) ?_
        refine va_get (D := E.1) (ci := 11) (v := .ref (q0 14)) (C := RX12) (T := TX12) (N := 57) hx hb hg in_X12 hown X.1 hP 0 rfl rfl 25 (by decide) (hg _ wf_X12_50) (fun _ h9 => h9) rfl dX12_byLaw_11 ?_
        refine lv_iload_n hx hb dX12_byLaw_14 rfl (lv_at hl 2 rfl) ?_
        obtain ⟨hi, v2, ev2, h⟩ := rd_el h
        refine va_iald hx hb X.1 hP 14 0 rfl rfl hi dX12_byLaw_15 ?_
        refine lv_top' ev2 ?_
        refine lv_iload_n hx hb dX12_byLaw_16 rfl (lv_at hl 1 rfl) ?_
        refine lv_icmp_ne (tgt := 81) hx hb dX12_byLaw_17 (by decide) (fun c3 => ?_) (fun c3 => ?_)
        · have h := it_f h c3
          obtain ⟨v4, ev4, h⟩ := lt_el h
          refine lv_iinc (v := v4) (lv' := [(2, .int v4), (0, .ref (q0 0)), (1, .int x1)]) hx hb dX12_byLaw_81 hl (k := 2) rfl (by rw [ev4]; rfl) (by decide) rfl (fun ls hl => ?_)
          refine lv_goto (tgt := 2) hx hb dX12_byLaw_84 (by decide) ?_
          exact ih S0 v4 _ _ _ h hP hD hS (lv_sub hl [1, 2, 0] rfl)
        · have h := it_t h c3
          refine lv_aload_n hx hb dX12_byLaw_20 rfl (lv_at hl 0 rfl) ?_
          refine lv_aload_n hx hb dX12_byLaw_21 rfl (lv_at hl 0 rfl) ?_
          refine va_get (D := E.1) (ci := 11) (v := .ref (q0 16)) (C := RX12) (T := TX12) (N := 57) hx hb hg in_X12 hown X.1 hP 0 rfl rfl 27 (by decide) (hg _ wf_X12_56) (fun _ h9 => h9) rfl dX12_byLaw_22 ?_
          refine lv_iload_n hx hb dX12_byLaw_25 rfl (lv_at hl 2 rfl) ?_
          obtain ⟨hi, v5, ev5, h⟩ := rd_el h
          refine va_iald hx hb X.1 hP 16 0 rfl rfl hi dX12_byLaw_26 ?_
          refine lv_top' ev5 ?_
          refine lv_aload_n hx hb dX12_byLaw_27 rfl (lv_at hl 0 rfl) ?_
          refine va_get (D := E.1) (ci := 11) (v := .ref (q0 17)) (C := RX12) (T := TX12) (N := 57) hx hb hg in_X12 hown X.1 hP 0 rfl rfl 28 (by decide) (hg _ wf_X12_59) (fun _ h9 => h9) rfl dX12_byLaw_28 ?_
          refine lv_iload_n hx hb dX12_byLaw_31 rfl (lv_at hl 2 rfl) ?_
          obtain ⟨hi, v6, ev6, h⟩ := rd_el h
          refine va_iald hx hb X.1 hP 17 0 rfl rfl hi dX12_byLaw_32 ?_
          refine lv_top' ev6 ?_
          obtain ⟨u7, hc, h⟩ := bd_el h
          refine ct_iA (w1 := cw_X12 E q0 u7.2) X hP hD hS (va_runV (C := RX12) (As := [.int v5, .int v6]) (rest := []) ⟨hx, hb, hml, hown, hg⟩ (c_X12_reckonsTo l E q0 H.size S0 v5 v6 u7 hc) (cwV 2 hg (gwV wm_X12_249 wi_X12_reckonsTo wsl_X12_reckonsTo wini_X12 wco_X12_reckonsTo) rfl rfl rfl (by decide +kernel) ⟨Nat.le_of_ble_eq_true rfl, Nat.le_of_ble_eq_true rfl⟩) ⟨ct_blind, ct_rv X.1 hP 0 rfl rfl, ct_preA X hP hD hS _⟩ rfl rfl hl.1 rfl (lv_room (Nat.le_of_ble_eq_true rfl)) dX12_byLaw_33 ⟨Nat.zero_le _, Nat.zero_le _⟩) (fun H locs hP hD hS => ?_)
          refine lv_iconst (v := 1) hx hb dX12_byLaw_36 (by decide) ?_
          refine lv_icmp_eq (tgt := 43) hx hb dX12_byLaw_37 (by decide) (fun c8 => ?_) (fun c8 => ?_)
          · have h := it_t h c8
            refine lv_aload_n hx hb dX12_byLaw_43 rfl (lv_at hl 0 rfl) ?_
            refine lv_aload_n hx hb dX12_byLaw_44 rfl (lv_at hl 0 rfl) ?_
            refine va_get (D := E.1) (ci := 11) (v := .ref (q0 15)) (C := RX12) (T := TX12) (N := 57) hx hb hg in_X12 hown X.1 hP 0 rfl rfl 26 (by decide) (hg _ wf_X12_53) (fun _ h9 => h9) rfl dX12_byLaw_45 ?_
            refine lv_iload_n hx hb dX12_byLaw_48 rfl (lv_at hl 2 rfl) ?_
            obtain ⟨hi, v9, ev9, h⟩ := rd_el h
            refine va_iald hx hb X.1 hP 15 0 rfl rfl hi dX12_byLaw_49 ?_
            refine lv_top' ev9 ?_
            refine lv_aload_n hx hb dX12_byLaw_50 rfl (lv_at hl 0 rfl) ?_
            refine va_get (D := E.1) (ci := 11) (v := .ref (q0 16)) (C := RX12) (T := TX12) (N := 57) hx hb hg in_X12 hown X.1 hP 0 rfl rfl 27 (by decide) (hg _ wf_X12_56) (fun _ h9 => h9) rfl dX12_byLaw_51 ?_
            refine lv_iload_n hx hb dX12_byLaw_54 rfl (lv_at hl 2 rfl) ?_
            obtain ⟨hi, v10, ev10, h⟩ := rd_el h
            refine va_iald hx hb X.1 hP 16 0 rfl rfl hi dX12_byLaw_55 ?_
            refine lv_top' ev10 ?_
            obtain ⟨u11, hc, h⟩ := bd_el h
            refine ct_iA (w1 := cw_X12 E q0 u11.2) X hP hD hS (va_runV (C := RX12) (As := [.int v9, .int v10]) (rest := []) ⟨hx, hb, hml, hown, hg⟩ (c_X12_reckonsTo l E q0 H.size u7.2 v9 v10 u11 hc) (cwV 2 hg (gwV wm_X12_249 wi_X12_reckonsTo wsl_X12_reckonsTo wini_X12 wco_X12_reckonsTo) rfl rfl rfl (by decide +kernel) ⟨Nat.le_of_ble_eq_true rfl, Nat.le_of_ble_eq_true rfl⟩) ⟨ct_blind, ct_rv X.1 hP 0 rfl rfl, ct_preA X hP hD hS _⟩ rfl rfl hl.1 rfl (lv_room (Nat.le_of_ble_eq_true rfl)) dX12_byLaw_56 ⟨Nat.zero_le _, Nat.zero_le _⟩) (fun H locs hP hD hS => ?_)
            refine lv_istore_n (lv' := [(3, .int u11.1), (0, .ref (q0 0)), (1, .int x1), (2, .int x2)]) hx hb dX12_byLaw_59 rfl hl (by decide) rfl (fun ls hl => ?_)
            refine lv_iload_n hx hb dX12_byLaw_60 rfl (lv_at hl 0 rfl) ?_
            refine lv_if_ge (tgt := 68) hx hb dX12_byLaw_61 (by decide) (fun c12 => ?_) (fun c12 => ?_)
            · have h := it_t h c12
              refine lv_iload_n hx hb dX12_byLaw_68 rfl (lv_at hl 0 rfl) ?_
              refine lv_bipush (v := 99) hx hb dX12_byLaw_69 (by decide) ?_
              refine lv_icmp_le (tgt := 79) hx hb dX12_byLaw_71 (by decide) (fun c13 => ?_) (fun c13 => ?_)
              · have h := it_t h c13
                refine lv_iload_n hx hb dX12_byLaw_79 rfl (lv_at hl 0 rfl) ?_
                exact RT u11.1 u11.2 _ _ _ _ h rfl hP hD hS dX12_byLaw_80
              · have h := it_f h c13
                refine lv_bipush (v := 99) hx hb dX12_byLaw_74 (by decide) ?_
                refine lv_goto (tgt := 80) hx hb dX12_byLaw_76 (by decide) ?_
                exact RT 99 u11.2 _ _ _ _ h rfl hP hD hS dX12_byLaw_80
            · have h := it_f h c12
              refine lv_iconst (v := 0) hx hb dX12_byLaw_64 (by decide) ?_
              refine lv_goto (tgt := 80) hx hb dX12_byLaw_65 (by decide) ?_
              exact RT 0 u11.2 _ _ _ _ h rfl hP hD hS dX12_byLaw_80
          · have h := it_f h c8
            refine lv_goto (tgt := 81) hx hb dX12_byLaw_40 (by decide) ?_
            obtain ⟨v14, ev14, h⟩ := lt_el h
            refine lv_iinc (v := v14) (lv' := [(2, .int v14), (0, .ref (q0 0)), (1, .int x1)]) hx hb dX12_byLaw_81 hl (k := 2) rfl (by rw [ev14]; rfl) (by decide) rfl (fun ls hl => ?_)
            refine lv_goto (tgt := 2) hx hb dX12_byLaw_84 (by decide) ?_
            exact ih u7.2 v14 _ _ _ h hP hD hS (lv_sub hl [1, 2, 0] rfl)
  obtain ⟨H, eH⟩ : ∃ z, z = s.heap := ⟨_, rfl⟩
  rw [← eH]
  have hP : va_P E.1 vwCl (cw_X12 E q0 S0) H := by rw [eH]; exact hP
  have hS : va_S A s.heap H [] := by rw [eH]; exact hS
  clear eH
  obtain ⟨locs, el⟩ : ∃ z : List Loc, z = [] := ⟨_, rfl⟩
  rw [← el] at hS ⊢
  clear el
  refine lv_iconst (v := 0) hx hb dX12_byLaw_0 (by decide) ?_
  refine lv_istore_n (lv' := [(2, .int 0), (0, .ref (q0 0)), (1, .int x1)]) hx hb dX12_byLaw_1 rfl hl (by decide) rfl (fun ls hl => ?_)
  exact N2 fu S0 0 _ _ _ h hP hD hS (lv_sub hl [1, 2, 0] rfl)
theorem dX12_min_0 : decode cX12_min 0 = .ok (.iload_n 0, 1) := by decide +kernel
theorem dX12_min_1 : decode cX12_min 1 = .ok (.iload_n 1, 1) := by decide +kernel
theorem dX12_min_2 : decode cX12_min 2 = .ok (.if_icmp .ge 7, 3) := by decide +kernel
theorem dX12_min_5 : decode cX12_min 5 = .ok (.iload_n 0, 1) := by decide +kernel
theorem dX12_min_6 : decode cX12_min 6 = .ok (.goto 4, 3) := by decide +kernel
theorem dX12_min_9 : decode cX12_min 9 = .ok (.iload_n 1, 1) := by decide +kernel
theorem dX12_min_10 : decode cX12_min 10 = .ok (.ireturn, 1) := by decide +kernel
def f_X12_min (x0 : Int32) (x1 : Int32) : Option (Int32) := if x1 ≤ x0 then (some x1) else (some x0)
set_option maxHeartbeats 4000000 in
set_option maxRecDepth 100000 in
theorem c_X12_min (l : Launch) (E : Ec) (sz : Nat) (x0 : Int32) (x1 : Int32) (Rv : Int32) (h : f_X12_min x0 x1 = some Rv) : Met l yX12_min (wsM (.code yX12_min cX12_min 2 (some .int))) ({ frames := 0, cells := 0, slots := 0, locals := 0 } : Room) (va_Pc [.int x0, .int x1] (ctP E ([]) sz)) (ctI E ([]) ([]) sz Rv) 0 0 (va_A ([]) sz) := by
  refine ct_metI (by decide) (Nat.le_of_ble_eq_true rfl) ?_
  intro p e s m ar below meth c A QM hx hb hml hown hg X hP hD hS RET ls hl
  have hown : s.vm.findClass RX12 = some m.cls := hown
  have hl : lv_has ls 2 [(0, .int x0), (1, .int x1)] := hl
  have RT : ∀ (v : Int32) (H : Heap) (locs : List Loc) (ls : Array Slot) (pc : Nat), some v = some Rv → narrow .int (.int v) = .int v → va_P E.1 vwCl ([]) H → va_D A ([]) → va_S A s.heap H locs → decode cX12_min pc = .ok (.ireturn, 1) → W p l e ({ frames := 0, cells := 0, slots := 0, locals := 0 } : Room) s m ar below meth c H locs 0 0 QM (F0 m pc ls [.int v]) := by
    intro v H locs ls pc e hn hP hD hS d
    obtain rfl := sm_e e
    exact RET H locs pc ls hn hP hD hS d
  clear RET
  obtain ⟨H, eH⟩ : ∃ z, z = s.heap := ⟨_, rfl⟩
  rw [← eH]
  have hP : va_P E.1 vwCl ([]) H := by rw [eH]; exact hP
  have hS : va_S A s.heap H [] := by rw [eH]; exact hS
  clear eH
  obtain ⟨locs, el⟩ : ∃ z : List Loc, z = [] := ⟨_, rfl⟩
  rw [← el] at hS ⊢
  clear el
  refine lv_iload_n hx hb dX12_min_0 rfl (lv_at hl 0 rfl) ?_
  refine lv_iload_n hx hb dX12_min_1 rfl (lv_at hl 1 rfl) ?_
  refine lv_icmp_ge (tgt := 9) hx hb dX12_min_2 (by decide) (fun c1 => ?_) (fun c1 => ?_)
  · have h := it_t h c1
    refine lv_iload_n hx hb dX12_min_9 rfl (lv_at hl 1 rfl) ?_
    exact RT x1 _ _ _ _ h rfl hP hD hS dX12_min_10
  · have h := it_f h c1
    refine lv_iload_n hx hb dX12_min_5 rfl (lv_at hl 0 rfl) ?_
    refine lv_goto (tgt := 10) hx hb dX12_min_6 (by decide) ?_
    exact RT x0 _ _ _ _ h rfl hP hD hS dX12_min_10
theorem dX12_slackOf_0 : decode cX12_slackOf 0 = .ok (.iconst 0, 1) := by decide +kernel
theorem dX12_slackOf_1 : decode cX12_slackOf 1 = .ok (.istore_n 2, 1) := by decide +kernel
theorem dX12_slackOf_2 : decode cX12_slackOf 2 = .ok (.iconst 0, 1) := by decide +kernel
theorem dX12_slackOf_3 : decode cX12_slackOf 3 = .ok (.istore_n 3, 1) := by decide +kernel
theorem dX12_slackOf_4 : decode cX12_slackOf 4 = .ok (.iload_n 3, 1) := by decide +kernel
theorem dX12_slackOf_5 : decode cX12_slackOf 5 = .ok (.bipush 8, 2) := by decide +kernel
theorem dX12_slackOf_7 : decode cX12_slackOf 7 = .ok (.if_icmp .ge 31, 3) := by decide +kernel
theorem dX12_slackOf_10 : decode cX12_slackOf 10 = .ok (.aload_n 0, 1) := by decide +kernel
theorem dX12_slackOf_11 : decode cX12_slackOf 11 = .ok (.getfield 7, 3) := by decide +kernel
theorem dX12_slackOf_14 : decode cX12_slackOf 14 = .ok (.iconst 0, 1) := by decide +kernel
theorem dX12_slackOf_15 : decode cX12_slackOf 15 = .ok (.bipush 8, 2) := by decide +kernel
theorem dX12_slackOf_17 : decode cX12_slackOf 17 = .ok (.iload_n 1, 1) := by decide +kernel
theorem dX12_slackOf_18 : decode cX12_slackOf 18 = .ok (.imul, 1) := by decide +kernel
theorem dX12_slackOf_19 : decode cX12_slackOf 19 = .ok (.iadd, 1) := by decide +kernel
theorem dX12_slackOf_20 : decode cX12_slackOf 20 = .ok (.iload_n 3, 1) := by decide +kernel
theorem dX12_slackOf_21 : decode cX12_slackOf 21 = .ok (.iadd, 1) := by decide +kernel
theorem dX12_slackOf_22 : decode cX12_slackOf 22 = .ok (.iaload, 1) := by decide +kernel
theorem dX12_slackOf_23 : decode cX12_slackOf 23 = .ok (.ifCond .ne 9, 3) := by decide +kernel
theorem dX12_slackOf_26 : decode cX12_slackOf 26 = .ok (.iload_n 2, 1) := by decide +kernel
theorem dX12_slackOf_27 : decode cX12_slackOf 27 = .ok (.iconst 1, 1) := by decide +kernel
theorem dX12_slackOf_28 : decode cX12_slackOf 28 = .ok (.iload_n 3, 1) := by decide +kernel
theorem dX12_slackOf_29 : decode cX12_slackOf 29 = .ok (.ishl, 1) := by decide +kernel
theorem dX12_slackOf_30 : decode cX12_slackOf 30 = .ok (.ior, 1) := by decide +kernel
theorem dX12_slackOf_31 : decode cX12_slackOf 31 = .ok (.istore_n 2, 1) := by decide +kernel
theorem dX12_slackOf_32 : decode cX12_slackOf 32 = .ok (.iinc 3 1, 3) := by decide +kernel
theorem dX12_slackOf_35 : decode cX12_slackOf 35 = .ok (.goto (-31), 3) := by decide +kernel
theorem dX12_slackOf_38 : decode cX12_slackOf 38 = .ok (.iload_n 2, 1) := by decide +kernel
theorem dX12_slackOf_39 : decode cX12_slackOf 39 = .ok (.ireturn, 1) := by decide +kernel
def f_X12_slackOf_n4 (S0 : Gr) (x1 : Int32) : Nat → Int32 → Int32 → Option (Int32)
  | 0, _, _ => none
  | n + 1, x2, x3 => if 8 ≤ x3 then (some x2) else (rd' (S0.2 0) 82 ((0 + (8 * x1)) + x3) fun v2 => if v2 = 0 then (lt' ((x2 ||| (1 <<< (x3 &&& 31)))) fun v5 => lt' (x3 + 1) fun v6 => f_X12_slackOf_n4 S0 x1 n v5 v6) else (lt' (x3 + 1) fun v4 => f_X12_slackOf_n4 S0 x1 n x2 v4))
def f_X12_slackOf (S0 : Gr) (x1 : Int32) : Option (Int32) := f_X12_slackOf_n4 S0 x1 fu 0 0
set_option maxHeartbeats 4000000 in
set_option maxRecDepth 100000 in
theorem c_X12_slackOf (l : Launch) (E : Ec) (q0 : Nat → Nat) (sz : Nat) (S0 : Gr) (x1 : Int32) (Rv : Int32) (h : f_X12_slackOf S0 x1 = some Rv) : Met l yX12_slackOf (wsM (.code yX12_slackOf cX12_slackOf 4 (some .int))) ({ frames := 0, cells := 0, slots := 0, locals := 0 } : Room) (va_Pc [.ref (q0 0), .int x1] (ctP E (cw_X12 E q0 S0) sz)) (ctI E (cw_X12 E q0 S0) (cw_X12 E q0 S0) sz Rv) 0 0 (va_A (cw_X12 E q0 S0) sz) := by
  refine ct_metI (by decide) (Nat.le_of_ble_eq_true rfl) ?_
  intro p e s m ar below meth c A QM hx hb hml hown hg X hP hD hS RET ls hl
  have hown : s.vm.findClass RX12 = some m.cls := hown
  have hl : lv_has ls 4 [(0, .ref (q0 0)), (1, .int x1)] := hl
  have RT : ∀ (v : Int32) (H : Heap) (locs : List Loc) (ls : Array Slot) (pc : Nat), some v = some Rv → narrow .int (.int v) = .int v → va_P E.1 vwCl (cw_X12 E q0 S0) H → va_D A (cw_X12 E q0 S0) → va_S A s.heap H locs → decode cX12_slackOf pc = .ok (.ireturn, 1) → W p l e ({ frames := 0, cells := 0, slots := 0, locals := 0 } : Room) s m ar below meth c H locs 0 0 QM (F0 m pc ls [.int v]) := by
    intro v H locs ls pc e hn hP hD hS d
    obtain rfl := sm_e e
    exact RET H locs pc ls hn hP hD hS d
  clear RET
  have N4 : ∀ (n : Nat) (x2 : Int32) (x3 : Int32) (H : Heap) (locs : List Loc) (ls : Array Slot), f_X12_slackOf_n4 S0 x1 n x2 x3 = some Rv → va_P E.1 vwCl (cw_X12 E q0 S0) H → va_D A (cw_X12 E q0 S0) → va_S A s.heap H locs → lv_has ls 4 [(0, .ref (q0 0)), (1, .int x1), (2, .int x2), (3, .int x3)] → W p l e ({ frames := 0, cells := 0, slots := 0, locals := 0 } : Room) s m ar below meth c H locs 0 0 QM (F0 m 4 ls []) := by
    intro n
    induction n with
    | zero => intro x2 x3 H locs ls h; exact nn_el h
    | succ n ih =>
      intro x2 x3 H locs ls h hP hD hS hl
      refine lv_iload_n hx hb dX12_slackOf_4 rfl (lv_at hl 3 rfl) ?_
      refine lv_bipush (v := 8) hx hb dX12_slackOf_5 (by decide) ?_
      refine lv_icmp_ge (tgt := 38) hx hb dX12_slackOf_7 (by decide) (fun c1 => ?_) (fun c1 => ?_)
      · have h := it_t h c1
        refine lv_iload_n hx hb dX12_slackOf_38 rfl (lv_at hl 2 rfl) ?_
        exact RT x2 _ _ _ _ h rfl hP hD hS dX12_slackOf_39
      · have h := it_f h c1
        refine lv_aload_n hx hb dX12_slackOf_10 rfl (lv_at hl 0 rfl) ?_
        refine va_get (D := E.1) (ci := 11) (v := .ref (q0 1)) (C := RX12) (T := TX12) (N := 57) hx hb hg in_X12 hown X.1 hP 0 rfl rfl 0 (by decide) (hg _ wf_X12_7) (fun _ h9 => h9) rfl dX12_slackOf_11 ?_
        refine lv_iconst (v := 0) hx hb dX12_slackOf_14 (by decide) ?_
        refine lv_bipush (v := 8) hx hb dX12_slackOf_15 (by decide) ?_
        refine lv_iload_n hx hb dX12_slackOf_17 rfl (lv_at hl 1 rfl) ?_
        refine lv_imul hx hb dX12_slackOf_18 ?_
        refine lv_iadd hx hb dX12_slackOf_19 ?_
        refine lv_iload_n hx hb dX12_slackOf_20 rfl (lv_at hl 3 rfl) ?_
        refine lv_iadd hx hb dX12_slackOf_21 ?_
        obtain ⟨hi, v2, ev2, h⟩ := rd_el h
        refine va_iald hx hb X.1 hP 1 0 rfl rfl hi dX12_slackOf_22 ?_
        refine lv_top' ev2 ?_
        refine lv_if_ne (tgt := 32) hx hb dX12_slackOf_23 (by decide) (fun c3 => ?_) (fun c3 => ?_)
        · have h := it_f h c3
          obtain ⟨v4, ev4, h⟩ := lt_el h
          refine lv_iinc (v := v4) (lv' := [(3, .int v4), (0, .ref (q0 0)), (1, .int x1), (2, .int x2)]) hx hb dX12_slackOf_32 hl (k := 3) rfl (by rw [ev4]; rfl) (by decide) rfl (fun ls hl => ?_)
          refine lv_goto (tgt := 4) hx hb dX12_slackOf_35 (by decide) ?_
          exact ih x2 v4 _ _ _ h hP hD hS (lv_sub hl [1, 2, 3, 0] rfl)
        · have h := it_t h c3
          refine lv_iload_n hx hb dX12_slackOf_26 rfl (lv_at hl 2 rfl) ?_
          refine lv_iconst (v := 1) hx hb dX12_slackOf_27 (by decide) ?_
          refine lv_iload_n hx hb dX12_slackOf_28 rfl (lv_at hl 3 rfl) ?_
          refine lv_ishl hx hb dX12_slackOf_29 ?_
          refine lv_ior hx hb dX12_slackOf_30 ?_
          obtain ⟨v5, ev5, h⟩ := lt_el h
          refine lv_top' ev5 ?_
          refine lv_istore_n (lv' := [(2, .int v5), (0, .ref (q0 0)), (1, .int x1), (3, .int x3)]) hx hb dX12_slackOf_31 rfl hl (by decide) rfl (fun ls hl => ?_)
          obtain ⟨v6, ev6, h⟩ := lt_el h
          refine lv_iinc (v := v6) (lv' := [(3, .int v6), (2, .int v5), (0, .ref (q0 0)), (1, .int x1)]) hx hb dX12_slackOf_32 hl (k := 3) rfl (by rw [ev6]; rfl) (by decide) rfl (fun ls hl => ?_)
          refine lv_goto (tgt := 4) hx hb dX12_slackOf_35 (by decide) ?_
          exact ih v5 v6 _ _ _ h hP hD hS (lv_sub hl [2, 3, 1, 0] rfl)
  obtain ⟨H, eH⟩ : ∃ z, z = s.heap := ⟨_, rfl⟩
  rw [← eH]
  have hP : va_P E.1 vwCl (cw_X12 E q0 S0) H := by rw [eH]; exact hP
  have hS : va_S A s.heap H [] := by rw [eH]; exact hS
  clear eH
  obtain ⟨locs, el⟩ : ∃ z : List Loc, z = [] := ⟨_, rfl⟩
  rw [← el] at hS ⊢
  clear el
  refine lv_iconst (v := 0) hx hb dX12_slackOf_0 (by decide) ?_
  refine lv_istore_n (lv' := [(2, .int 0), (0, .ref (q0 0)), (1, .int x1)]) hx hb dX12_slackOf_1 rfl hl (by decide) rfl (fun ls hl => ?_)
  refine lv_iconst (v := 0) hx hb dX12_slackOf_2 (by decide) ?_
  refine lv_istore_n (lv' := [(3, .int 0), (2, .int 0), (0, .ref (q0 0)), (1, .int x1)]) hx hb dX12_slackOf_3 rfl hl (by decide) rfl (fun ls hl => ?_)
  exact N4 fu 0 0 _ _ _ h hP hD hS (lv_sub hl [2, 3, 1, 0] rfl)
theorem dX12_sets_0 : decode cX12_sets 0 = .ok (.aload_n 0, 1) := by decide +kernel
theorem dX12_sets_1 : decode cX12_sets 1 = .ok (.getfield 65, 3) := by decide +kernel
theorem dX12_sets_4 : decode cX12_sets 4 = .ok (.iconst 0, 1) := by decide +kernel
theorem dX12_sets_5 : decode cX12_sets 5 = .ok (.iload_n 1, 1) := by decide +kernel
theorem dX12_sets_6 : decode cX12_sets 6 = .ok (.iastore, 1) := by decide +kernel
theorem dX12_sets_7 : decode cX12_sets 7 = .ok (.aload_n 0, 1) := by decide +kernel
theorem dX12_sets_8 : decode cX12_sets 8 = .ok (.getfield 65, 3) := by decide +kernel
theorem dX12_sets_11 : decode cX12_sets 11 = .ok (.iconst 1, 1) := by decide +kernel
theorem dX12_sets_12 : decode cX12_sets 12 = .ok (.iload_n 2, 1) := by decide +kernel
theorem dX12_sets_13 : decode cX12_sets 13 = .ok (.iastore, 1) := by decide +kernel
theorem dX12_sets_14 : decode cX12_sets 14 = .ok (.aload_n 0, 1) := by decide +kernel
theorem dX12_sets_15 : decode cX12_sets 15 = .ok (.getfield 65, 3) := by decide +kernel
theorem dX12_sets_18 : decode cX12_sets 18 = .ok (.iconst 2, 1) := by decide +kernel
theorem dX12_sets_19 : decode cX12_sets 19 = .ok (.iload_n 3, 1) := by decide +kernel
theorem dX12_sets_20 : decode cX12_sets 20 = .ok (.iastore, 1) := by decide +kernel
theorem dX12_sets_21 : decode cX12_sets 21 = .ok (.aload_n 0, 1) := by decide +kernel
theorem dX12_sets_22 : decode cX12_sets 22 = .ok (.getfield 65, 3) := by decide +kernel
theorem dX12_sets_25 : decode cX12_sets 25 = .ok (.iconst 3, 1) := by decide +kernel
theorem dX12_sets_26 : decode cX12_sets 26 = .ok (.aload_n 0, 1) := by decide +kernel
theorem dX12_sets_27 : decode cX12_sets 27 = .ok (.getfield 7, 3) := by decide +kernel
theorem dX12_sets_30 : decode cX12_sets 30 = .ok (.iconst 0, 1) := by decide +kernel
theorem dX12_sets_31 : decode cX12_sets 31 = .ok (.bipush 8, 2) := by decide +kernel
theorem dX12_sets_33 : decode cX12_sets 33 = .ok (.iload_n 1, 1) := by decide +kernel
theorem dX12_sets_34 : decode cX12_sets 34 = .ok (.imul, 1) := by decide +kernel
theorem dX12_sets_35 : decode cX12_sets 35 = .ok (.iadd, 1) := by decide +kernel
theorem dX12_sets_36 : decode cX12_sets 36 = .ok (.iload_n 3, 1) := by decide +kernel
theorem dX12_sets_37 : decode cX12_sets 37 = .ok (.iadd, 1) := by decide +kernel
theorem dX12_sets_38 : decode cX12_sets 38 = .ok (.iaload, 1) := by decide +kernel
theorem dX12_sets_39 : decode cX12_sets 39 = .ok (.iastore, 1) := by decide +kernel
theorem dX12_sets_40 : decode cX12_sets 40 = .ok (.aload_n 0, 1) := by decide +kernel
theorem dX12_sets_41 : decode cX12_sets 41 = .ok (.getfield 65, 3) := by decide +kernel
theorem dX12_sets_44 : decode cX12_sets 44 = .ok (.iconst 4, 1) := by decide +kernel
theorem dX12_sets_45 : decode cX12_sets 45 = .ok (.iconst 0, 1) := by decide +kernel
theorem dX12_sets_46 : decode cX12_sets 46 = .ok (.iastore, 1) := by decide +kernel
theorem dX12_sets_47 : decode cX12_sets 47 = .ok (.aload_n 0, 1) := by decide +kernel
theorem dX12_sets_48 : decode cX12_sets 48 = .ok (.getfield 65, 3) := by decide +kernel
theorem dX12_sets_51 : decode cX12_sets 51 = .ok (.iconst 5, 1) := by decide +kernel
theorem dX12_sets_52 : decode cX12_sets 52 = .ok (.iconst 0, 1) := by decide +kernel
theorem dX12_sets_53 : decode cX12_sets 53 = .ok (.iastore, 1) := by decide +kernel
theorem dX12_sets_54 : decode cX12_sets 54 = .ok (.aload_n 0, 1) := by decide +kernel
theorem dX12_sets_55 : decode cX12_sets 55 = .ok (.getfield 65, 3) := by decide +kernel
theorem dX12_sets_58 : decode cX12_sets 58 = .ok (.bipush 6, 2) := by decide +kernel
theorem dX12_sets_60 : decode cX12_sets 60 = .ok (.aload_n 0, 1) := by decide +kernel
theorem dX12_sets_61 : decode cX12_sets 61 = .ok (.iload_n 1, 1) := by decide +kernel
theorem dX12_sets_62 : decode cX12_sets 62 = .ok (.invokevirtual 288, 3) := by decide +kernel
theorem dX12_sets_65 : decode cX12_sets 65 = .ok (.invokestatic 291, 3) := by decide +kernel
theorem dX12_sets_68 : decode cX12_sets 68 = .ok (.iastore, 1) := by decide +kernel
theorem dX12_sets_69 : decode cX12_sets 69 = .ok (.aload_n 0, 1) := by decide +kernel
theorem dX12_sets_70 : decode cX12_sets 70 = .ok (.getfield 65, 3) := by decide +kernel
theorem dX12_sets_73 : decode cX12_sets 73 = .ok (.bipush 7, 2) := by decide +kernel
theorem dX12_sets_75 : decode cX12_sets 75 = .ok (.bipush 8, 2) := by decide +kernel
theorem dX12_sets_77 : decode cX12_sets 77 = .ok (.iastore, 1) := by decide +kernel
theorem dX12_sets_78 : decode cX12_sets 78 = .ok (.aload_n 0, 1) := by decide +kernel
theorem dX12_sets_79 : decode cX12_sets 79 = .ok (.getfield 65, 3) := by decide +kernel
theorem dX12_sets_82 : decode cX12_sets 82 = .ok (.bipush 8, 2) := by decide +kernel
theorem dX12_sets_84 : decode cX12_sets 84 = .ok (.aload_n 0, 1) := by decide +kernel
theorem dX12_sets_85 : decode cX12_sets 85 = .ok (.getfield 7, 3) := by decide +kernel
theorem dX12_sets_88 : decode cX12_sets 88 = .ok (.bipush 80, 2) := by decide +kernel
theorem dX12_sets_90 : decode cX12_sets 90 = .ok (.iaload, 1) := by decide +kernel
theorem dX12_sets_91 : decode cX12_sets 91 = .ok (.bipush 24, 2) := by decide +kernel
theorem dX12_sets_93 : decode cX12_sets 93 = .ok (.irem, 1) := by decide +kernel
theorem dX12_sets_94 : decode cX12_sets 94 = .ok (.iastore, 1) := by decide +kernel
theorem dX12_sets_95 : decode cX12_sets 95 = .ok (.aload_n 0, 1) := by decide +kernel
theorem dX12_sets_96 : decode cX12_sets 96 = .ok (.getfield 65, 3) := by decide +kernel
theorem dX12_sets_99 : decode cX12_sets 99 = .ok (.bipush 9, 2) := by decide +kernel
theorem dX12_sets_101 : decode cX12_sets 101 = .ok (.iconst 0, 1) := by decide +kernel
theorem dX12_sets_102 : decode cX12_sets 102 = .ok (.iastore, 1) := by decide +kernel
theorem dX12_sets_103 : decode cX12_sets 103 = .ok (.return_, 1) := by decide +kernel
def f_X12_sets (S0 : Gr) (x1 : Int32) (x2 : Int32) (x3 : Int32) : Option (Gr) := ck' 10 0 (lt' (sA S0 30 (Int32.toNatClampNeg 0) x1) fun S0_1 => ck' 10 1 (lt' (sA S0_1 30 (Int32.toNatClampNeg 1) x2) fun S0_2 => ck' 10 2 (lt' (sA S0_2 30 (Int32.toNatClampNeg 2) x3) fun S0_3 => rd' (S0_3.2 0) 82 ((0 + (8 * x1)) + x3) fun v4 => ck' 10 3 (lt' (sA S0_3 30 (Int32.toNatClampNeg 3) v4) fun S0_5 => ck' 10 4 (lt' (sA S0_5 30 (Int32.toNatClampNeg 4) 0) fun S0_6 => ck' 10 5 (lt' (sA S0_6 30 (Int32.toNatClampNeg 5) 0) fun S0_7 => (f_X12_slackOf S0_7 x1).bind fun u8 => (f_X12_bits u8).bind fun u9 => ck' 10 6 (lt' (sA S0_7 30 (Int32.toNatClampNeg 6) u9) fun S0_10 => ck' 10 7 (lt' (sA S0_10 30 (Int32.toNatClampNeg 7) 8) fun S0_11 => rd' (S0_11.2 0) 82 80 fun v12 => lt' (v12 - v12 / 24 * 24) fun v13 => ck' 10 8 (lt' (sA S0_11 30 (Int32.toNatClampNeg 8) v13) fun S0_14 => ck' 10 9 (lt' (sA S0_14 30 (Int32.toNatClampNeg 9) 0) fun S0_15 => some S0_15))))))))))
set_option maxHeartbeats 4000000 in
set_option maxRecDepth 100000 in
theorem c_X12_sets (l : Launch) (E : Ec) (q0 : Nat → Nat) (sz : Nat) (S0 : Gr) (x1 : Int32) (x2 : Int32) (x3 : Int32) (Rv : Gr) (h : f_X12_sets S0 x1 x2 x3 = some Rv) : Met l yX12_sets (wsM (.code yX12_sets cX12_sets 4 none)) ({ frames := 1, cells := 0, slots := 0, locals := 23 } : Room) (va_Pc [.ref (q0 0), .int x1, .int x2, .int x3] (ctP E (cw_X12 E q0 S0) sz)) (ctV E (cw_X12 E q0 S0) (cw_X12 E q0 Rv) sz) 0 0 (va_A (cw_X12 E q0 S0) sz) := by
  refine ct_metV (by decide) (Nat.le_of_ble_eq_true rfl) ?_
  intro p e s m ar below meth c A QM hx hb hml hown hg X hP hD hS RET ls hl
  have hown : s.vm.findClass RX12 = some m.cls := hown
  have hl : lv_has ls 4 [(0, .ref (q0 0)), (1, .int x1), (2, .int x2), (3, .int x3)] := hl
  have RT : ∀ (S0 : Gr) (H : Heap) (locs : List Loc) (ls : Array Slot) (pc : Nat), some S0 = some Rv → va_P E.1 vwCl (cw_X12 E q0 S0) H → va_D A (cw_X12 E q0 S0) → va_S A s.heap H locs → decode cX12_sets pc = .ok (.return_, 1) → W p l e ({ frames := 1, cells := 0, slots := 0, locals := 23 } : Room) s m ar below meth c H locs 0 0 QM (F0 m pc ls []) := by
    intro S0 H locs ls pc e hP hD hS d
    obtain rfl := sm_e e
    exact RET H locs pc ls hP hD hS d
  clear RET
  obtain ⟨H, eH⟩ : ∃ z, z = s.heap := ⟨_, rfl⟩
  rw [← eH]
  have hP : va_P E.1 vwCl (cw_X12 E q0 S0) H := by rw [eH]; exact hP
  have hS : va_S A s.heap H [] := by rw [eH]; exact hS
  clear eH
  obtain ⟨locs, el⟩ : ∃ z : List Loc, z = [] := ⟨_, rfl⟩
  rw [← el] at hS ⊢
  clear el
  refine lv_aload_n hx hb dX12_sets_0 rfl (lv_at hl 0 rfl) ?_
  refine va_get (D := E.1) (ci := 11) (v := .ref (q0 19)) (C := RX12) (T := TX12) (N := 57) hx hb hg in_X12 hown X.1 hP 0 rfl rfl 30 (by decide) (hg _ wf_X12_65) (fun _ h9 => h9) rfl dX12_sets_1 ?_
  refine lv_iconst (v := 0) hx hb dX12_sets_4 (by decide) ?_
  refine lv_iload_n hx hb dX12_sets_5 rfl (lv_at hl 1 rfl) ?_
  obtain ⟨hi, h⟩ := ck_el h
  obtain ⟨S0_1, eS, h⟩ := lt_el h
  refine va_iast hx hb X.1 hP hD hS 19 0 rfl rfl hi dX12_sets_6 (fun H locs hP hD hS => ?_)
  have hP : va_P E.1 vwCl (cw_X12 E q0 S0_1) H := by rw [eS]; exact hP
  have hD : va_D A (cw_X12 E q0 S0_1) := by rw [eS]; exact hD
  clear eS
  refine lv_aload_n hx hb dX12_sets_7 rfl (lv_at hl 0 rfl) ?_
  refine va_get (D := E.1) (ci := 11) (v := .ref (q0 19)) (C := RX12) (T := TX12) (N := 57) hx hb hg in_X12 hown X.1 hP 0 rfl rfl 30 (by decide) (hg _ wf_X12_65) (fun _ h9 => h9) rfl dX12_sets_8 ?_
  refine lv_iconst (v := 1) hx hb dX12_sets_11 (by decide) ?_
  refine lv_iload_n hx hb dX12_sets_12 rfl (lv_at hl 2 rfl) ?_
  obtain ⟨hi, h⟩ := ck_el h
  obtain ⟨S0_2, eS, h⟩ := lt_el h
  refine va_iast hx hb X.1 hP hD hS 19 0 rfl rfl hi dX12_sets_13 (fun H locs hP hD hS => ?_)
  have hP : va_P E.1 vwCl (cw_X12 E q0 S0_2) H := by rw [eS]; exact hP
  have hD : va_D A (cw_X12 E q0 S0_2) := by rw [eS]; exact hD
  clear eS
  refine lv_aload_n hx hb dX12_sets_14 rfl (lv_at hl 0 rfl) ?_
  refine va_get (D := E.1) (ci := 11) (v := .ref (q0 19)) (C := RX12) (T := TX12) (N := 57) hx hb hg in_X12 hown X.1 hP 0 rfl rfl 30 (by decide) (hg _ wf_X12_65) (fun _ h9 => h9) rfl dX12_sets_15 ?_
  refine lv_iconst (v := 2) hx hb dX12_sets_18 (by decide) ?_
  refine lv_iload_n hx hb dX12_sets_19 rfl (lv_at hl 3 rfl) ?_
  obtain ⟨hi, h⟩ := ck_el h
  obtain ⟨S0_3, eS, h⟩ := lt_el h
  refine va_iast hx hb X.1 hP hD hS 19 0 rfl rfl hi dX12_sets_20 (fun H locs hP hD hS => ?_)
  have hP : va_P E.1 vwCl (cw_X12 E q0 S0_3) H := by rw [eS]; exact hP
  have hD : va_D A (cw_X12 E q0 S0_3) := by rw [eS]; exact hD
  clear eS
  refine lv_aload_n hx hb dX12_sets_21 rfl (lv_at hl 0 rfl) ?_
  refine va_get (D := E.1) (ci := 11) (v := .ref (q0 19)) (C := RX12) (T := TX12) (N := 57) hx hb hg in_X12 hown X.1 hP 0 rfl rfl 30 (by decide) (hg _ wf_X12_65) (fun _ h9 => h9) rfl dX12_sets_22 ?_
  refine lv_iconst (v := 3) hx hb dX12_sets_25 (by decide) ?_
  refine lv_aload_n hx hb dX12_sets_26 rfl (lv_at hl 0 rfl) ?_
  refine va_get (D := E.1) (ci := 11) (v := .ref (q0 1)) (C := RX12) (T := TX12) (N := 57) hx hb hg in_X12 hown X.1 hP 0 rfl rfl 0 (by decide) (hg _ wf_X12_7) (fun _ h9 => h9) rfl dX12_sets_27 ?_
  refine lv_iconst (v := 0) hx hb dX12_sets_30 (by decide) ?_
  refine lv_bipush (v := 8) hx hb dX12_sets_31 (by decide) ?_
  refine lv_iload_n hx hb dX12_sets_33 rfl (lv_at hl 1 rfl) ?_
  refine lv_imul hx hb dX12_sets_34 ?_
  refine lv_iadd hx hb dX12_sets_35 ?_
  refine lv_iload_n hx hb dX12_sets_36 rfl (lv_at hl 3 rfl) ?_
  refine lv_iadd hx hb dX12_sets_37 ?_
  obtain ⟨hi, v4, ev4, h⟩ := rd_el h
  refine va_iald hx hb X.1 hP 1 0 rfl rfl hi dX12_sets_38 ?_
  refine lv_top' ev4 ?_
  obtain ⟨hi, h⟩ := ck_el h
  obtain ⟨S0_5, eS, h⟩ := lt_el h
  refine va_iast hx hb X.1 hP hD hS 19 0 rfl rfl hi dX12_sets_39 (fun H locs hP hD hS => ?_)
  have hP : va_P E.1 vwCl (cw_X12 E q0 S0_5) H := by rw [eS]; exact hP
  have hD : va_D A (cw_X12 E q0 S0_5) := by rw [eS]; exact hD
  clear eS
  refine lv_aload_n hx hb dX12_sets_40 rfl (lv_at hl 0 rfl) ?_
  refine va_get (D := E.1) (ci := 11) (v := .ref (q0 19)) (C := RX12) (T := TX12) (N := 57) hx hb hg in_X12 hown X.1 hP 0 rfl rfl 30 (by decide) (hg _ wf_X12_65) (fun _ h9 => h9) rfl dX12_sets_41 ?_
  refine lv_iconst (v := 4) hx hb dX12_sets_44 (by decide) ?_
  refine lv_iconst (v := 0) hx hb dX12_sets_45 (by decide) ?_
  obtain ⟨hi, h⟩ := ck_el h
  obtain ⟨S0_6, eS, h⟩ := lt_el h
  refine va_iast hx hb X.1 hP hD hS 19 0 rfl rfl hi dX12_sets_46 (fun H locs hP hD hS => ?_)
  have hP : va_P E.1 vwCl (cw_X12 E q0 S0_6) H := by rw [eS]; exact hP
  have hD : va_D A (cw_X12 E q0 S0_6) := by rw [eS]; exact hD
  clear eS
  refine lv_aload_n hx hb dX12_sets_47 rfl (lv_at hl 0 rfl) ?_
  refine va_get (D := E.1) (ci := 11) (v := .ref (q0 19)) (C := RX12) (T := TX12) (N := 57) hx hb hg in_X12 hown X.1 hP 0 rfl rfl 30 (by decide) (hg _ wf_X12_65) (fun _ h9 => h9) rfl dX12_sets_48 ?_
  refine lv_iconst (v := 5) hx hb dX12_sets_51 (by decide) ?_
  refine lv_iconst (v := 0) hx hb dX12_sets_52 (by decide) ?_
  obtain ⟨hi, h⟩ := ck_el h
  obtain ⟨S0_7, eS, h⟩ := lt_el h
  refine va_iast hx hb X.1 hP hD hS 19 0 rfl rfl hi dX12_sets_53 (fun H locs hP hD hS => ?_)
  have hP : va_P E.1 vwCl (cw_X12 E q0 S0_7) H := by rw [eS]; exact hP
  have hD : va_D A (cw_X12 E q0 S0_7) := by rw [eS]; exact hD
  clear eS
  refine lv_aload_n hx hb dX12_sets_54 rfl (lv_at hl 0 rfl) ?_
  refine va_get (D := E.1) (ci := 11) (v := .ref (q0 19)) (C := RX12) (T := TX12) (N := 57) hx hb hg in_X12 hown X.1 hP 0 rfl rfl 30 (by decide) (hg _ wf_X12_65) (fun _ h9 => h9) rfl dX12_sets_55 ?_
  refine lv_bipush (v := 6) hx hb dX12_sets_58 (by decide) ?_
  refine lv_aload_n hx hb dX12_sets_60 rfl (lv_at hl 0 rfl) ?_
  refine lv_iload_n hx hb dX12_sets_61 rfl (lv_at hl 1 rfl) ?_
  obtain ⟨u8, hc, h⟩ := bd_el h
  refine ct_iA (w1 := cw_X12 E q0 S0_7) X hP hD hS (va_runV (C := RX12) (As := [.int x1]) (rest := [.int 6, .ref (q0 19)]) ⟨hx, hb, hml, hown, hg⟩ (c_X12_slackOf l E q0 H.size S0_7 x1 u8 hc) (cwV 1 hg (gwV wm_X12_288 wi_X12_slackOf wsl_X12_slackOf wini_X12 wco_X12_slackOf) rfl rfl rfl (by decide +kernel) ⟨Nat.le_of_ble_eq_true rfl, Nat.le_of_ble_eq_true rfl⟩) ⟨ct_blind, ct_rv X.1 hP 0 rfl rfl, ct_preA X hP hD hS _⟩ rfl rfl hl.1 rfl (lv_room (Nat.le_of_ble_eq_true rfl)) dX12_sets_62 ⟨Nat.zero_le _, Nat.zero_le _⟩) (fun H locs hP hD hS => ?_)
  obtain ⟨u9, hc, h⟩ := bd_el h
  refine ct_iN X hP hD hS (va_runS (As := [.int u8]) (rest := [.int 6, .ref (q0 19)]) ⟨hx, hb, hml, hown, hg⟩ (c_X12_bits l E  H.size u8 u9 hc) (va_cwS 1 hg (gwS wm_X12_291 wst_X12_bits wini_X12 wco_X12_bits) rfl rfl rfl (by decide +kernel) ⟨Nat.le_of_ble_eq_true rfl, Nat.le_of_ble_eq_true rfl⟩) ⟨ct_blind, ct_preN X hS _⟩ rfl rfl hl.1 rfl (lv_room (Nat.le_of_ble_eq_true rfl)) dX12_sets_65 ⟨Nat.zero_le _, Nat.zero_le _⟩) (fun H locs hP hD hS => ?_)
  obtain ⟨hi, h⟩ := ck_el h
  obtain ⟨S0_10, eS, h⟩ := lt_el h
  refine va_iast hx hb X.1 hP hD hS 19 0 rfl rfl hi dX12_sets_68 (fun H locs hP hD hS => ?_)
  have hP : va_P E.1 vwCl (cw_X12 E q0 S0_10) H := by rw [eS]; exact hP
  have hD : va_D A (cw_X12 E q0 S0_10) := by rw [eS]; exact hD
  clear eS
  refine lv_aload_n hx hb dX12_sets_69 rfl (lv_at hl 0 rfl) ?_
  refine va_get (D := E.1) (ci := 11) (v := .ref (q0 19)) (C := RX12) (T := TX12) (N := 57) hx hb hg in_X12 hown X.1 hP 0 rfl rfl 30 (by decide) (hg _ wf_X12_65) (fun _ h9 => h9) rfl dX12_sets_70 ?_
  refine lv_bipush (v := 7) hx hb dX12_sets_73 (by decide) ?_
  refine lv_bipush (v := 8) hx hb dX12_sets_75 (by decide) ?_
  obtain ⟨hi, h⟩ := ck_el h
  obtain ⟨S0_11, eS, h⟩ := lt_el h
  refine va_iast hx hb X.1 hP hD hS 19 0 rfl rfl hi dX12_sets_77 (fun H locs hP hD hS => ?_)
  have hP : va_P E.1 vwCl (cw_X12 E q0 S0_11) H := by rw [eS]; exact hP
  have hD : va_D A (cw_X12 E q0 S0_11) := by rw [eS]; exact hD
  clear eS
  refine lv_aload_n hx hb dX12_sets_78 rfl (lv_at hl 0 rfl) ?_
  refine va_get (D := E.1) (ci := 11) (v := .ref (q0 19)) (C := RX12) (T := TX12) (N := 57) hx hb hg in_X12 hown X.1 hP 0 rfl rfl 30 (by decide) (hg _ wf_X12_65) (fun _ h9 => h9) rfl dX12_sets_79 ?_
  refine lv_bipush (v := 8) hx hb dX12_sets_82 (by decide) ?_
  refine lv_aload_n hx hb dX12_sets_84 rfl (lv_at hl 0 rfl) ?_
  refine va_get (D := E.1) (ci := 11) (v := .ref (q0 1)) (C := RX12) (T := TX12) (N := 57) hx hb hg in_X12 hown X.1 hP 0 rfl rfl 0 (by decide) (hg _ wf_X12_7) (fun _ h9 => h9) rfl dX12_sets_85 ?_
  refine lv_bipush (v := 80) hx hb dX12_sets_88 (by decide) ?_
  obtain ⟨hi, v12, ev12, h⟩ := rd_el h
  refine va_iald hx hb X.1 hP 1 0 rfl rfl hi dX12_sets_90 ?_
  refine lv_top' ev12 ?_
  refine lv_bipush (v := 24) hx hb dX12_sets_91 (by decide) ?_
  refine lv_irem hx hb dX12_sets_93 (by decide) ?_
  obtain ⟨v13, ev13, h⟩ := lt_el h
  refine lv_top' ev13 ?_
  obtain ⟨hi, h⟩ := ck_el h
  obtain ⟨S0_14, eS, h⟩ := lt_el h
  refine va_iast hx hb X.1 hP hD hS 19 0 rfl rfl hi dX12_sets_94 (fun H locs hP hD hS => ?_)
  have hP : va_P E.1 vwCl (cw_X12 E q0 S0_14) H := by rw [eS]; exact hP
  have hD : va_D A (cw_X12 E q0 S0_14) := by rw [eS]; exact hD
  clear eS
  refine lv_aload_n hx hb dX12_sets_95 rfl (lv_at hl 0 rfl) ?_
  refine va_get (D := E.1) (ci := 11) (v := .ref (q0 19)) (C := RX12) (T := TX12) (N := 57) hx hb hg in_X12 hown X.1 hP 0 rfl rfl 30 (by decide) (hg _ wf_X12_65) (fun _ h9 => h9) rfl dX12_sets_96 ?_
  refine lv_bipush (v := 9) hx hb dX12_sets_99 (by decide) ?_
  refine lv_iconst (v := 0) hx hb dX12_sets_101 (by decide) ?_
  obtain ⟨hi, h⟩ := ck_el h
  obtain ⟨S0_15, eS, h⟩ := lt_el h
  refine va_iast hx hb X.1 hP hD hS 19 0 rfl rfl hi dX12_sets_102 (fun H locs hP hD hS => ?_)
  have hP : va_P E.1 vwCl (cw_X12 E q0 S0_15) H := by rw [eS]; exact hP
  have hD : va_D A (cw_X12 E q0 S0_15) := by rw [eS]; exact hD
  clear eS
  exact RT S0_15 _ _ _ _ h hP hD hS dX12_sets_103
