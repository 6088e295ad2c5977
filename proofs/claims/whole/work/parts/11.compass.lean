theorem dX1_distance_0 : decode cX1_distance 0 = .ok (.iload_n 0, 1) := by decide +kernel
theorem dX1_distance_1 : decode cX1_distance 1 = .ok (.invokestatic 22, 3) := by decide +kernel
theorem dX1_distance_4 : decode cX1_distance 4 = .ok (.iload_n 1, 1) := by decide +kernel
theorem dX1_distance_5 : decode cX1_distance 5 = .ok (.invokestatic 22, 3) := by decide +kernel
theorem dX1_distance_8 : decode cX1_distance 8 = .ok (.invokestatic 28, 3) := by decide +kernel
theorem dX1_distance_11 : decode cX1_distance 11 = .ok (.ireturn, 1) := by decide +kernel
def f_X1_distance (x0 : Int32) (x1 : Int32) : Option (Int32) := lt' (ab' x0) fun v1 => lt' (ab' x1) fun v2 => lt' (mx' v1 v2) fun v3 => some v3
set_option maxHeartbeats 4000000 in
set_option maxRecDepth 100000 in
theorem c_X1_distance (l : Launch) (E : Ec) (sz : Nat) (x0 : Int32) (x1 : Int32) (Rv : Int32) (h : f_X1_distance x0 x1 = some Rv) : Met l yX1_distance (wsM (.code yX1_distance cX1_distance 2 (some .int))) ({ frames := 1, cells := 0, slots := 0, locals := 30 } : Room) (va_Pc [.int x0, .int x1] (ctP E ([]) sz)) (ctI E ([]) ([]) sz Rv) 0 0 (va_A ([]) sz) := by
  refine ct_metI (by decide) (Nat.le_of_ble_eq_true rfl) ?_
  intro p e s m ar below meth c A QM hx hb hml hown hg X hP hD hS RET ls hl
  have hown : s.vm.findClass RX1 = some m.cls := hown
  have hl : lv_has ls 2 [(0, .int x0), (1, .int x1)] := hl
  have RT : ∀ (v : Int32) (H : Heap) (locs : List Loc) (ls : Array Slot) (pc : Nat), some v = some Rv → narrow .int (.int v) = .int v → va_P E.1 vwCl ([]) H → va_D A ([]) → va_S A s.heap H locs → decode cX1_distance pc = .ok (.ireturn, 1) → W p l e ({ frames := 1, cells := 0, slots := 0, locals := 30 } : Room) s m ar below meth c H locs 0 0 QM (F0 m pc ls [.int v]) := by
    intro v H locs ls pc e hn hP hD hS d
    obtain rfl := sm_e e
    exact RET H locs pc ls hn hP hD hS d
  clear RET
  obtain ⟨H, eH⟩ : ∃ z, z = s.heap := ⟨_, rfl⟩
  rw [← eH]
  have hP : va_P E.1 vwCl ([]) H := by rw [eH]; exact hP
  have hS : va_S A s.heap H [] := by rw [eH]; exact hS
  clear eH
  obtain ⟨locs, el⟩ : ∃ z : List Loc, z = [] := ⟨_, rfl⟩
  rw [← el] at hS ⊢
  clear el
  refine lv_iload_n hx hb dX1_distance_0 rfl (lv_at hl 0 rfl) ?_
  obtain ⟨v1, ev1, h⟩ := lt_el h
  refine va_mabs hx hb (hml.trans hl.1.symm) hown (hg _ wm_X1_22) (hg _ wst_Mabs) (hg _ wini_J9) (hg _ wco_Mabs) (Nat.le_of_ble_eq_true rfl) (Nat.le_of_ble_eq_true rfl) (Nat.zero_le _) (Nat.zero_le _) dX1_distance_1 ?_
  refine lv_top' ev1 ?_
  refine lv_iload_n hx hb dX1_distance_4 rfl (lv_at hl 1 rfl) ?_
  obtain ⟨v2, ev2, h⟩ := lt_el h
  refine va_mabs hx hb (hml.trans hl.1.symm) hown (hg _ wm_X1_22) (hg _ wst_Mabs) (hg _ wini_J9) (hg _ wco_Mabs) (Nat.le_of_ble_eq_true rfl) (Nat.le_of_ble_eq_true rfl) (Nat.zero_le _) (Nat.zero_le _) dX1_distance_5 ?_
  refine lv_top' ev2 ?_
  obtain ⟨v3, ev3, h⟩ := lt_el h
  refine va_mmax hx hb (hml.trans hl.1.symm) hown (hg _ wm_X1_28) (hg _ wst_Mmax) (hg _ wini_J9) (hg _ wco_Mmax) (Nat.le_of_ble_eq_true rfl) (Nat.le_of_ble_eq_true rfl) (Nat.zero_le _) (Nat.zero_le _) dX1_distance_8 ?_
  refine lv_top' ev3 ?_
  exact RT v3 _ _ _ _ h rfl hP hD hS dX1_distance_11
theorem dJ6_bitCount_0f7a4_0 : decode cJ6_bitCount_0f7a4 0 = .ok (.iload_n 0, 1) := by decide +kernel
theorem dJ6_bitCount_0f7a4_1 : decode cJ6_bitCount_0f7a4 1 = .ok (.iload_n 0, 1) := by decide +kernel
theorem dJ6_bitCount_0f7a4_2 : decode cJ6_bitCount_0f7a4 2 = .ok (.iconst 1, 1) := by decide +kernel
theorem dJ6_bitCount_0f7a4_3 : decode cJ6_bitCount_0f7a4 3 = .ok (.iushr, 1) := by decide +kernel
theorem dJ6_bitCount_0f7a4_4 : decode cJ6_bitCount_0f7a4 4 = .ok (.ldc_w 265, 3) := by decide +kernel
theorem dJ6_bitCount_0f7a4_7 : decode cJ6_bitCount_0f7a4 7 = .ok (.iand, 1) := by decide +kernel
theorem dJ6_bitCount_0f7a4_8 : decode cJ6_bitCount_0f7a4 8 = .ok (.isub, 1) := by decide +kernel
theorem dJ6_bitCount_0f7a4_9 : decode cJ6_bitCount_0f7a4 9 = .ok (.istore_n 0, 1) := by decide +kernel
theorem dJ6_bitCount_0f7a4_10 : decode cJ6_bitCount_0f7a4 10 = .ok (.iload_n 0, 1) := by decide +kernel
theorem dJ6_bitCount_0f7a4_11 : decode cJ6_bitCount_0f7a4 11 = .ok (.ldc_w 266, 3) := by decide +kernel
theorem dJ6_bitCount_0f7a4_14 : decode cJ6_bitCount_0f7a4 14 = .ok (.iand, 1) := by decide +kernel
theorem dJ6_bitCount_0f7a4_15 : decode cJ6_bitCount_0f7a4 15 = .ok (.iload_n 0, 1) := by decide +kernel
theorem dJ6_bitCount_0f7a4_16 : decode cJ6_bitCount_0f7a4 16 = .ok (.iconst 2, 1) := by decide +kernel
theorem dJ6_bitCount_0f7a4_17 : decode cJ6_bitCount_0f7a4 17 = .ok (.iushr, 1) := by decide +kernel
theorem dJ6_bitCount_0f7a4_18 : decode cJ6_bitCount_0f7a4 18 = .ok (.ldc_w 266, 3) := by decide +kernel
theorem dJ6_bitCount_0f7a4_21 : decode cJ6_bitCount_0f7a4 21 = .ok (.iand, 1) := by decide +kernel
theorem dJ6_bitCount_0f7a4_22 : decode cJ6_bitCount_0f7a4 22 = .ok (.iadd, 1) := by decide +kernel
theorem dJ6_bitCount_0f7a4_23 : decode cJ6_bitCount_0f7a4 23 = .ok (.istore_n 0, 1) := by decide +kernel
theorem dJ6_bitCount_0f7a4_24 : decode cJ6_bitCount_0f7a4 24 = .ok (.iload_n 0, 1) := by decide +kernel
theorem dJ6_bitCount_0f7a4_25 : decode cJ6_bitCount_0f7a4 25 = .ok (.iload_n 0, 1) := by decide +kernel
theorem dJ6_bitCount_0f7a4_26 : decode cJ6_bitCount_0f7a4 26 = .ok (.iconst 4, 1) := by decide +kernel
theorem dJ6_bitCount_0f7a4_27 : decode cJ6_bitCount_0f7a4 27 = .ok (.iushr, 1) := by decide +kernel
theorem dJ6_bitCount_0f7a4_28 : decode cJ6_bitCount_0f7a4 28 = .ok (.iadd, 1) := by decide +kernel
theorem dJ6_bitCount_0f7a4_29 : decode cJ6_bitCount_0f7a4 29 = .ok (.ldc_w 267, 3) := by decide +kernel
theorem dJ6_bitCount_0f7a4_32 : decode cJ6_bitCount_0f7a4 32 = .ok (.iand, 1) := by decide +kernel
theorem dJ6_bitCount_0f7a4_33 : decode cJ6_bitCount_0f7a4 33 = .ok (.istore_n 0, 1) := by decide +kernel
theorem dJ6_bitCount_0f7a4_34 : decode cJ6_bitCount_0f7a4 34 = .ok (.iload_n 0, 1) := by decide +kernel
theorem dJ6_bitCount_0f7a4_35 : decode cJ6_bitCount_0f7a4 35 = .ok (.iload_n 0, 1) := by decide +kernel
theorem dJ6_bitCount_0f7a4_36 : decode cJ6_bitCount_0f7a4 36 = .ok (.bipush 8, 2) := by decide +kernel
theorem dJ6_bitCount_0f7a4_38 : decode cJ6_bitCount_0f7a4 38 = .ok (.iushr, 1) := by decide +kernel
theorem dJ6_bitCount_0f7a4_39 : decode cJ6_bitCount_0f7a4 39 = .ok (.iadd, 1) := by decide +kernel
theorem dJ6_bitCount_0f7a4_40 : decode cJ6_bitCount_0f7a4 40 = .ok (.istore_n 0, 1) := by decide +kernel
theorem dJ6_bitCount_0f7a4_41 : decode cJ6_bitCount_0f7a4 41 = .ok (.iload_n 0, 1) := by decide +kernel
theorem dJ6_bitCount_0f7a4_42 : decode cJ6_bitCount_0f7a4 42 = .ok (.iload_n 0, 1) := by decide +kernel
theorem dJ6_bitCount_0f7a4_43 : decode cJ6_bitCount_0f7a4 43 = .ok (.bipush 16, 2) := by decide +kernel
theorem dJ6_bitCount_0f7a4_45 : decode cJ6_bitCount_0f7a4 45 = .ok (.iushr, 1) := by decide +kernel
theorem dJ6_bitCount_0f7a4_46 : decode cJ6_bitCount_0f7a4 46 = .ok (.iadd, 1) := by decide +kernel
theorem dJ6_bitCount_0f7a4_47 : decode cJ6_bitCount_0f7a4 47 = .ok (.istore_n 0, 1) := by decide +kernel
theorem dJ6_bitCount_0f7a4_48 : decode cJ6_bitCount_0f7a4 48 = .ok (.iload_n 0, 1) := by decide +kernel
theorem dJ6_bitCount_0f7a4_49 : decode cJ6_bitCount_0f7a4 49 = .ok (.bipush 63, 2) := by decide +kernel
theorem dJ6_bitCount_0f7a4_51 : decode cJ6_bitCount_0f7a4 51 = .ok (.iand, 1) := by decide +kernel
theorem dJ6_bitCount_0f7a4_52 : decode cJ6_bitCount_0f7a4 52 = .ok (.ireturn, 1) := by decide +kernel
def f_J6_bitCount_0f7a4 (x0 : Int32) : Option (Int32) := lt' (us' x0 1) fun v1 => lt' ((x0 - (v1 &&& 1431655765))) fun v2 => lt' (us' v2 2) fun v3 => lt' (((v2 &&& 858993459) + (v3 &&& 858993459))) fun v4 => lt' (us' v4 4) fun v5 => lt' (((v4 + v5) &&& 252645135)) fun v6 => lt' (us' v6 8) fun v7 => lt' ((v6 + v7)) fun v8 => lt' (us' v8 16) fun v9 => lt' ((v8 + v9)) fun v10 => some (v10 &&& 63)
set_option maxHeartbeats 4000000 in
set_option maxRecDepth 100000 in
theorem c_J6_bitCount_0f7a4 (l : Launch) (E : Ec) (sz : Nat) (x0 : Int32) (Rv : Int32) (h : f_J6_bitCount_0f7a4 x0 = some Rv) : Met l yJ6_bitCount_0f7a4 (wsM (.code yJ6_bitCount_0f7a4 cJ6_bitCount_0f7a4 1 (some .int))) ({ frames := 0, cells := 0, slots := 0, locals := 0 } : Room) (va_Pc [.int x0] (ctP E ([]) sz)) (ctI E ([]) ([]) sz Rv) 0 0 (va_A ([]) sz) := by
  refine ct_metI (by decide) (Nat.le_of_ble_eq_true rfl) ?_
  intro p e s m ar below meth c A QM hx hb hml hown hg X hP hD hS RET ls hl
  have hown : s.vm.findClass RJ6 = some m.cls := hown
  have hl : lv_has ls 1 [(0, .int x0)] := hl
  have RT : ∀ (v : Int32) (H : Heap) (locs : List Loc) (ls : Array Slot) (pc : Nat), some v = some Rv → narrow .int (.int v) = .int v → va_P E.1 vwCl ([]) H → va_D A ([]) → va_S A s.heap H locs → decode cJ6_bitCount_0f7a4 pc = .ok (.ireturn, 1) → W p l e ({ frames := 0, cells := 0, slots := 0, locals := 0 } : Room) s m ar below meth c H locs 0 0 QM (F0 m pc ls [.int v]) := by
    intro v H locs ls pc e hn hP hD hS d
    obtain rfl := sm_e e
    exact RET H locs pc ls hn hP hD hS d
  clear RET
  obtain ⟨H, eH⟩ : ∃ z, z = s.heap := ⟨_, rfl⟩
  rw [← eH]
  have hP : va_P E.1 vwCl ([]) H := by rw [eH]; exact hP
  have hS : va_S A s.heap H [] := by rw [eH]; exact hS
  clear eH
  obtain ⟨locs, el⟩ : ∃ z : List Loc, z = [] := ⟨_, rfl⟩
  rw [← el] at hS ⊢
  clear el
  refine lv_iload_n hx hb dJ6_bitCount_0f7a4_0 rfl (lv_at hl 0 rfl) ?_
  refine lv_iload_n hx hb dJ6_bitCount_0f7a4_1 rfl (lv_at hl 0 rfl) ?_
  refine lv_iconst (v := 1) hx hb dJ6_bitCount_0f7a4_2 (by decide) ?_
  obtain ⟨v1, ev1, h⟩ := lt_el h
  refine lv_iushr (v := v1) hx hb dJ6_bitCount_0f7a4_3 ev1.symm ?_
  refine lv_ldcw hx hb hown (hg _ wcn_J6_265) dJ6_bitCount_0f7a4_4 ?_
  refine lv_iand hx hb dJ6_bitCount_0f7a4_7 ?_
  refine lv_isub hx hb dJ6_bitCount_0f7a4_8 ?_
  obtain ⟨v2, ev2, h⟩ := lt_el h
  refine lv_top' ev2 ?_
  refine lv_istore_n (lv' := [(0, .int v2)]) hx hb dJ6_bitCount_0f7a4_9 rfl hl (by decide) rfl (fun ls hl => ?_)
  refine lv_iload_n hx hb dJ6_bitCount_0f7a4_10 rfl (lv_at hl 0 rfl) ?_
  refine lv_ldcw hx hb hown (hg _ wcn_J6_266) dJ6_bitCount_0f7a4_11 ?_
  refine lv_iand hx hb dJ6_bitCount_0f7a4_14 ?_
  refine lv_iload_n hx hb dJ6_bitCount_0f7a4_15 rfl (lv_at hl 0 rfl) ?_
  refine lv_iconst (v := 2) hx hb dJ6_bitCount_0f7a4_16 (by decide) ?_
  obtain ⟨v3, ev3, h⟩ := lt_el h
  refine lv_iushr (v := v3) hx hb dJ6_bitCount_0f7a4_17 ev3.symm ?_
  refine lv_ldcw hx hb hown (hg _ wcn_J6_266) dJ6_bitCount_0f7a4_18 ?_
  refine lv_iand hx hb dJ6_bitCount_0f7a4_21 ?_
  refine lv_iadd hx hb dJ6_bitCount_0f7a4_22 ?_
  obtain ⟨v4, ev4, h⟩ := lt_el h
  refine lv_top' ev4 ?_
  refine lv_istore_n (lv' := [(0, .int v4)]) hx hb dJ6_bitCount_0f7a4_23 rfl hl (by decide) rfl (fun ls hl => ?_)
  refine lv_iload_n hx hb dJ6_bitCount_0f7a4_24 rfl (lv_at hl 0 rfl) ?_
  refine lv_iload_n hx hb dJ6_bitCount_0f7a4_25 rfl (lv_at hl 0 rfl) ?_
  refine lv_iconst (v := 4) hx hb dJ6_bitCount_0f7a4_26 (by decide) ?_
  obtain ⟨v5, ev5, h⟩ := lt_el h
  refine lv_iushr (v := v5) hx hb dJ6_bitCount_0f7a4_27 ev5.symm ?_
  refine lv_iadd hx hb dJ6_bitCount_0f7a4_28 ?_
  refine lv_ldcw hx hb hown (hg _ wcn_J6_267) dJ6_bitCount_0f7a4_29 ?_
  refine lv_iand hx hb dJ6_bitCount_0f7a4_32 ?_
  obtain ⟨v6, ev6, h⟩ := lt_el h
  refine lv_top' ev6 ?_
  refine lv_istore_n (lv' := [(0, .int v6)]) hx hb dJ6_bitCount_0f7a4_33 rfl hl (by decide) rfl (fun ls hl => ?_)
  refine lv_iload_n hx hb dJ6_bitCount_0f7a4_34 rfl (lv_at hl 0 rfl) ?_
  refine lv_iload_n hx hb dJ6_bitCount_0f7a4_35 rfl (lv_at hl 0 rfl) ?_
  refine lv_bipush (v := 8) hx hb dJ6_bitCount_0f7a4_36 (by decide) ?_
  obtain ⟨v7, ev7, h⟩ := lt_el h
  refine lv_iushr (v := v7) hx hb dJ6_bitCount_0f7a4_38 ev7.symm ?_
  refine lv_iadd hx hb dJ6_bitCount_0f7a4_39 ?_
  obtain ⟨v8, ev8, h⟩ := lt_el h
  refine lv_top' ev8 ?_
  refine lv_istore_n (lv' := [(0, .int v8)]) hx hb dJ6_bitCount_0f7a4_40 rfl hl (by decide) rfl (fun ls hl => ?_)
  refine lv_iload_n hx hb dJ6_bitCount_0f7a4_41 rfl (lv_at hl 0 rfl) ?_
  refine lv_iload_n hx hb dJ6_bitCount_0f7a4_42 rfl (lv_at hl 0 rfl) ?_
  refine lv_bipush (v := 16) hx hb dJ6_bitCount_0f7a4_43 (by decide) ?_
  obtain ⟨v9, ev9, h⟩ := lt_el h
  refine lv_iushr (v := v9) hx hb dJ6_bitCount_0f7a4_45 ev9.symm ?_
  refine lv_iadd hx hb dJ6_bitCount_0f7a4_46 ?_
  obtain ⟨v10, ev10, h⟩ := lt_el h
  refine lv_top' ev10 ?_
  refine lv_istore_n (lv' := [(0, .int v10)]) hx hb dJ6_bitCount_0f7a4_47 rfl hl (by decide) rfl (fun ls hl => ?_)
  refine lv_iload_n hx hb dJ6_bitCount_0f7a4_48 rfl (lv_at hl 0 rfl) ?_
  refine lv_bipush (v := 63) hx hb dJ6_bitCount_0f7a4_49 (by decide) ?_
  refine lv_iand hx hb dJ6_bitCount_0f7a4_51 ?_
  exact RT (v10 &&& 63) _ _ _ _ h rfl hP hD hS dJ6_bitCount_0f7a4_52
theorem dX1_onChart_0 : decode cX1_onChart 0 = .ok (.iload_n 0, 1) := by decide +kernel
theorem dX1_onChart_1 : decode cX1_onChart 1 = .ok (.iconst 0, 1) := by decide +kernel
theorem dX1_onChart_2 : decode cX1_onChart 2 = .ok (.bipush 23, 2) := by decide +kernel
theorem dX1_onChart_4 : decode cX1_onChart 4 = .ok (.invokestatic 9, 3) := by decide +kernel
theorem dX1_onChart_7 : decode cX1_onChart 7 = .ok (.ifCond .eq 17, 3) := by decide +kernel
theorem dX1_onChart_10 : decode cX1_onChart 10 = .ok (.iload_n 1, 1) := by decide +kernel
theorem dX1_onChart_11 : decode cX1_onChart 11 = .ok (.iconst 0, 1) := by decide +kernel
theorem dX1_onChart_12 : decode cX1_onChart 12 = .ok (.bipush 15, 2) := by decide +kernel
theorem dX1_onChart_14 : decode cX1_onChart 14 = .ok (.invokestatic 9, 3) := by decide +kernel
theorem dX1_onChart_17 : decode cX1_onChart 17 = .ok (.ifCond .eq 7, 3) := by decide +kernel
theorem dX1_onChart_20 : decode cX1_onChart 20 = .ok (.iconst 1, 1) := by decide +kernel
theorem dX1_onChart_21 : decode cX1_onChart 21 = .ok (.goto 4, 3) := by decide +kernel
theorem dX1_onChart_24 : decode cX1_onChart 24 = .ok (.iconst 0, 1) := by decide +kernel
theorem dX1_onChart_25 : decode cX1_onChart 25 = .ok (.ireturn, 1) := by decide +kernel
def f_X1_onChart (x0 : Int32) (x1 : Int32) : Option (Int32) := (f_X11_within x0 0 23).bind fun u1 => if u1 = 0 then (some 0) else ((f_X11_within x1 0 15).bind fun u3 => if u3 = 0 then (some 0) else (some 1))
set_option maxHeartbeats 4000000 in
set_option maxRecDepth 100000 in
theorem c_X1_onChart (l : Launch) (E : Ec) (sz : Nat) (x0 : Int32) (x1 : Int32) (Rv : Int32) (h : f_X1_onChart x0 x1 = some Rv) : Met l yX1_onChart (wsM (.code yX1_onChart cX1_onChart 2 (some .boolean))) ({ frames := 1, cells := 0, slots := 0, locals := 22 } : Room) (va_Pc [.int x0, .int x1] (ctP E ([]) sz)) (ctI E ([]) ([]) sz Rv) 0 0 (va_A ([]) sz) := by
  refine ct_metI (by decide) (Nat.le_of_ble_eq_true rfl) ?_
  intro p e s m ar below meth c A QM hx hb hml hown hg X hP hD hS RET ls hl
  have hown : s.vm.findClass RX1 = some m.cls := hown
  have hl : lv_has ls 2 [(0, .int x0), (1, .int x1)] := hl
  have RT : ∀ (v : Int32) (H : Heap) (locs : List Loc) (ls : Array Slot) (pc : Nat), some v = some Rv → narrow .boolean (.int v) = .int v → va_P E.1 vwCl ([]) H → va_D A ([]) → va_S A s.heap H locs → decode cX1_onChart pc = .ok (.ireturn, 1) → W p l e ({ frames := 1, cells := 0, slots := 0, locals := 22 } : Room) s m ar below meth c H locs 0 0 QM (F0 m pc ls [.int v]) := by
    intro v H locs ls pc e hn hP hD hS d
    obtain rfl := sm_e e
    exact RET H locs pc ls hn hP hD hS d
  clear RET
  obtain ⟨H, eH⟩ : ∃ z, z = s.heap := ⟨_, rfl⟩
  rw [← eH]
  have hP : va_P E.1 vwCl ([]) H := by rw [eH]; exact hP
  have hS : va_S A s.heap H [] := by rw [eH]; exact hS
  clear eH
  obtain ⟨locs, el⟩ : ∃ z : List Loc, z = [] := ⟨_, rfl⟩
  rw [← el] at hS ⊢
  clear el
  refine lv_iload_n hx hb dX1_onChart_0 rfl (lv_at hl 0 rfl) ?_
  refine lv_iconst (v := 0) hx hb dX1_onChart_1 (by decide) ?_
  refine lv_bipush (v := 23) hx hb dX1_onChart_2 (by decide) ?_
  obtain ⟨u1, hc, h⟩ := bd_el h
  refine ct_iN X hP hD hS (va_runSN (As := [.int x0, .int 0, .int 23]) (rest := []) ⟨hx, hb, hml, hown, hg⟩ (c_X11_within l E  H.size x0 0 23 u1 hc) ⟨va_cnB 3 hg (gw wco_X11_within) rfl rfl rfl (nm_X1_9 X.2.1) (hg _ wini_X11) (by decide +kernel) ⟨Nat.le_of_ble_eq_true rfl, Nat.le_of_ble_eq_true rfl⟩, hg _ wst_X11_within, trivial⟩ ⟨ct_blind, ct_preN X hS _⟩ rfl rfl hl.1 rfl (lv_room (Nat.le_of_ble_eq_true rfl)) dX1_onChart_4 ⟨Nat.zero_le _, Nat.zero_le _⟩) (fun H locs hP hD hS => ?_)
  refine lv_if_eq (tgt := 24) hx hb dX1_onChart_7 (by decide) (fun c2 => ?_) (fun c2 => ?_)
  · have h := it_t h c2
    refine lv_iconst (v := 0) hx hb dX1_onChart_24 (by decide) ?_
    exact RT 0 _ _ _ _ h (by decide +kernel) hP hD hS dX1_onChart_25
  · have h := it_f h c2
    refine lv_iload_n hx hb dX1_onChart_10 rfl (lv_at hl 1 rfl) ?_
    refine lv_iconst (v := 0) hx hb dX1_onChart_11 (by decide) ?_
    refine lv_bipush (v := 15) hx hb dX1_onChart_12 (by decide) ?_
    obtain ⟨u3, hc, h⟩ := bd_el h
    refine ct_iN X hP hD hS (va_runSN (As := [.int x1, .int 0, .int 15]) (rest := []) ⟨hx, hb, hml, hown, hg⟩ (c_X11_within l E  H.size x1 0 15 u3 hc) ⟨va_cnB 3 hg (gw wco_X11_within) rfl rfl rfl (nm_X1_9 X.2.1) (hg _ wini_X11) (by decide +kernel) ⟨Nat.le_of_ble_eq_true rfl, Nat.le_of_ble_eq_true rfl⟩, hg _ wst_X11_within, trivial⟩ ⟨ct_blind, ct_preN X hS _⟩ rfl rfl hl.1 rfl (lv_room (Nat.le_of_ble_eq_true rfl)) dX1_onChart_14 ⟨Nat.zero_le _, Nat.zero_le _⟩) (fun H locs hP hD hS => ?_)
    refine lv_if_eq (tgt := 24) hx hb dX1_onChart_17 (by decide) (fun c4 => ?_) (fun c4 => ?_)
    · have h := it_t h c4
      refine lv_iconst (v := 0) hx hb dX1_onChart_24 (by decide) ?_
      exact RT 0 _ _ _ _ h (by decide +kernel) hP hD hS dX1_onChart_25
    · have h := it_f h c4
      refine lv_iconst (v := 1) hx hb dX1_onChart_20 (by decide) ?_
      refine lv_goto (tgt := 25) hx hb dX1_onChart_21 (by decide) ?_
      exact RT 1 _ _ _ _ h (by decide +kernel) hP hD hS dX1_onChart_25
theorem dX1_place_0 : decode cX1_place 0 = .ok (.bipush 24, 2) := by decide +kernel
theorem dX1_place_2 : decode cX1_place 2 = .ok (.iload_n 1, 1) := by decide +kernel
theorem dX1_place_3 : decode cX1_place 3 = .ok (.imul, 1) := by decide +kernel
theorem dX1_place_4 : decode cX1_place 4 = .ok (.iload_n 0, 1) := by decide +kernel
theorem dX1_place_5 : decode cX1_place 5 = .ok (.iadd, 1) := by decide +kernel
theorem dX1_place_6 : decode cX1_place 6 = .ok (.ireturn, 1) := by decide +kernel
def f_X1_place (x0 : Int32) (x1 : Int32) : Option (Int32) := some ((24 * x1) + x0)
set_option maxHeartbeats 4000000 in
set_option maxRecDepth 100000 in
theorem c_X1_place (l : Launch) (E : Ec) (sz : Nat) (x0 : Int32) (x1 : Int32) (Rv : Int32) (h : f_X1_place x0 x1 = some Rv) : Met l yX1_place (wsM (.code yX1_place cX1_place 2 (some .int))) ({ frames := 0, cells := 0, slots := 0, locals := 0 } : Room) (va_Pc [.int x0, .int x1] (ctP E ([]) sz)) (ctI E ([]) ([]) sz Rv) 0 0 (va_A ([]) sz) := by
  refine ct_metI (by decide) (Nat.le_of_ble_eq_true rfl) ?_
  intro p e s m ar below meth c A QM hx hb hml hown hg X hP hD hS RET ls hl
  have hown : s.vm.findClass RX1 = some m.cls := hown
  have hl : lv_has ls 2 [(0, .int x0), (1, .int x1)] := hl
  have RT : ∀ (v : Int32) (H : Heap) (locs : List Loc) (ls : Array Slot) (pc : Nat), some v = some Rv → narrow .int (.int v) = .int v → va_P E.1 vwCl ([]) H → va_D A ([]) → va_S A s.heap H locs → decode cX1_place pc = .ok (.ireturn, 1) → W p l e ({ frames := 0, cells := 0, slots := 0, locals := 0 } : Room) s m ar below meth c H locs 0 0 QM (F0 m pc ls [.int v]) := by
    intro v H locs ls pc e hn hP hD hS d
    obtain rfl := sm_e e
    exact RET H locs pc ls hn hP hD hS d
  clear RET
  obtain ⟨H, eH⟩ : ∃ z, z = s.heap := ⟨_, rfl⟩
  rw [← eH]
  have hP : va_P E.1 vwCl ([]) H := by rw [eH]; exact hP
  have hS : va_S A s.heap H [] := by rw [eH]; exact hS
  clear eH
  obtain ⟨locs, el⟩ : ∃ z : List Loc, z = [] := ⟨_, rfl⟩
  rw [← el] at hS ⊢
  clear el
  refine lv_bipush (v := 24) hx hb dX1_place_0 (by decide) ?_
  refine lv_iload_n hx hb dX1_place_2 rfl (lv_at hl 1 rfl) ?_
  refine lv_imul hx hb dX1_place_3 ?_
  refine lv_iload_n hx hb dX1_place_4 rfl (lv_at hl 0 rfl) ?_
  refine lv_iadd hx hb dX1_place_5 ?_
  exact RT ((24 * x1) + x0) _ _ _ _ h rfl hP hD hS dX1_place_6
theorem dX1_stepAcross_0 : decode cX1_stepAcross 0 = .ok (.iload_n 0, 1) := by decide +kernel
theorem dX1_stepAcross_1 : decode cX1_stepAcross 1 = .ok (.iconst 0, 1) := by decide +kernel
theorem dX1_stepAcross_2 : decode cX1_stepAcross 2 = .ok (.bipush 7, 2) := by decide +kernel
theorem dX1_stepAcross_4 : decode cX1_stepAcross 4 = .ok (.invokestatic 9, 3) := by decide +kernel
theorem dX1_stepAcross_7 : decode cX1_stepAcross 7 = .ok (.ifCond .eq 11, 3) := by decide +kernel
theorem dX1_stepAcross_10 : decode cX1_stepAcross 10 = .ok (.getstatic 13, 3) := by decide +kernel
theorem dX1_stepAcross_13 : decode cX1_stepAcross 13 = .ok (.iload_n 0, 1) := by decide +kernel
theorem dX1_stepAcross_14 : decode cX1_stepAcross 14 = .ok (.iaload, 1) := by decide +kernel
theorem dX1_stepAcross_15 : decode cX1_stepAcross 15 = .ok (.goto 4, 3) := by decide +kernel
theorem dX1_stepAcross_18 : decode cX1_stepAcross 18 = .ok (.iconst 0, 1) := by decide +kernel
theorem dX1_stepAcross_19 : decode cX1_stepAcross 19 = .ok (.ireturn, 1) := by decide +kernel
def f_X1_stepAcross (x0 : Int32) : Option (Int32) := (f_X11_within x0 0 7).bind fun u1 => if u1 = 0 then (some 0) else (rd' stA 8 x0 fun v3 => some v3)
set_option maxHeartbeats 4000000 in
set_option maxRecDepth 100000 in
theorem c_X1_stepAcross (l : Launch) (E : Ec) (sz : Nat) (x0 : Int32) (Rv : Int32) (h : f_X1_stepAcross x0 = some Rv) : Met l yX1_stepAcross (wsM (.code yX1_stepAcross cX1_stepAcross 1 (some .int))) ({ frames := 1, cells := 0, slots := 0, locals := 22 } : Room) (va_Pc [.int x0] (ctP E ([]) sz)) (ctI E ([]) ([]) sz Rv) 0 0 (va_A ([]) sz) := by
  refine ct_metI (by decide) (Nat.le_of_ble_eq_true rfl) ?_
  intro p e s m ar below meth c A QM hx hb hml hown hg X hP hD hS RET ls hl
  have hown : s.vm.findClass RX1 = some m.cls := hown
  have hl : lv_has ls 1 [(0, .int x0)] := hl
  have RT : ∀ (v : Int32) (H : Heap) (locs : List Loc) (ls : Array Slot) (pc : Nat), some v = some Rv → narrow .int (.int v) = .int v → va_P E.1 vwCl ([]) H → va_D A ([]) → va_S A s.heap H locs → decode cX1_stepAcross pc = .ok (.ireturn, 1) → W p l e ({ frames := 1, cells := 0, slots := 0, locals := 22 } : Room) s m ar below meth c H locs 0 0 QM (F0 m pc ls [.int v]) := by
    intro v H locs ls pc e hn hP hD hS d
    obtain rfl := sm_e e
    exact RET H locs pc ls hn hP hD hS d
  clear RET
  obtain ⟨H, eH⟩ : ∃ z, z = s.heap := ⟨_, rfl⟩
  rw [← eH]
  have hP : va_P E.1 vwCl ([]) H := by rw [eH]; exact hP
  have hS : va_S A s.heap H [] := by rw [eH]; exact hS
  clear eH
  obtain ⟨locs, el⟩ : ∃ z : List Loc, z = [] := ⟨_, rfl⟩
  rw [← el] at hS ⊢
  clear el
  refine lv_iload_n hx hb dX1_stepAcross_0 rfl (lv_at hl 0 rfl) ?_
  refine lv_iconst (v := 0) hx hb dX1_stepAcross_1 (by decide) ?_
  refine lv_bipush (v := 7) hx hb dX1_stepAcross_2 (by decide) ?_
  obtain ⟨u1, hc, h⟩ := bd_el h
  refine ct_iN X hP hD hS (va_runSN (As := [.int x0, .int 0, .int 7]) (rest := []) ⟨hx, hb, hml, hown, hg⟩ (c_X11_within l E  H.size x0 0 7 u1 hc) ⟨va_cnB 3 hg (gw wco_X11_within) rfl rfl rfl (nm_X1_9 X.2.1) (hg _ wini_X11) (by decide +kernel) ⟨Nat.le_of_ble_eq_true rfl, Nat.le_of_ble_eq_true rfl⟩, hg _ wst_X11_within, trivial⟩ ⟨ct_blind, ct_preN X hS _⟩ rfl rfl hl.1 rfl (lv_room (Nat.le_of_ble_eq_true rfl)) dX1_stepAcross_4 ⟨Nat.zero_le _, Nat.zero_le _⟩) (fun H locs hP hD hS => ?_)
  refine lv_if_eq (tgt := 18) hx hb dX1_stepAcross_7 (by decide) (fun c2 => ?_) (fun c2 => ?_)
  · have h := it_t h c2
    refine lv_iconst (v := 0) hx hb dX1_stepAcross_18 (by decide) ?_
    exact RT 0 _ _ _ _ h rfl hP hD hS dX1_stepAcross_19
  · have h := it_f h c2
    refine va_gets hx hb X.2.2.1.1.1 hS hown (hg _ wf_X1_13) (fun _ h9 => h9) dX1_stepAcross_10 ?_
    refine lv_iload_n hx hb dX1_stepAcross_13 rfl (lv_at hl 0 rfl) ?_
    obtain ⟨hi, v3, ev3, h⟩ := rd_el h
    refine va_ti hx hb X.2.2.1.1.2 hS hi rfl dX1_stepAcross_14 ?_
    refine lv_top' ev3 ?_
    refine lv_goto (tgt := 19) hx hb dX1_stepAcross_15 (by decide) ?_
    exact RT v3 _ _ _ _ h rfl hP hD hS dX1_stepAcross_19
theorem dX1_stepAlong_0 : decode cX1_stepAlong 0 = .ok (.iload_n 0, 1) := by decide +kernel
theorem dX1_stepAlong_1 : decode cX1_stepAlong 1 = .ok (.iconst 0, 1) := by decide +kernel
theorem dX1_stepAlong_2 : decode cX1_stepAlong 2 = .ok (.bipush 7, 2) := by decide +kernel
theorem dX1_stepAlong_4 : decode cX1_stepAlong 4 = .ok (.invokestatic 9, 3) := by decide +kernel
theorem dX1_stepAlong_7 : decode cX1_stepAlong 7 = .ok (.ifCond .eq 11, 3) := by decide +kernel
theorem dX1_stepAlong_10 : decode cX1_stepAlong 10 = .ok (.getstatic 19, 3) := by decide +kernel
theorem dX1_stepAlong_13 : decode cX1_stepAlong 13 = .ok (.iload_n 0, 1) := by decide +kernel
theorem dX1_stepAlong_14 : decode cX1_stepAlong 14 = .ok (.iaload, 1) := by decide +kernel
theorem dX1_stepAlong_15 : decode cX1_stepAlong 15 = .ok (.goto 4, 3) := by decide +kernel
theorem dX1_stepAlong_18 : decode cX1_stepAlong 18 = .ok (.iconst 0, 1) := by decide +kernel
theorem dX1_stepAlong_19 : decode cX1_stepAlong 19 = .ok (.ireturn, 1) := by decide +kernel
def f_X1_stepAlong (x0 : Int32) : Option (Int32) := (f_X11_within x0 0 7).bind fun u1 => if u1 = 0 then (some 0) else (rd' stB 8 x0 fun v3 => some v3)
set_option maxHeartbeats 4000000 in
set_option maxRecDepth 100000 in
theorem c_X1_stepAlong (l : Launch) (E : Ec) (sz : Nat) (x0 : Int32) (Rv : Int32) (h : f_X1_stepAlong x0 = some Rv) : Met l yX1_stepAlong (wsM (.code yX1_stepAlong cX1_stepAlong 1 (some .int))) ({ frames := 1, cells := 0, slots := 0, locals := 22 } : Room) (va_Pc [.int x0] (ctP E ([]) sz)) (ctI E ([]) ([]) sz Rv) 0 0 (va_A ([]) sz) := by
  refine ct_metI (by decide) (Nat.le_of_ble_eq_true rfl) ?_
  intro p e s m ar below meth c A QM hx hb hml hown hg X hP hD hS RET ls hl
  have hown : s.vm.findClass RX1 = some m.cls := hown
  have hl : lv_has ls 1 [(0, .int x0)] := hl
  have RT : ∀ (v : Int32) (H : Heap) (locs : List Loc) (ls : Array Slot) (pc : Nat), some v = some Rv → narrow .int (.int v) = .int v → va_P E.1 vwCl ([]) H → va_D A ([]) → va_S A s.heap H locs → decode cX1_stepAlong pc = .ok (.ireturn, 1) → W p l e ({ frames := 1, cells := 0, slots := 0, locals := 22 } : Room) s m ar below meth c H locs 0 0 QM (F0 m pc ls [.int v]) := by
    intro v H locs ls pc e hn hP hD hS d
    obtain rfl := sm_e e
    exact RET H locs pc ls hn hP hD hS d
  clear RET
  obtain ⟨H, eH⟩ : ∃ z, z = s.heap := ⟨_, rfl⟩
  rw [← eH]
  have hP : va_P E.1 vwCl ([]) H := by rw [eH]; exact hP
  have hS : va_S A s.heap H [] := by rw [eH]; exact hS
  clear eH
  obtain ⟨locs, el⟩ : ∃ z : List Loc, z = [] := ⟨_, rfl⟩
  rw [← el] at hS ⊢
  clear el
  refine lv_iload_n hx hb dX1_stepAlong_0 rfl (lv_at hl 0 rfl) ?_
  refine lv_iconst (v := 0) hx hb dX1_stepAlong_1 (by decide) ?_
  refine lv_bipush (v := 7) hx hb dX1_stepAlong_2 (by decide) ?_
  obtain ⟨u1, hc, h⟩ := bd_el h
  refine ct_iN X hP hD hS (va_runSN (As := [.int x0, .int 0, .int 7]) (rest := []) ⟨hx, hb, hml, hown, hg⟩ (c_X11_within l E  H.size x0 0 7 u1 hc) ⟨va_cnB 3 hg (gw wco_X11_within) rfl rfl rfl (nm_X1_9 X.2.1) (hg _ wini_X11) (by decide +kernel) ⟨Nat.le_of_ble_eq_true rfl, Nat.le_of_ble_eq_true rfl⟩, hg _ wst_X11_within, trivial⟩ ⟨ct_blind, ct_preN X hS _⟩ rfl rfl hl.1 rfl (lv_room (Nat.le_of_ble_eq_true rfl)) dX1_stepAlong_4 ⟨Nat.zero_le _, Nat.zero_le _⟩) (fun H locs hP hD hS => ?_)
  refine lv_if_eq (tgt := 18) hx hb dX1_stepAlong_7 (by decide) (fun c2 => ?_) (fun c2 => ?_)
  · have h := it_t h c2
    refine lv_iconst (v := 0) hx hb dX1_stepAlong_18 (by decide) ?_
    exact RT 0 _ _ _ _ h rfl hP hD hS dX1_stepAlong_19
  · have h := it_f h c2
    refine va_gets hx hb X.2.2.1.2.1.1 hS hown (hg _ wf_X1_19) (fun _ h9 => h9) dX1_stepAlong_10 ?_
    refine lv_iload_n hx hb dX1_stepAlong_13 rfl (lv_at hl 0 rfl) ?_
    obtain ⟨hi, v3, ev3, h⟩ := rd_el h
    refine va_ti hx hb X.2.2.1.2.1.2 hS hi rfl dX1_stepAlong_14 ?_
    refine lv_top' ev3 ?_
    refine lv_goto (tgt := 19) hx hb dX1_stepAlong_15 (by decide) ?_
    exact RT v3 _ _ _ _ h rfl hP hD hS dX1_stepAlong_19
theorem dX1_spokeTowards_0 : decode cX1_spokeTowards 0 = .ok (.iload_n 0, 1) := by decide +kernel
theorem dX1_spokeTowards_1 : decode cX1_spokeTowards 1 = .ok (.invokestatic 22, 3) := by decide +kernel
theorem dX1_spokeTowards_4 : decode cX1_spokeTowards 4 = .ok (.istore_n 2, 1) := by decide +kernel
theorem dX1_spokeTowards_5 : decode cX1_spokeTowards 5 = .ok (.iload_n 1, 1) := by decide +kernel
theorem dX1_spokeTowards_6 : decode cX1_spokeTowards 6 = .ok (.invokestatic 22, 3) := by decide +kernel
theorem dX1_spokeTowards_9 : decode cX1_spokeTowards 9 = .ok (.istore_n 3, 1) := by decide +kernel
theorem dX1_spokeTowards_10 : decode cX1_spokeTowards 10 = .ok (.iconst 2, 1) := by decide +kernel
theorem dX1_spokeTowards_11 : decode cX1_spokeTowards 11 = .ok (.iload_n 3, 1) := by decide +kernel
theorem dX1_spokeTowards_12 : decode cX1_spokeTowards 12 = .ok (.imul, 1) := by decide +kernel
theorem dX1_spokeTowards_13 : decode cX1_spokeTowards 13 = .ok (.iload_n 2, 1) := by decide +kernel
theorem dX1_spokeTowards_14 : decode cX1_spokeTowards 14 = .ok (.if_icmp .ge 14, 3) := by decide +kernel
theorem dX1_spokeTowards_17 : decode cX1_spokeTowards 17 = .ok (.iload_n 0, 1) := by decide +kernel
theorem dX1_spokeTowards_18 : decode cX1_spokeTowards 18 = .ok (.ifCond .le 7, 3) := by decide +kernel
theorem dX1_spokeTowards_21 : decode cX1_spokeTowards 21 = .ok (.iconst 2, 1) := by decide +kernel
theorem dX1_spokeTowards_22 : decode cX1_spokeTowards 22 = .ok (.goto 5, 3) := by decide +kernel
theorem dX1_spokeTowards_25 : decode cX1_spokeTowards 25 = .ok (.bipush 6, 2) := by decide +kernel
theorem dX1_spokeTowards_27 : decode cX1_spokeTowards 27 = .ok (.ireturn, 1) := by decide +kernel
theorem dX1_spokeTowards_28 : decode cX1_spokeTowards 28 = .ok (.iconst 2, 1) := by decide +kernel
theorem dX1_spokeTowards_29 : decode cX1_spokeTowards 29 = .ok (.iload_n 2, 1) := by decide +kernel
theorem dX1_spokeTowards_30 : decode cX1_spokeTowards 30 = .ok (.imul, 1) := by decide +kernel
theorem dX1_spokeTowards_31 : decode cX1_spokeTowards 31 = .ok (.iload_n 3, 1) := by decide +kernel
theorem dX1_spokeTowards_32 : decode cX1_spokeTowards 32 = .ok (.if_icmp .ge 13, 3) := by decide +kernel
theorem dX1_spokeTowards_35 : decode cX1_spokeTowards 35 = .ok (.iload_n 1, 1) := by decide +kernel
theorem dX1_spokeTowards_36 : decode cX1_spokeTowards 36 = .ok (.ifCond .ge 7, 3) := by decide +kernel
theorem dX1_spokeTowards_39 : decode cX1_spokeTowards 39 = .ok (.iconst 0, 1) := by decide +kernel
theorem dX1_spokeTowards_40 : decode cX1_spokeTowards 40 = .ok (.goto 4, 3) := by decide +kernel
theorem dX1_spokeTowards_43 : decode cX1_spokeTowards 43 = .ok (.iconst 4, 1) := by decide +kernel
theorem dX1_spokeTowards_44 : decode cX1_spokeTowards 44 = .ok (.ireturn, 1) := by decide +kernel
theorem dX1_spokeTowards_45 : decode cX1_spokeTowards 45 = .ok (.iload_n 2, 1) := by decide +kernel
theorem dX1_spokeTowards_46 : decode cX1_spokeTowards 46 = .ok (.ifCond .ne 5, 3) := by decide +kernel
theorem dX1_spokeTowards_49 : decode cX1_spokeTowards 49 = .ok (.iconst 0, 1) := by decide +kernel
theorem dX1_spokeTowards_50 : decode cX1_spokeTowards 50 = .ok (.ireturn, 1) := by decide +kernel
theorem dX1_spokeTowards_51 : decode cX1_spokeTowards 51 = .ok (.iload_n 0, 1) := by decide +kernel
theorem dX1_spokeTowards_52 : decode cX1_spokeTowards 52 = .ok (.ifCond .le 13, 3) := by decide +kernel
theorem dX1_spokeTowards_55 : decode cX1_spokeTowards 55 = .ok (.iload_n 1, 1) := by decide +kernel
theorem dX1_spokeTowards_56 : decode cX1_spokeTowards 56 = .ok (.ifCond .ge 7, 3) := by decide +kernel
theorem dX1_spokeTowards_59 : decode cX1_spokeTowards 59 = .ok (.iconst 1, 1) := by decide +kernel
theorem dX1_spokeTowards_60 : decode cX1_spokeTowards 60 = .ok (.goto 4, 3) := by decide +kernel
theorem dX1_spokeTowards_63 : decode cX1_spokeTowards 63 = .ok (.iconst 3, 1) := by decide +kernel
theorem dX1_spokeTowards_64 : decode cX1_spokeTowards 64 = .ok (.ireturn, 1) := by decide +kernel
theorem dX1_spokeTowards_65 : decode cX1_spokeTowards 65 = .ok (.iload_n 1, 1) := by decide +kernel
theorem dX1_spokeTowards_66 : decode cX1_spokeTowards 66 = .ok (.ifCond .ge 8, 3) := by decide +kernel
theorem dX1_spokeTowards_69 : decode cX1_spokeTowards 69 = .ok (.bipush 7, 2) := by decide +kernel
theorem dX1_spokeTowards_71 : decode cX1_spokeTowards 71 = .ok (.goto 4, 3) := by decide +kernel
theorem dX1_spokeTowards_74 : decode cX1_spokeTowards 74 = .ok (.iconst 5, 1) := by decide +kernel
theorem dX1_spokeTowards_75 : decode cX1_spokeTowards 75 = .ok (.ireturn, 1) := by decide +kernel
def f_X1_spokeTowards (x0 : Int32) (x1 : Int32) : Option (Int32) := lt' (ab' x0) fun v1 => lt' (ab' x1) fun v2 => if v1 ≤ (2 * v2) then (if v2 ≤ (2 * v1) then (if v1 = 0 then (some 0) else (if x0 ≤ 0 then (if 0 ≤ x1 then (some 5) else (some 7)) else (if 0 ≤ x1 then (some 3) else (some 1)))) else (if 0 ≤ x1 then (some 4) else (some 0))) else (if x0 ≤ 0 then (some 6) else (some 2))
set_option maxHeartbeats 4000000 in
set_option maxRecDepth 100000 in
theorem c_X1_spokeTowards (l : Launch) (E : Ec) (sz : Nat) (x0 : Int32) (x1 : Int32) (Rv : Int32) (h : f_X1_spokeTowards x0 x1 = some Rv) : Met l yX1_spokeTowards (wsM (.code yX1_spokeTowards cX1_spokeTowards 4 (some .int))) ({ frames := 1, cells := 0, slots := 0, locals := 30 } : Room) (va_Pc [.int x0, .int x1] (ctP E ([]) sz)) (ctI E ([]) ([]) sz Rv) 0 0 (va_A ([]) sz) := by
  refine ct_metI (by decide) (Nat.le_of_ble_eq_true rfl) ?_
  intro p e s m ar below meth c A QM hx hb hml hown hg X hP hD hS RET ls hl
  have hown : s.vm.findClass RX1 = some m.cls := hown
  have hl : lv_has ls 4 [(0, .int x0), (1, .int x1)] := hl
  have RT : ∀ (v : Int32) (H : Heap) (locs : List Loc) (ls : Array Slot) (pc : Nat), some v = some Rv → narrow .int (.int v) = .int v → va_P E.1 vwCl ([]) H → va_D A ([]) → va_S A s.heap H locs → decode cX1_spokeTowards pc = .ok (.ireturn, 1) → W p l e ({ frames := 1, cells := 0, slots := 0, locals := 30 } : Room) s m ar below meth c H locs 0 0 QM (F0 m pc ls [.int v]) := by
    intro v H locs ls pc e hn hP hD hS d
    obtain rfl := sm_e e
    exact RET H locs pc ls hn hP hD hS d
  clear RET
  obtain ⟨H, eH⟩ : ∃ z, z = s.heap := ⟨_, rfl⟩
  rw [← eH]
  have hP : va_P E.1 vwCl ([]) H := by rw [eH]; exact hP
  have hS : va_S A s.heap H [] := by rw [eH]; exact hS
  clear eH
  obtain ⟨locs, el⟩ : ∃ z : List Loc, z = [] := ⟨_, rfl⟩
  rw [← el] at hS ⊢
  clear el
  refine lv_iload_n hx hb dX1_spokeTowards_0 rfl (lv_at hl 0 rfl) ?_
  obtain ⟨v1, ev1, h⟩ := lt_el h
  refine va_mabs hx hb (hml.trans hl.1.symm) hown (hg _ wm_X1_22) (hg _ wst_Mabs) (hg _ wini_J9) (hg _ wco_Mabs) (Nat.le_of_ble_eq_true rfl) (Nat.le_of_ble_eq_true rfl) (Nat.zero_le _) (Nat.zero_le _) dX1_spokeTowards_1 ?_
  refine lv_top' ev1 ?_
  refine lv_istore_n (lv' := [(2, .int v1), (0, .int x0), (1, .int x1)]) hx hb dX1_spokeTowards_4 rfl hl (by decide) rfl (fun ls hl => ?_)
  refine lv_iload_n hx hb dX1_spokeTowards_5 rfl (lv_at hl 2 rfl) ?_
  obtain ⟨v2, ev2, h⟩ := lt_el h
  refine va_mabs hx hb (hml.trans hl.1.symm) hown (hg _ wm_X1_22) (hg _ wst_Mabs) (hg _ wini_J9) (hg _ wco_Mabs) (Nat.le_of_ble_eq_true rfl) (Nat.le_of_ble_eq_true rfl) (Nat.zero_le _) (Nat.zero_le _) dX1_spokeTowards_6 ?_
  refine lv_top' ev2 ?_
  refine lv_istore_n (lv' := [(3, .int v2), (2, .int v1), (0, .int x0), (1, .int x1)]) hx hb dX1_spokeTowards_9 rfl hl (by decide) rfl (fun ls hl => ?_)
  refine lv_iconst (v := 2) hx hb dX1_spokeTowards_10 (by decide) ?_
  refine lv_iload_n hx hb dX1_spokeTowards_11 rfl (lv_at hl 0 rfl) ?_
  refine lv_imul hx hb dX1_spokeTowards_12 ?_
  refine lv_iload_n hx hb dX1_spokeTowards_13 rfl (lv_at hl 1 rfl) ?_
  refine lv_icmp_ge (tgt := 28) hx hb dX1_spokeTowards_14 (by decide) (fun c3 => ?_) (fun c3 => ?_)
  · have h := it_t h c3
    refine lv_iconst (v := 2) hx hb dX1_spokeTowards_28 (by decide) ?_
    refine lv_iload_n hx hb dX1_spokeTowards_29 rfl (lv_at hl 1 rfl) ?_
    refine lv_imul hx hb dX1_spokeTowards_30 ?_
    refine lv_iload_n hx hb dX1_spokeTowards_31 rfl (lv_at hl 0 rfl) ?_
    refine lv_icmp_ge (tgt := 45) hx hb dX1_spokeTowards_32 (by decide) (fun c4 => ?_) (fun c4 => ?_)
    · have h := it_t h c4
      refine lv_iload_n hx hb dX1_spokeTowards_45 rfl (lv_at hl 1 rfl) ?_
      refine lv_if_ne (tgt := 51) hx hb dX1_spokeTowards_46 (by decide) (fun c5 => ?_) (fun c5 => ?_)
      · have h := it_f h c5
        refine lv_iload_n hx hb dX1_spokeTowards_51 rfl (lv_at hl 2 rfl) ?_
        refine lv_if_le (tgt := 65) hx hb dX1_spokeTowards_52 (by decide) (fun c6 => ?_) (fun c6 => ?_)
        · have h := it_t h c6
          refine lv_iload_n hx hb dX1_spokeTowards_65 rfl (lv_at hl 3 rfl) ?_
          refine lv_if_ge (tgt := 74) hx hb dX1_spokeTowards_66 (by decide) (fun c7 => ?_) (fun c7 => ?_)
          · have h := it_t h c7
            refine lv_iconst (v := 5) hx hb dX1_spokeTowards_74 (by decide) ?_
            exact RT 5 _ _ _ _ h rfl hP hD hS dX1_spokeTowards_75
          · have h := it_f h c7
            refine lv_bipush (v := 7) hx hb dX1_spokeTowards_69 (by decide) ?_
            refine lv_goto (tgt := 75) hx hb dX1_spokeTowards_71 (by decide) ?_
            exact RT 7 _ _ _ _ h rfl hP hD hS dX1_spokeTowards_75
        · have h := it_f h c6
          refine lv_iload_n hx hb dX1_spokeTowards_55 rfl (lv_at hl 3 rfl) ?_
          refine lv_if_ge (tgt := 63) hx hb dX1_spokeTowards_56 (by decide) (fun c8 => ?_) (fun c8 => ?_)
          · have h := it_t h c8
            refine lv_iconst (v := 3) hx hb dX1_spokeTowards_63 (by decide) ?_
            exact RT 3 _ _ _ _ h rfl hP hD hS dX1_spokeTowards_64
          · have h := it_f h c8
            refine lv_iconst (v := 1) hx hb dX1_spokeTowards_59 (by decide) ?_
            refine lv_goto (tgt := 64) hx hb dX1_spokeTowards_60 (by decide) ?_
            exact RT 1 _ _ _ _ h rfl hP hD hS dX1_spokeTowards_64
      · have h := it_t h c5
        refine lv_iconst (v := 0) hx hb dX1_spokeTowards_49 (by decide) ?_
        exact RT 0 _ _ _ _ h rfl hP hD hS dX1_spokeTowards_50
    · have h := it_f h c4
      refine lv_iload_n hx hb dX1_spokeTowards_35 rfl (lv_at hl 3 rfl) ?_
      refine lv_if_ge (tgt := 43) hx hb dX1_spokeTowards_36 (by decide) (fun c9 => ?_) (fun c9 => ?_)
      · have h := it_t h c9
        refine lv_iconst (v := 4) hx hb dX1_spokeTowards_43 (by decide) ?_
        exact RT 4 _ _ _ _ h rfl hP hD hS dX1_spokeTowards_44
      · have h := it_f h c9
        refine lv_iconst (v := 0) hx hb dX1_spokeTowards_39 (by decide) ?_
        refine lv_goto (tgt := 44) hx hb dX1_spokeTowards_40 (by decide) ?_
        exact RT 0 _ _ _ _ h rfl hP hD hS dX1_spokeTowards_44
  · have h := it_f h c3
    refine lv_iload_n hx hb dX1_spokeTowards_17 rfl (lv_at hl 2 rfl) ?_
    refine lv_if_le (tgt := 25) hx hb dX1_spokeTowards_18 (by decide) (fun c10 => ?_) (fun c10 => ?_)
    · have h := it_t h c10
      refine lv_bipush (v := 6) hx hb dX1_spokeTowards_25 (by decide) ?_
      exact RT 6 _ _ _ _ h rfl hP hD hS dX1_spokeTowards_27
    · have h := it_f h c10
      refine lv_iconst (v := 2) hx hb dX1_spokeTowards_21 (by decide) ?_
      refine lv_goto (tgt := 27) hx hb dX1_spokeTowards_22 (by decide) ?_
      exact RT 2 _ _ _ _ h rfl hP hD hS dX1_spokeTowards_27
