theorem dX3_size_0 : decode cX3_size 0 = .ok (.aload_n 0, 1) := by decide +kernel
theorem dX3_size_1 : decode cX3_size 1 = .ok (.getfield 9, 3) := by decide +kernel
theorem dX3_size_4 : decode cX3_size 4 = .ok (.ireturn, 1) := by decide +kernel
def f_X3_size (S0 : Gr) : Option (Int32) := some (S0.1 0)
set_option maxHeartbeats 4000000 in
set_option maxRecDepth 100000 in
theorem c_X3_size (l : Launch) (E : Ec) (q0 : Nat → Nat) (sz : Nat) (S0 : Gr) (Rv : Int32) (h : f_X3_size S0 = some Rv) : Met l yX3_size (wsM (.code yX3_size cX3_size 1 (some .int))) ({ frames := 0, cells := 0, slots := 0, locals := 0 } : Room) (va_Pc [.ref (q0 0)] (ctP E (cw_X3 E q0 S0) sz)) (ctI E (cw_X3 E q0 S0) (cw_X3 E q0 S0) sz Rv) 0 0 (va_A (cw_X3 E q0 S0) sz) := by
  refine ct_metI (by decide) (Nat.le_of_ble_eq_true rfl) ?_
  intro p e s m ar below meth c A QM hx hb hml hown hg X hP hD hS RET ls hl
  have hown : s.vm.findClass RX3 = some m.cls := hown
  have hl : lv_has ls 1 [(0, .ref (q0 0))] := hl
  have RT : ∀ (v : Int32) (H : Heap) (locs : List Loc) (ls : Array Slot) (pc : Nat), some v = some Rv → narrow .int (.int v) = .int v → va_P E.1 vwCl (cw_X3 E q0 S0) H → va_D A (cw_X3 E q0 S0) → va_S A s.heap H locs → decode cX3_size pc = .ok (.ireturn, 1) → W p l e ({ frames := 0, cells := 0, slots := 0, locals := 0 } : Room) s m ar below meth c H locs 0 0 QM (F0 m pc ls [.int v]) := by
    intro v H locs ls pc e hn hP hD hS d
    obtain rfl := sm_e e
    exact RET H locs pc ls hn hP hD hS d
  clear RET
  obtain ⟨H, eH⟩ : ∃ z, z = s.heap := ⟨_, rfl⟩
  rw [← eH]
  have hP : va_P E.1 vwCl (cw_X3 E q0 S0) H := by rw [eH]; exact hP
  have hS : va_S A s.heap H [] := by rw [eH]; exact hS
  clear eH
  obtain ⟨locs, el⟩ : ∃ z : List Loc, z = [] := ⟨_, rfl⟩
  rw [← el] at hS ⊢
  clear el
  refine lv_aload_n hx hb dX3_size_0 rfl (lv_at hl 0 rfl) ?_
  refine va_get (D := E.1) (ci := 2) (v := .int (S0.1 0)) (C := RX3) (T := TX3) (N := 12) hx hb hg in_X3 hown X.1 hP 0 rfl rfl 0 (by decide) (hg _ wf_X3_9) (fun _ h9 => h9) rfl dX3_size_1 ?_
  exact RT (S0.1 0) _ _ _ _ h rfl hP hD hS dX3_size_4
theorem dX3_compare_0 : decode cX3_compare 0 = .ok (.aload_n 0, 1) := by decide +kernel
theorem dX3_compare_1 : decode cX3_compare 1 = .ok (.getfield 40, 3) := by decide +kernel
theorem dX3_compare_4 : decode cX3_compare 4 = .ok (.iconst 2, 1) := by decide +kernel
theorem dX3_compare_5 : decode cX3_compare 5 = .ok (.if_icmp .lt 12, 3) := by decide +kernel
theorem dX3_compare_8 : decode cX3_compare 8 = .ok (.aload_n 0, 1) := by decide +kernel
theorem dX3_compare_9 : decode cX3_compare 9 = .ok (.getfield 40, 3) := by decide +kernel
theorem dX3_compare_12 : decode cX3_compare 12 = .ok (.bipush 32, 2) := by decide +kernel
theorem dX3_compare_14 : decode cX3_compare 14 = .ok (.if_icmp .le 9, 3) := by decide +kernel
theorem dX3_compare_17 : decode cX3_compare 17 = .ok (.aload_n 0, 1) := by decide +kernel
theorem dX3_compare_18 : decode cX3_compare 18 = .ok (.iconst 1, 1) := by decide +kernel
theorem dX3_compare_19 : decode cX3_compare 19 = .ok (.putfield 47, 3) := by decide +kernel
theorem dX3_compare_22 : decode cX3_compare 22 = .ok (.return_, 1) := by decide +kernel
theorem dX3_compare_23 : decode cX3_compare 23 = .ok (.aload_n 0, 1) := by decide +kernel
theorem dX3_compare_24 : decode cX3_compare 24 = .ok (.dup, 1) := by decide +kernel
theorem dX3_compare_25 : decode cX3_compare 25 = .ok (.getfield 40, 3) := by decide +kernel
theorem dX3_compare_28 : decode cX3_compare 28 = .ok (.iconst 2, 1) := by decide +kernel
theorem dX3_compare_29 : decode cX3_compare 29 = .ok (.isub, 1) := by decide +kernel
theorem dX3_compare_30 : decode cX3_compare 30 = .ok (.putfield 40, 3) := by decide +kernel
theorem dX3_compare_33 : decode cX3_compare 33 = .ok (.aload_n 0, 1) := by decide +kernel
theorem dX3_compare_34 : decode cX3_compare 34 = .ok (.getfield 37, 3) := by decide +kernel
theorem dX3_compare_37 : decode cX3_compare 37 = .ok (.aload_n 0, 1) := by decide +kernel
theorem dX3_compare_38 : decode cX3_compare 38 = .ok (.getfield 40, 3) := by decide +kernel
theorem dX3_compare_41 : decode cX3_compare 41 = .ok (.iaload, 1) := by decide +kernel
theorem dX3_compare_42 : decode cX3_compare 42 = .ok (.istore_n 2, 1) := by decide +kernel
theorem dX3_compare_43 : decode cX3_compare 43 = .ok (.aload_n 0, 1) := by decide +kernel
theorem dX3_compare_44 : decode cX3_compare 44 = .ok (.getfield 37, 3) := by decide +kernel
theorem dX3_compare_47 : decode cX3_compare 47 = .ok (.aload_n 0, 1) := by decide +kernel
theorem dX3_compare_48 : decode cX3_compare 48 = .ok (.getfield 40, 3) := by decide +kernel
theorem dX3_compare_51 : decode cX3_compare 51 = .ok (.iconst 1, 1) := by decide +kernel
theorem dX3_compare_52 : decode cX3_compare 52 = .ok (.iadd, 1) := by decide +kernel
theorem dX3_compare_53 : decode cX3_compare 53 = .ok (.iaload, 1) := by decide +kernel
theorem dX3_compare_54 : decode cX3_compare 54 = .ok (.istore_n 3, 1) := by decide +kernel
theorem dX3_compare_55 : decode cX3_compare 55 = .ok (.iload_n 1, 1) := by decide +kernel
theorem dX3_compare_56 : decode cX3_compare 56 = .ok (.bipush 61, 2) := by decide +kernel
theorem dX3_compare_58 : decode cX3_compare 58 = .ok (.if_icmp .ne 20, 3) := by decide +kernel
theorem dX3_compare_61 : decode cX3_compare 61 = .ok (.aload_n 0, 1) := by decide +kernel
theorem dX3_compare_62 : decode cX3_compare 62 = .ok (.iload_n 2, 1) := by decide +kernel
theorem dX3_compare_63 : decode cX3_compare 63 = .ok (.iload_n 3, 1) := by decide +kernel
theorem dX3_compare_64 : decode cX3_compare 64 = .ok (.if_icmp .ne 7, 3) := by decide +kernel
theorem dX3_compare_67 : decode cX3_compare 67 = .ok (.iconst 1, 1) := by decide +kernel
theorem dX3_compare_68 : decode cX3_compare 68 = .ok (.goto 4, 3) := by decide +kernel
theorem dX3_compare_71 : decode cX3_compare 71 = .ok (.iconst 0, 1) := by decide +kernel
theorem dX3_compare_72 : decode cX3_compare 72 = .ok (.putfield 43, 3) := by decide +kernel
theorem dX3_compare_75 : decode cX3_compare 75 = .ok (.goto 36, 3) := by decide +kernel
theorem dX3_compare_78 : decode cX3_compare 78 = .ok (.aload_n 0, 1) := by decide +kernel
theorem dX3_compare_79 : decode cX3_compare 79 = .ok (.iload_n 1, 1) := by decide +kernel
theorem dX3_compare_80 : decode cX3_compare 80 = .ok (.bipush 60, 2) := by decide +kernel
theorem dX3_compare_82 : decode cX3_compare 82 = .ok (.if_icmp .ne 16, 3) := by decide +kernel
theorem dX3_compare_85 : decode cX3_compare 85 = .ok (.iload_n 2, 1) := by decide +kernel
theorem dX3_compare_86 : decode cX3_compare 86 = .ok (.iload_n 3, 1) := by decide +kernel
theorem dX3_compare_87 : decode cX3_compare 87 = .ok (.if_icmp .ge 7, 3) := by decide +kernel
theorem dX3_compare_90 : decode cX3_compare 90 = .ok (.iconst 1, 1) := by decide +kernel
theorem dX3_compare_91 : decode cX3_compare 91 = .ok (.goto 17, 3) := by decide +kernel
theorem dX3_compare_94 : decode cX3_compare 94 = .ok (.iconst 0, 1) := by decide +kernel
theorem dX3_compare_95 : decode cX3_compare 95 = .ok (.goto 13, 3) := by decide +kernel
theorem dX3_compare_98 : decode cX3_compare 98 = .ok (.iload_n 2, 1) := by decide +kernel
theorem dX3_compare_99 : decode cX3_compare 99 = .ok (.iload_n 3, 1) := by decide +kernel
theorem dX3_compare_100 : decode cX3_compare 100 = .ok (.if_icmp .le 7, 3) := by decide +kernel
theorem dX3_compare_103 : decode cX3_compare 103 = .ok (.iconst 1, 1) := by decide +kernel
theorem dX3_compare_104 : decode cX3_compare 104 = .ok (.goto 4, 3) := by decide +kernel
theorem dX3_compare_107 : decode cX3_compare 107 = .ok (.iconst 0, 1) := by decide +kernel
theorem dX3_compare_108 : decode cX3_compare 108 = .ok (.putfield 43, 3) := by decide +kernel
theorem dX3_compare_111 : decode cX3_compare 111 = .ok (.return_, 1) := by decide +kernel
def f_X3_compare (S0 : Gr) (x1 : Int32) : Option (Gr) := if (S0.1 9) < 2 then (lt' (sI S0 11 1) fun S0_2 => some S0_2) else (if (S0.1 9) ≤ 32 then (lt' (sI S0 9 ((S0.1 9) - 2)) fun S0_4 => rd' (S0_4.2 8) 32 (S0_4.1 9) fun v5 => rd' (S0_4.2 8) 32 ((S0_4.1 9) + 1) fun v6 => if x1 = 61 then (if v5 = v6 then (lt' (sI S0_4 10 1) fun S0_17 => some S0_17) else (lt' (sI S0_4 10 0) fun S0_16 => some S0_16)) else (if x1 = 60 then (if v6 ≤ v5 then (lt' (sI S0_4 10 0) fun S0_13 => some S0_13) else (lt' (sI S0_4 10 1) fun S0_14 => some S0_14)) else (if v5 ≤ v6 then (lt' (sI S0_4 10 0) fun S0_10 => some S0_10) else (lt' (sI S0_4 10 1) fun S0_11 => some S0_11)))) else (lt' (sI S0 11 1) fun S0_18 => some S0_18))
set_option maxHeartbeats 4000000 in
set_option maxRecDepth 100000 in
theorem c_X3_compare (l : Launch) (E : Ec) (q0 : Nat → Nat) (sz : Nat) (S0 : Gr) (x1 : Int32) (Rv : Gr) (h : f_X3_compare S0 x1 = some Rv) : Met l yX3_compare (wsM (.code yX3_compare cX3_compare 4 none)) ({ frames := 0, cells := 0, slots := 0, locals := 0 } : Room) (va_Pc [.ref (q0 0), .int x1] (ctP E (cw_X3 E q0 S0) sz)) (ctV E (cw_X3 E q0 S0) (cw_X3 E q0 Rv) sz) 0 0 (va_A (cw_X3 E q0 S0) sz) := by
  refine ct_metV (by decide) (Nat.le_of_ble_eq_true rfl) ?_
  intro p e s m ar below meth c A QM hx hb hml hown hg X hP hD hS RET ls hl
  have hown : s.vm.findClass RX3 = some m.cls := hown
  have hl : lv_has ls 4 [(0, .ref (q0 0)), (1, .int x1)] := hl
  have RT : ∀ (S0 : Gr) (H : Heap) (locs : List Loc) (ls : Array Slot) (pc : Nat), some S0 = some Rv → va_P E.1 vwCl (cw_X3 E q0 S0) H → va_D A (cw_X3 E q0 S0) → va_S A s.heap H locs → decode cX3_compare pc = .ok (.return_, 1) → W p l e ({ frames := 0, cells := 0, slots := 0, locals := 0 } : Room) s m ar below meth c H locs 0 0 QM (F0 m pc ls []) := by
    intro S0 H locs ls pc e hP hD hS d
    obtain rfl := sm_e e
    exact RET H locs pc ls hP hD hS d
  clear RET
  obtain ⟨H, eH⟩ : ∃ z, z = s.heap := ⟨_, rfl⟩
  rw [← eH]
  have hP : va_P E.1 vwCl (cw_X3 E q0 S0) H := by rw [eH]; exact hP
  have hS : va_S A s.heap H [] := by rw [eH]; exact hS
  clear eH
  obtain ⟨locs, el⟩ : ∃ z : List Loc, z = [] := ⟨_, rfl⟩
  rw [← el] at hS ⊢
  clear el
  refine lv_aload_n hx hb dX3_compare_0 rfl (lv_at hl 0 rfl) ?_
  refine va_get (D := E.1) (ci := 2) (v := .int (S0.1 9)) (C := RX3) (T := TX3) (N := 12) hx hb hg in_X3 hown X.1 hP 0 rfl rfl 9 (by decide) (hg _ wf_X3_40) (fun _ h9 => h9) rfl dX3_compare_1 ?_
  refine lv_iconst (v := 2) hx hb dX3_compare_4 (by decide) ?_
  refine lv_icmp_lt (tgt := 17) hx hb dX3_compare_5 (by decide) (fun c1 => ?_) (fun c1 => ?_)
  · have h := it_t h c1
    refine lv_aload_n hx hb dX3_compare_17 rfl (lv_at hl 0 rfl) ?_
    refine lv_iconst (v := 1) hx hb dX3_compare_18 (by decide) ?_
    obtain ⟨S0_2, eS, h⟩ := lt_el h
    refine va_put (D := E.1) (ci := 2) (v := .int 1) (ty := .boolean) (C := RX3) (T := TX3) (N := 12) hx hb hg in_X3 tyX3 tyX3_ok nmX3 hown X.1 hP hD hS 0 rfl rfl 11 (by decide) (hg _ wf_X3_47) (fun _ h9 => h9) rfl (by decide +kernel) (by decide +kernel) (by decide +kernel) (Nat.le_of_ble_eq_true rfl) dX3_compare_19 (fun H locs hP hD hS => ?_)
    have hP : va_P E.1 vwCl (cw_X3 E q0 S0_2) H := by rw [eS]; exact hP
    have hD : va_D A (cw_X3 E q0 S0_2) := by rw [eS]; exact hD
    clear eS
    exact RT S0_2 _ _ _ _ h hP hD hS dX3_compare_22
  · have h := it_f h c1
    refine lv_aload_n hx hb dX3_compare_8 rfl (lv_at hl 0 rfl) ?_
    refine va_get (D := E.1) (ci := 2) (v := .int (S0.1 9)) (C := RX3) (T := TX3) (N := 12) hx hb hg in_X3 hown X.1 hP 0 rfl rfl 9 (by decide) (hg _ wf_X3_40) (fun _ h9 => h9) rfl dX3_compare_9 ?_
    refine lv_bipush (v := 32) hx hb dX3_compare_12 (by decide) ?_
    refine lv_icmp_le (tgt := 23) hx hb dX3_compare_14 (by decide) (fun c3 => ?_) (fun c3 => ?_)
    · have h := it_t h c3
      refine lv_aload_n hx hb dX3_compare_23 rfl (lv_at hl 0 rfl) ?_
      refine lv_dup hx hb dX3_compare_24 rfl ?_
      refine va_get (D := E.1) (ci := 2) (v := .int (S0.1 9)) (C := RX3) (T := TX3) (N := 12) hx hb hg in_X3 hown X.1 hP 0 rfl rfl 9 (by decide) (hg _ wf_X3_40) (fun _ h9 => h9) rfl dX3_compare_25 ?_
      refine lv_iconst (v := 2) hx hb dX3_compare_28 (by decide) ?_
      refine lv_isub hx hb dX3_compare_29 ?_
      obtain ⟨S0_4, eS, h⟩ := lt_el h
      refine va_put (D := E.1) (ci := 2) (v := .int ((S0.1 9) - 2)) (ty := .int) (C := RX3) (T := TX3) (N := 12) hx hb hg in_X3 tyX3 tyX3_ok nmX3 hown X.1 hP hD hS 0 rfl rfl 9 (by decide) (hg _ wf_X3_40) (fun _ h9 => h9) rfl (by decide +kernel) rfl rfl (Nat.le_of_ble_eq_true rfl) dX3_compare_30 (fun H locs hP hD hS => ?_)
      have hP : va_P E.1 vwCl (cw_X3 E q0 S0_4) H := by rw [eS]; exact hP
      have hD : va_D A (cw_X3 E q0 S0_4) := by rw [eS]; exact hD
      clear eS
      refine lv_aload_n hx hb dX3_compare_33 rfl (lv_at hl 0 rfl) ?_
      refine va_get (D := E.1) (ci := 2) (v := .ref (q0 7)) (C := RX3) (T := TX3) (N := 12) hx hb hg in_X3 hown X.1 hP 0 rfl rfl 8 (by decide) (hg _ wf_X3_37) (fun _ h9 => h9) rfl dX3_compare_34 ?_
      refine lv_aload_n hx hb dX3_compare_37 rfl (lv_at hl 0 rfl) ?_
      refine va_get (D := E.1) (ci := 2) (v := .int (S0_4.1 9)) (C := RX3) (T := TX3) (N := 12) hx hb hg in_X3 hown X.1 hP 0 rfl rfl 9 (by decide) (hg _ wf_X3_40) (fun _ h9 => h9) rfl dX3_compare_38 ?_
      obtain ⟨hi, v5, ev5, h⟩ := rd_el h
      refine va_iald hx hb X.1 hP 7 0 rfl rfl hi dX3_compare_41 ?_
      refine lv_top' ev5 ?_
      refine lv_istore_n (lv' := [(2, .int v5), (0, .ref (q0 0)), (1, .int x1)]) hx hb dX3_compare_42 rfl hl (by decide) rfl (fun ls hl => ?_)
      refine lv_aload_n hx hb dX3_compare_43 rfl (lv_at hl 1 rfl) ?_
      refine va_get (D := E.1) (ci := 2) (v := .ref (q0 7)) (C := RX3) (T := TX3) (N := 12) hx hb hg in_X3 hown X.1 hP 0 rfl rfl 8 (by decide) (hg _ wf_X3_37) (fun _ h9 => h9) rfl dX3_compare_44 ?_
      refine lv_aload_n hx hb dX3_compare_47 rfl (lv_at hl 1 rfl) ?_
      refine va_get (D := E.1) (ci := 2) (v := .int (S0_4.1 9)) (C := RX3) (T := TX3) (N := 12) hx hb hg in_X3 hown X.1 hP 0 rfl rfl 9 (by decide) (hg _ wf_X3_40) (fun _ h9 => h9) rfl dX3_compare_48 ?_
      refine lv_iconst (v := 1) hx hb dX3_compare_51 (by decide) ?_
      refine lv_iadd hx hb dX3_compare_52 ?_
      obtain ⟨hi, v6, ev6, h⟩ := rd_el h
      refine va_iald hx hb X.1 hP 7 0 rfl rfl hi dX3_compare_53 ?_
      refine lv_top' ev6 ?_
      refine lv_istore_n (lv' := [(3, .int v6), (2, .int v5), (0, .ref (q0 0)), (1, .int x1)]) hx hb dX3_compare_54 rfl hl (by decide) rfl (fun ls hl => ?_)
      refine lv_iload_n hx hb dX3_compare_55 rfl (lv_at hl 3 rfl) ?_
      refine lv_bipush (v := 61) hx hb dX3_compare_56 (by decide) ?_
      refine lv_icmp_ne (tgt := 78) hx hb dX3_compare_58 (by decide) (fun c7 => ?_) (fun c7 => ?_)
      · have h := it_f h c7
        refine lv_aload_n hx hb dX3_compare_78 rfl (lv_at hl 2 rfl) ?_
        refine lv_iload_n hx hb dX3_compare_79 rfl (lv_at hl 3 rfl) ?_
        refine lv_bipush (v := 60) hx hb dX3_compare_80 (by decide) ?_
        refine lv_icmp_ne (tgt := 98) hx hb dX3_compare_82 (by decide) (fun c8 => ?_) (fun c8 => ?_)
        · have h := it_f h c8
          refine lv_iload_n hx hb dX3_compare_98 rfl (lv_at hl 1 rfl) ?_
          refine lv_iload_n hx hb dX3_compare_99 rfl (lv_at hl 0 rfl) ?_
          refine lv_icmp_le (tgt := 107) hx hb dX3_compare_100 (by decide) (fun c9 => ?_) (fun c9 => ?_)
          · have h := it_t h c9
            refine lv_iconst (v := 0) hx hb dX3_compare_107 (by decide) ?_
            obtain ⟨S0_10, eS, h⟩ := lt_el h
            refine va_put (D := E.1) (ci := 2) (v := .int 0) (ty := .boolean) (C := RX3) (T := TX3) (N := 12) hx hb hg in_X3 tyX3 tyX3_ok nmX3 hown X.1 hP hD hS 0 rfl rfl 10 (by decide) (hg _ wf_X3_43) (fun _ h9 => h9) rfl (by decide +kernel) (by decide +kernel) (by decide +kernel) (Nat.le_of_ble_eq_true rfl) dX3_compare_108 (fun H locs hP hD hS => ?_)
            have hP : va_P E.1 vwCl (cw_X3 E q0 S0_10) H := by rw [eS]; exact hP
            have hD : va_D A (cw_X3 E q0 S0_10) := by rw [eS]; exact hD
            clear eS
            exact RT S0_10 _ _ _ _ h hP hD hS dX3_compare_111
          · have h := it_f h c9
            refine lv_iconst (v := 1) hx hb dX3_compare_103 (by decide) ?_
            refine lv_goto (tgt := 108) hx hb dX3_compare_104 (by decide) ?_
            obtain ⟨S0_11, eS, h⟩ := lt_el h
            refine va_put (D := E.1) (ci := 2) (v := .int 1) (ty := .boolean) (C := RX3) (T := TX3) (N := 12) hx hb hg in_X3 tyX3 tyX3_ok nmX3 hown X.1 hP hD hS 0 rfl rfl 10 (by decide) (hg _ wf_X3_43) (fun _ h9 => h9) rfl (by decide +kernel) (by decide +kernel) (by decide +kernel) (Nat.le_of_ble_eq_true rfl) dX3_compare_108 (fun H locs hP hD hS => ?_)
            have hP : va_P E.1 vwCl (cw_X3 E q0 S0_11) H := by rw [eS]; exact hP
            have hD : va_D A (cw_X3 E q0 S0_11) := by rw [eS]; exact hD
            clear eS
            exact RT S0_11 _ _ _ _ h hP hD hS dX3_compare_111
        · have h := it_t h c8
          refine lv_iload_n hx hb dX3_compare_85 rfl (lv_at hl 1 rfl) ?_
          refine lv_iload_n hx hb dX3_compare_86 rfl (lv_at hl 0 rfl) ?_
          refine lv_icmp_ge (tgt := 94) hx hb dX3_compare_87 (by decide) (fun c12 => ?_) (fun c12 => ?_)
          · have h := it_t h c12
            refine lv_iconst (v := 0) hx hb dX3_compare_94 (by decide) ?_
            refine lv_goto (tgt := 108) hx hb dX3_compare_95 (by decide) ?_
            obtain ⟨S0_13, eS, h⟩ := lt_el h
            refine va_put (D := E.1) (ci := 2) (v := .int 0) (ty := .boolean) (C := RX3) (T := TX3) (N := 12) hx hb hg in_X3 tyX3 tyX3_ok nmX3 hown X.1 hP hD hS 0 rfl rfl 10 (by decide) (hg _ wf_X3_43) (fun _ h9 => h9) rfl (by decide +kernel) (by decide +kernel) (by decide +kernel) (Nat.le_of_ble_eq_true rfl) dX3_compare_108 (fun H locs hP hD hS => ?_)
            have hP : va_P E.1 vwCl (cw_X3 E q0 S0_13) H := by rw [eS]; exact hP
            have hD : va_D A (cw_X3 E q0 S0_13) := by rw [eS]; exact hD
            clear eS
            exact RT S0_13 _ _ _ _ h hP hD hS dX3_compare_111
          · have h := it_f h c12
            refine lv_iconst (v := 1) hx hb dX3_compare_90 (by decide) ?_
            refine lv_goto (tgt := 108) hx hb dX3_compare_91 (by decide) ?_
            obtain ⟨S0_14, eS, h⟩ := lt_el h
            refine va_put (D := E.1) (ci := 2) (v := .int 1) (ty := .boolean) (C := RX3) (T := TX3) (N := 12) hx hb hg in_X3 tyX3 tyX3_ok nmX3 hown X.1 hP hD hS 0 rfl rfl 10 (by decide) (hg _ wf_X3_43) (fun _ h9 => h9) rfl (by decide +kernel) (by decide +kernel) (by decide +kernel) (Nat.le_of_ble_eq_true rfl) dX3_compare_108 (fun H locs hP hD hS => ?_)
            have hP : va_P E.1 vwCl (cw_X3 E q0 S0_14) H := by rw [eS]; exact hP
            have hD : va_D A (cw_X3 E q0 S0_14) := by rw [eS]; exact hD
            clear eS
            exact RT S0_14 _ _ _ _ h hP hD hS dX3_compare_111
      · have h := it_t h c7
        refine lv_aload_n hx hb dX3_compare_61 rfl (lv_at hl 2 rfl) ?_
        refine lv_iload_n hx hb dX3_compare_62 rfl (lv_at hl 1 rfl) ?_
        refine lv_iload_n hx hb dX3_compare_63 rfl (lv_at hl 0 rfl) ?_
        refine lv_icmp_ne (tgt := 71) hx hb dX3_compare_64 (by decide) (fun c15 => ?_) (fun c15 => ?_)
        · have h := it_f h c15
          refine lv_iconst (v := 0) hx hb dX3_compare_71 (by decide) ?_
          obtain ⟨S0_16, eS, h⟩ := lt_el h
          refine va_put (D := E.1) (ci := 2) (v := .int 0) (ty := .boolean) (C := RX3) (T := TX3) (N := 12) hx hb hg in_X3 tyX3 tyX3_ok nmX3 hown X.1 hP hD hS 0 rfl rfl 10 (by decide) (hg _ wf_X3_43) (fun _ h9 => h9) rfl (by decide +kernel) (by decide +kernel) (by decide +kernel) (Nat.le_of_ble_eq_true rfl) dX3_compare_72 (fun H locs hP hD hS => ?_)
          have hP : va_P E.1 vwCl (cw_X3 E q0 S0_16) H := by rw [eS]; exact hP
          have hD : va_D A (cw_X3 E q0 S0_16) := by rw [eS]; exact hD
          clear eS
          refine lv_goto (tgt := 111) hx hb dX3_compare_75 (by decide) ?_
          exact RT S0_16 _ _ _ _ h hP hD hS dX3_compare_111
        · have h := it_t h c15
          refine lv_iconst (v := 1) hx hb dX3_compare_67 (by decide) ?_
          refine lv_goto (tgt := 72) hx hb dX3_compare_68 (by decide) ?_
          obtain ⟨S0_17, eS, h⟩ := lt_el h
          refine va_put (D := E.1) (ci := 2) (v := .int 1) (ty := .boolean) (C := RX3) (T := TX3) (N := 12) hx hb hg in_X3 tyX3 tyX3_ok nmX3 hown X.1 hP hD hS 0 rfl rfl 10 (by decide) (hg _ wf_X3_43) (fun _ h9 => h9) rfl (by decide +kernel) (by decide +kernel) (by decide +kernel) (Nat.le_of_ble_eq_true rfl) dX3_compare_72 (fun H locs hP hD hS => ?_)
          have hP : va_P E.1 vwCl (cw_X3 E q0 S0_17) H := by rw [eS]; exact hP
          have hD : va_D A (cw_X3 E q0 S0_17) := by rw [eS]; exact hD
          clear eS
          refine lv_goto (tgt := 111) hx hb dX3_compare_75 (by decide) ?_
          exact RT S0_17 _ _ _ _ h hP hD hS dX3_compare_111
    · have h := it_f h c3
      refine lv_aload_n hx hb dX3_compare_17 rfl (lv_at hl 0 rfl) ?_
      refine lv_iconst (v := 1) hx hb dX3_compare_18 (by decide) ?_
      obtain ⟨S0_18, eS, h⟩ := lt_el h
      refine va_put (D := E.1) (ci := 2) (v := .int 1) (ty := .boolean) (C := RX3) (T := TX3) (N := 12) hx hb hg in_X3 tyX3 tyX3_ok nmX3 hown X.1 hP hD hS 0 rfl rfl 11 (by decide) (hg _ wf_X3_47) (fun _ h9 => h9) rfl (by decide +kernel) (by decide +kernel) (by decide +kernel) (Nat.le_of_ble_eq_true rfl) dX3_compare_19 (fun H locs hP hD hS => ?_)
      have hP : va_P E.1 vwCl (cw_X3 E q0 S0_18) H := by rw [eS]; exact hP
      have hD : va_D A (cw_X3 E q0 S0_18) := by rw [eS]; exact hD
      clear eS
      exact RT S0_18 _ _ _ _ h hP hD hS dX3_compare_22
theorem dX3_heapUp_0 : decode cX3_heapUp 0 = .ok (.aload_n 0, 1) := by decide +kernel
theorem dX3_heapUp_1 : decode cX3_heapUp 1 = .ok (.getfield 40, 3) := by decide +kernel
theorem dX3_heapUp_4 : decode cX3_heapUp 4 = .ok (.bipush 32, 2) := by decide +kernel
theorem dX3_heapUp_6 : decode cX3_heapUp 6 = .ok (.if_icmp .ge 23, 3) := by decide +kernel
theorem dX3_heapUp_9 : decode cX3_heapUp 9 = .ok (.aload_n 0, 1) := by decide +kernel
theorem dX3_heapUp_10 : decode cX3_heapUp 10 = .ok (.getfield 37, 3) := by decide +kernel
theorem dX3_heapUp_13 : decode cX3_heapUp 13 = .ok (.aload_n 0, 1) := by decide +kernel
theorem dX3_heapUp_14 : decode cX3_heapUp 14 = .ok (.getfield 40, 3) := by decide +kernel
theorem dX3_heapUp_17 : decode cX3_heapUp 17 = .ok (.iload_n 1, 1) := by decide +kernel
theorem dX3_heapUp_18 : decode cX3_heapUp 18 = .ok (.iastore, 1) := by decide +kernel
theorem dX3_heapUp_19 : decode cX3_heapUp 19 = .ok (.aload_n 0, 1) := by decide +kernel
theorem dX3_heapUp_20 : decode cX3_heapUp 20 = .ok (.dup, 1) := by decide +kernel
theorem dX3_heapUp_21 : decode cX3_heapUp 21 = .ok (.getfield 40, 3) := by decide +kernel
theorem dX3_heapUp_24 : decode cX3_heapUp 24 = .ok (.iconst 1, 1) := by decide +kernel
theorem dX3_heapUp_25 : decode cX3_heapUp 25 = .ok (.iadd, 1) := by decide +kernel
theorem dX3_heapUp_26 : decode cX3_heapUp 26 = .ok (.putfield 40, 3) := by decide +kernel
theorem dX3_heapUp_29 : decode cX3_heapUp 29 = .ok (.return_, 1) := by decide +kernel
def f_X3_heapUp (S0 : Gr) (x1 : Int32) : Option (Gr) := if 32 ≤ (S0.1 9) then (some S0) else (ck' 32 (S0.1 9) (lt' (sA S0 8 (Int32.toNatClampNeg (S0.1 9)) x1) fun S0_2 => lt' (sI S0_2 9 ((S0_2.1 9) + 1)) fun S0_3 => some S0_3))
set_option maxHeartbeats 4000000 in
set_option maxRecDepth 100000 in
theorem c_X3_heapUp (l : Launch) (E : Ec) (q0 : Nat → Nat) (sz : Nat) (S0 : Gr) (x1 : Int32) (Rv : Gr) (h : f_X3_heapUp S0 x1 = some Rv) : Met l yX3_heapUp (wsM (.code yX3_heapUp cX3_heapUp 2 none)) ({ frames := 0, cells := 0, slots := 0, locals := 0 } : Room) (va_Pc [.ref (q0 0), .int x1] (ctP E (cw_X3 E q0 S0) sz)) (ctV E (cw_X3 E q0 S0) (cw_X3 E q0 Rv) sz) 0 0 (va_A (cw_X3 E q0 S0) sz) := by
  refine ct_metV (by decide) (Nat.le_of_ble_eq_true rfl) ?_
  intro p e s m ar below meth c A QM hx hb hml hown hg X hP hD hS RET ls hl
  have hown : s.vm.findClass RX3 = some m.cls := hown
  have hl : lv_has ls 2 [(0, .ref (q0 0)), (1, .int x1)] := hl
  have RT : ∀ (S0 : Gr) (H : Heap) (locs : List Loc) (ls : Array Slot) (pc : Nat), some S0 = some Rv → va_P E.1 vwCl (cw_X3 E q0 S0) H → va_D A (cw_X3 E q0 S0) → va_S A s.heap H locs → decode cX3_heapUp pc = .ok (.return_, 1) → W p l e ({ frames := 0, cells := 0, slots := 0, locals := 0 } : Room) s m ar below meth c H locs 0 0 QM (F0 m pc ls []) := by
    intro S0 H locs ls pc e hP hD hS d
    obtain rfl := sm_e e
    exact RET H locs pc ls hP hD hS d
  clear RET
  obtain ⟨H, eH⟩ : ∃ z, z = s.heap := ⟨_, rfl⟩
  rw [← eH]
  have hP : va_P E.1 vwCl (cw_X3 E q0 S0) H := by rw [eH]; exact hP
  have hS : va_S A s.heap H [] := by rw [eH]; exact hS
  clear eH
  obtain ⟨locs, el⟩ : ∃ z : List Loc, z = [] := ⟨_, rfl⟩
  rw [← el] at hS ⊢
  clear el
  refine lv_aload_n hx hb dX3_heapUp_0 rfl (lv_at hl 0 rfl) ?_
  refine va_get (D := E.1) (ci := 2) (v := .int (S0.1 9)) (C := RX3) (T := TX3) (N := 12) hx hb hg in_X3 hown X.1 hP 0 rfl rfl 9 (by decide) (hg _ wf_X3_40) (fun _ h9 => h9) rfl dX3_heapUp_1 ?_
  refine lv_bipush (v := 32) hx hb dX3_heapUp_4 (by decide) ?_
  refine lv_icmp_ge (tgt := 29) hx hb dX3_heapUp_6 (by decide) (fun c1 => ?_) (fun c1 => ?_)
  · have h := it_t h c1
    exact RT S0 _ _ _ _ h hP hD hS dX3_heapUp_29
  · have h := it_f h c1
    refine lv_aload_n hx hb dX3_heapUp_9 rfl (lv_at hl 0 rfl) ?_
    refine va_get (D := E.1) (ci := 2) (v := .ref (q0 7)) (C := RX3) (T := TX3) (N := 12) hx hb hg in_X3 hown X.1 hP 0 rfl rfl 8 (by decide) (hg _ wf_X3_37) (fun _ h9 => h9) rfl dX3_heapUp_10 ?_
    refine lv_aload_n hx hb dX3_heapUp_13 rfl (lv_at hl 0 rfl) ?_
    refine va_get (D := E.1) (ci := 2) (v := .int (S0.1 9)) (C := RX3) (T := TX3) (N := 12) hx hb hg in_X3 hown X.1 hP 0 rfl rfl 9 (by decide) (hg _ wf_X3_40) (fun _ h9 => h9) rfl dX3_heapUp_14 ?_
    refine lv_iload_n hx hb dX3_heapUp_17 rfl (lv_at hl 1 rfl) ?_
    obtain ⟨hi, h⟩ := ck_el h
    obtain ⟨S0_2, eS, h⟩ := lt_el h
    refine va_iast hx hb X.1 hP hD hS 7 0 rfl rfl hi dX3_heapUp_18 (fun H locs hP hD hS => ?_)
    have hP : va_P E.1 vwCl (cw_X3 E q0 S0_2) H := by rw [eS]; exact hP
    have hD : va_D A (cw_X3 E q0 S0_2) := by rw [eS]; exact hD
    clear eS
    refine lv_aload_n hx hb dX3_heapUp_19 rfl (lv_at hl 0 rfl) ?_
    refine lv_dup hx hb dX3_heapUp_20 rfl ?_
    refine va_get (D := E.1) (ci := 2) (v := .int (S0_2.1 9)) (C := RX3) (T := TX3) (N := 12) hx hb hg in_X3 hown X.1 hP 0 rfl rfl 9 (by decide) (hg _ wf_X3_40) (fun _ h9 => h9) rfl dX3_heapUp_21 ?_
    refine lv_iconst (v := 1) hx hb dX3_heapUp_24 (by decide) ?_
    refine lv_iadd hx hb dX3_heapUp_25 ?_
    obtain ⟨S0_3, eS, h⟩ := lt_el h
    refine va_put (D := E.1) (ci := 2) (v := .int ((S0_2.1 9) + 1)) (ty := .int) (C := RX3) (T := TX3) (N := 12) hx hb hg in_X3 tyX3 tyX3_ok nmX3 hown X.1 hP hD hS 0 rfl rfl 9 (by decide) (hg _ wf_X3_40) (fun _ h9 => h9) rfl (by decide +kernel) rfl rfl (Nat.le_of_ble_eq_true rfl) dX3_heapUp_26 (fun H locs hP hD hS => ?_)
    have hP : va_P E.1 vwCl (cw_X3 E q0 S0_3) H := by rw [eS]; exact hP
    have hD : va_D A (cw_X3 E q0 S0_3) := by rw [eS]; exact hD
    clear eS
    exact RT S0_3 _ _ _ _ h hP hD hS dX3_heapUp_29
theorem dX3_reckon_0 : decode cX3_reckon 0 = .ok (.aload_n 0, 1) := by decide +kernel
theorem dX3_reckon_1 : decode cX3_reckon 1 = .ok (.getfield 40, 3) := by decide +kernel
theorem dX3_reckon_4 : decode cX3_reckon 4 = .ok (.iconst 2, 1) := by decide +kernel
theorem dX3_reckon_5 : decode cX3_reckon 5 = .ok (.if_icmp .lt 12, 3) := by decide +kernel
theorem dX3_reckon_8 : decode cX3_reckon 8 = .ok (.aload_n 0, 1) := by decide +kernel
theorem dX3_reckon_9 : decode cX3_reckon 9 = .ok (.getfield 40, 3) := by decide +kernel
theorem dX3_reckon_12 : decode cX3_reckon 12 = .ok (.bipush 32, 2) := by decide +kernel
theorem dX3_reckon_14 : decode cX3_reckon 14 = .ok (.if_icmp .le 9, 3) := by decide +kernel
theorem dX3_reckon_17 : decode cX3_reckon 17 = .ok (.aload_n 0, 1) := by decide +kernel
theorem dX3_reckon_18 : decode cX3_reckon 18 = .ok (.iconst 1, 1) := by decide +kernel
theorem dX3_reckon_19 : decode cX3_reckon 19 = .ok (.putfield 47, 3) := by decide +kernel
theorem dX3_reckon_22 : decode cX3_reckon 22 = .ok (.return_, 1) := by decide +kernel
theorem dX3_reckon_23 : decode cX3_reckon 23 = .ok (.aload_n 0, 1) := by decide +kernel
theorem dX3_reckon_24 : decode cX3_reckon 24 = .ok (.dup, 1) := by decide +kernel
theorem dX3_reckon_25 : decode cX3_reckon 25 = .ok (.getfield 40, 3) := by decide +kernel
theorem dX3_reckon_28 : decode cX3_reckon 28 = .ok (.iconst 1, 1) := by decide +kernel
theorem dX3_reckon_29 : decode cX3_reckon 29 = .ok (.isub, 1) := by decide +kernel
theorem dX3_reckon_30 : decode cX3_reckon 30 = .ok (.putfield 40, 3) := by decide +kernel
theorem dX3_reckon_33 : decode cX3_reckon 33 = .ok (.aload_n 0, 1) := by decide +kernel
theorem dX3_reckon_34 : decode cX3_reckon 34 = .ok (.getfield 37, 3) := by decide +kernel
theorem dX3_reckon_37 : decode cX3_reckon 37 = .ok (.aload_n 0, 1) := by decide +kernel
theorem dX3_reckon_38 : decode cX3_reckon 38 = .ok (.getfield 40, 3) := by decide +kernel
theorem dX3_reckon_41 : decode cX3_reckon 41 = .ok (.iconst 1, 1) := by decide +kernel
theorem dX3_reckon_42 : decode cX3_reckon 42 = .ok (.isub, 1) := by decide +kernel
theorem dX3_reckon_43 : decode cX3_reckon 43 = .ok (.iaload, 1) := by decide +kernel
theorem dX3_reckon_44 : decode cX3_reckon 44 = .ok (.istore_n 2, 1) := by decide +kernel
theorem dX3_reckon_45 : decode cX3_reckon 45 = .ok (.aload_n 0, 1) := by decide +kernel
theorem dX3_reckon_46 : decode cX3_reckon 46 = .ok (.getfield 37, 3) := by decide +kernel
theorem dX3_reckon_49 : decode cX3_reckon 49 = .ok (.aload_n 0, 1) := by decide +kernel
theorem dX3_reckon_50 : decode cX3_reckon 50 = .ok (.getfield 40, 3) := by decide +kernel
theorem dX3_reckon_53 : decode cX3_reckon 53 = .ok (.iaload, 1) := by decide +kernel
theorem dX3_reckon_54 : decode cX3_reckon 54 = .ok (.istore_n 3, 1) := by decide +kernel
theorem dX3_reckon_55 : decode cX3_reckon 55 = .ok (.iload_n 1, 1) := by decide +kernel
theorem dX3_reckon_56 : decode cX3_reckon 56 = .ok (.bipush 43, 2) := by decide +kernel
theorem dX3_reckon_58 : decode cX3_reckon 58 = .ok (.if_icmp .ne 20, 3) := by decide +kernel
theorem dX3_reckon_61 : decode cX3_reckon 61 = .ok (.aload_n 0, 1) := by decide +kernel
theorem dX3_reckon_62 : decode cX3_reckon 62 = .ok (.getfield 37, 3) := by decide +kernel
theorem dX3_reckon_65 : decode cX3_reckon 65 = .ok (.aload_n 0, 1) := by decide +kernel
theorem dX3_reckon_66 : decode cX3_reckon 66 = .ok (.getfield 40, 3) := by decide +kernel
theorem dX3_reckon_69 : decode cX3_reckon 69 = .ok (.iconst 1, 1) := by decide +kernel
theorem dX3_reckon_70 : decode cX3_reckon 70 = .ok (.isub, 1) := by decide +kernel
theorem dX3_reckon_71 : decode cX3_reckon 71 = .ok (.iload_n 2, 1) := by decide +kernel
theorem dX3_reckon_72 : decode cX3_reckon 72 = .ok (.iload_n 3, 1) := by decide +kernel
theorem dX3_reckon_73 : decode cX3_reckon 73 = .ok (.iadd, 1) := by decide +kernel
theorem dX3_reckon_74 : decode cX3_reckon 74 = .ok (.iastore, 1) := by decide +kernel
theorem dX3_reckon_75 : decode cX3_reckon 75 = .ok (.goto 87, 3) := by decide +kernel
theorem dX3_reckon_78 : decode cX3_reckon 78 = .ok (.iload_n 1, 1) := by decide +kernel
theorem dX3_reckon_79 : decode cX3_reckon 79 = .ok (.bipush 45, 2) := by decide +kernel
theorem dX3_reckon_81 : decode cX3_reckon 81 = .ok (.if_icmp .ne 20, 3) := by decide +kernel
theorem dX3_reckon_84 : decode cX3_reckon 84 = .ok (.aload_n 0, 1) := by decide +kernel
theorem dX3_reckon_85 : decode cX3_reckon 85 = .ok (.getfield 37, 3) := by decide +kernel
theorem dX3_reckon_88 : decode cX3_reckon 88 = .ok (.aload_n 0, 1) := by decide +kernel
theorem dX3_reckon_89 : decode cX3_reckon 89 = .ok (.getfield 40, 3) := by decide +kernel
theorem dX3_reckon_92 : decode cX3_reckon 92 = .ok (.iconst 1, 1) := by decide +kernel
theorem dX3_reckon_93 : decode cX3_reckon 93 = .ok (.isub, 1) := by decide +kernel
theorem dX3_reckon_94 : decode cX3_reckon 94 = .ok (.iload_n 2, 1) := by decide +kernel
theorem dX3_reckon_95 : decode cX3_reckon 95 = .ok (.iload_n 3, 1) := by decide +kernel
theorem dX3_reckon_96 : decode cX3_reckon 96 = .ok (.isub, 1) := by decide +kernel
theorem dX3_reckon_97 : decode cX3_reckon 97 = .ok (.iastore, 1) := by decide +kernel
theorem dX3_reckon_98 : decode cX3_reckon 98 = .ok (.goto 64, 3) := by decide +kernel
theorem dX3_reckon_101 : decode cX3_reckon 101 = .ok (.iload_n 1, 1) := by decide +kernel
theorem dX3_reckon_102 : decode cX3_reckon 102 = .ok (.bipush 42, 2) := by decide +kernel
theorem dX3_reckon_104 : decode cX3_reckon 104 = .ok (.if_icmp .ne 20, 3) := by decide +kernel
theorem dX3_reckon_107 : decode cX3_reckon 107 = .ok (.aload_n 0, 1) := by decide +kernel
theorem dX3_reckon_108 : decode cX3_reckon 108 = .ok (.getfield 37, 3) := by decide +kernel
theorem dX3_reckon_111 : decode cX3_reckon 111 = .ok (.aload_n 0, 1) := by decide +kernel
theorem dX3_reckon_112 : decode cX3_reckon 112 = .ok (.getfield 40, 3) := by decide +kernel
theorem dX3_reckon_115 : decode cX3_reckon 115 = .ok (.iconst 1, 1) := by decide +kernel
theorem dX3_reckon_116 : decode cX3_reckon 116 = .ok (.isub, 1) := by decide +kernel
theorem dX3_reckon_117 : decode cX3_reckon 117 = .ok (.iload_n 2, 1) := by decide +kernel
theorem dX3_reckon_118 : decode cX3_reckon 118 = .ok (.iload_n 3, 1) := by decide +kernel
theorem dX3_reckon_119 : decode cX3_reckon 119 = .ok (.imul, 1) := by decide +kernel
theorem dX3_reckon_120 : decode cX3_reckon 120 = .ok (.iastore, 1) := by decide +kernel
theorem dX3_reckon_121 : decode cX3_reckon 121 = .ok (.goto 41, 3) := by decide +kernel
theorem dX3_reckon_124 : decode cX3_reckon 124 = .ok (.iload_n 3, 1) := by decide +kernel
theorem dX3_reckon_125 : decode cX3_reckon 125 = .ok (.ifCond .ne 11, 3) := by decide +kernel
theorem dX3_reckon_128 : decode cX3_reckon 128 = .ok (.aload_n 0, 1) := by decide +kernel
theorem dX3_reckon_129 : decode cX3_reckon 129 = .ok (.iconst 1, 1) := by decide +kernel
theorem dX3_reckon_130 : decode cX3_reckon 130 = .ok (.putfield 47, 3) := by decide +kernel
theorem dX3_reckon_133 : decode cX3_reckon 133 = .ok (.goto 29, 3) := by decide +kernel
theorem dX3_reckon_136 : decode cX3_reckon 136 = .ok (.aload_n 0, 1) := by decide +kernel
theorem dX3_reckon_137 : decode cX3_reckon 137 = .ok (.getfield 37, 3) := by decide +kernel
theorem dX3_reckon_140 : decode cX3_reckon 140 = .ok (.aload_n 0, 1) := by decide +kernel
theorem dX3_reckon_141 : decode cX3_reckon 141 = .ok (.getfield 40, 3) := by decide +kernel
theorem dX3_reckon_144 : decode cX3_reckon 144 = .ok (.iconst 1, 1) := by decide +kernel
theorem dX3_reckon_145 : decode cX3_reckon 145 = .ok (.isub, 1) := by decide +kernel
theorem dX3_reckon_146 : decode cX3_reckon 146 = .ok (.iload_n 1, 1) := by decide +kernel
theorem dX3_reckon_147 : decode cX3_reckon 147 = .ok (.bipush 47, 2) := by decide +kernel
theorem dX3_reckon_149 : decode cX3_reckon 149 = .ok (.if_icmp .ne 9, 3) := by decide +kernel
theorem dX3_reckon_152 : decode cX3_reckon 152 = .ok (.iload_n 2, 1) := by decide +kernel
theorem dX3_reckon_153 : decode cX3_reckon 153 = .ok (.iload_n 3, 1) := by decide +kernel
theorem dX3_reckon_154 : decode cX3_reckon 154 = .ok (.idiv, 1) := by decide +kernel
theorem dX3_reckon_155 : decode cX3_reckon 155 = .ok (.goto 6, 3) := by decide +kernel
theorem dX3_reckon_158 : decode cX3_reckon 158 = .ok (.iload_n 2, 1) := by decide +kernel
theorem dX3_reckon_159 : decode cX3_reckon 159 = .ok (.iload_n 3, 1) := by decide +kernel
theorem dX3_reckon_160 : decode cX3_reckon 160 = .ok (.irem, 1) := by decide +kernel
theorem dX3_reckon_161 : decode cX3_reckon 161 = .ok (.iastore, 1) := by decide +kernel
theorem dX3_reckon_162 : decode cX3_reckon 162 = .ok (.return_, 1) := by decide +kernel
def f_X3_reckon (S0 : Gr) (x1 : Int32) : Option (Gr) := if (S0.1 9) < 2 then (lt' (sI S0 11 1) fun S0_2 => some S0_2) else (if (S0.1 9) ≤ 32 then (lt' (sI S0 9 ((S0.1 9) - 1)) fun S0_4 => rd' (S0_4.2 8) 32 ((S0_4.1 9) - 1) fun v5 => rd' (S0_4.2 8) 32 (S0_4.1 9) fun v6 => if x1 = 43 then (ck' 32 ((S0_4.1 9) - 1) (lt' (sA S0_4 8 (Int32.toNatClampNeg ((S0_4.1 9) - 1)) (v5 + v6)) fun S0_19 => some S0_19)) else (if x1 = 45 then (ck' 32 ((S0_4.1 9) - 1) (lt' (sA S0_4 8 (Int32.toNatClampNeg ((S0_4.1 9) - 1)) (v5 - v6)) fun S0_18 => some S0_18)) else (if x1 = 42 then (ck' 32 ((S0_4.1 9) - 1) (lt' (sA S0_4 8 (Int32.toNatClampNeg ((S0_4.1 9) - 1)) (v5 * v6)) fun S0_17 => some S0_17)) else (if v6 = 0 then (lt' (sI S0_4 11 1) fun S0_16 => some S0_16) else (if x1 = 47 then (dz' v6 (lt' (v5 / v6) fun v14 => ck' 32 ((S0_4.1 9) - 1) (lt' (sA S0_4 8 (Int32.toNatClampNeg ((S0_4.1 9) - 1)) v14) fun S0_15 => some S0_15))) else (dz' v6 (lt' (v5 - v5 / v6 * v6) fun v12 => ck' 32 ((S0_4.1 9) - 1) (lt' (sA S0_4 8 (Int32.toNatClampNeg ((S0_4.1 9) - 1)) v12) fun S0_13 => some S0_13)))))))) else (lt' (sI S0 11 1) fun S0_20 => some S0_20))
set_option maxHeartbeats 4000000 in
set_option maxRecDepth 100000 in
theorem c_X3_reckon (l : Launch) (E : Ec) (q0 : Nat → Nat) (sz : Nat) (S0 : Gr) (x1 : Int32) (Rv : Gr) (h : f_X3_reckon S0 x1 = some Rv) : Met l yX3_reckon (wsM (.code yX3_reckon cX3_reckon 4 none)) ({ frames := 0, cells := 0, slots := 0, locals := 0 } : Room) (va_Pc [.ref (q0 0), .int x1] (ctP E (cw_X3 E q0 S0) sz)) (ctV E (cw_X3 E q0 S0) (cw_X3 E q0 Rv) sz) 0 0 (va_A (cw_X3 E q0 S0) sz) := by
  refine ct_metV (by decide) (Nat.le_of_ble_eq_true rfl) ?_
  intro p e s m ar below meth c A QM hx hb hml hown hg X hP hD hS RET ls hl
  have hown : s.vm.findClass RX3 = some m.cls := hown
  have hl : lv_has ls 4 [(0, .ref (q0 0)), (1, .int x1)] := hl
  have RT : ∀ (S0 : Gr) (H : Heap) (locs : List Loc) (ls : Array Slot) (pc : Nat), some S0 = some Rv → va_P E.1 vwCl (cw_X3 E q0 S0) H → va_D A (cw_X3 E q0 S0) → va_S A s.heap H locs → decode cX3_reckon pc = .ok (.return_, 1) → W p l e ({ frames := 0, cells := 0, slots := 0, locals := 0 } : Room) s m ar below meth c H locs 0 0 QM (F0 m pc ls []) := by
    intro S0 H locs ls pc e hP hD hS d
    obtain rfl := sm_e e
    exact RET H locs pc ls hP hD hS d
  clear RET
  obtain ⟨H, eH⟩ : ∃ z, z = s.heap := ⟨_, rfl⟩
  rw [← eH]
  have hP : va_P E.1 vwCl (cw_X3 E q0 S0) H := by rw [eH]; exact hP
  have hS : va_S A s.heap H [] := by rw [eH]; exact hS
  clear eH
  obtain ⟨locs, el⟩ : ∃ z : List Loc, z = [] := ⟨_, rfl⟩
  rw [← el] at hS ⊢
  clear el
  refine lv_aload_n hx hb dX3_reckon_0 rfl (lv_at hl 0 rfl) ?_
  refine va_get (D := E.1) (ci := 2) (v := .int (S0.1 9)) (C := RX3) (T := TX3) (N := 12) hx hb hg in_X3 hown X.1 hP 0 rfl rfl 9 (by decide) (hg _ wf_X3_40) (fun _ h9 => h9) rfl dX3_reckon_1 ?_
  refine lv_iconst (v := 2) hx hb dX3_reckon_4 (by decide) ?_
  refine lv_icmp_lt (tgt := 17) hx hb dX3_reckon_5 (by decide) (fun c1 => ?_) (fun c1 => ?_)
  · have h := it_t h c1
    refine lv_aload_n hx hb dX3_reckon_17 rfl (lv_at hl 0 rfl) ?_
    refine lv_iconst (v := 1) hx hb dX3_reckon_18 (by decide) ?_
    obtain ⟨S0_2, eS, h⟩ := lt_el h
    refine va_put (D := E.1) (ci := 2) (v := .int 1) (ty := .boolean) (C := RX3) (T := TX3) (N := 12) hx hb hg in_X3 tyX3 tyX3_ok nmX3 hown X.1 hP hD hS 0 rfl rfl 11 (by decide) (hg _ wf_X3_47) (fun _ h9 => h9) rfl (by decide +kernel) (by decide +kernel) (by decide +kernel) (Nat.le_of_ble_eq_true rfl) dX3_reckon_19 (fun H locs hP hD hS => ?_)
    have hP : va_P E.1 vwCl (cw_X3 E q0 S0_2) H := by rw [eS]; exact hP
    have hD : va_D A (cw_X3 E q0 S0_2) := by rw [eS]; exact hD
    clear eS
    exact RT S0_2 _ _ _ _ h hP hD hS dX3_reckon_22
  · have h := it_f h c1
    refine lv_aload_n hx hb dX3_reckon_8 rfl (lv_at hl 0 rfl) ?_
    refine va_get (D := E.1) (ci := 2) (v := .int (S0.1 9)) (C := RX3) (T := TX3) (N := 12) hx hb hg in_X3 hown X.1 hP 0 rfl rfl 9 (by decide) (hg _ wf_X3_40) (fun _ h9 => h9) rfl dX3_reckon_9 ?_
    refine lv_bipush (v := 32) hx hb dX3_reckon_12 (by decide) ?_
    refine lv_icmp_le (tgt := 23) hx hb dX3_reckon_14 (by decide) (fun c3 => ?_) (fun c3 => ?_)
    · have h := it_t h c3
      refine lv_aload_n hx hb dX3_reckon_23 rfl (lv_at hl 0 rfl) ?_
      refine lv_dup hx hb dX3_reckon_24 rfl ?_
      refine va_get (D := E.1) (ci := 2) (v := .int (S0.1 9)) (C := RX3) (T := TX3) (N := 12) hx hb hg in_X3 hown X.1 hP 0 rfl rfl 9 (by decide) (hg _ wf_X3_40) (fun _ h9 => h9) rfl dX3_reckon_25 ?_
      refine lv_iconst (v := 1) hx hb dX3_reckon_28 (by decide) ?_
      refine lv_isub hx hb dX3_reckon_29 ?_
      obtain ⟨S0_4, eS, h⟩ := lt_el h
      refine va_put (D := E.1) (ci := 2) (v := .int ((S0.1 9) - 1)) (ty := .int) (C := RX3) (T := TX3) (N := 12) hx hb hg in_X3 tyX3 tyX3_ok nmX3 hown X.1 hP hD hS 0 rfl rfl 9 (by decide) (hg _ wf_X3_40) (fun _ h9 => h9) rfl (by decide +kernel) rfl rfl (Nat.le_of_ble_eq_true rfl) dX3_reckon_30 (fun H locs hP hD hS => ?_)
      have hP : va_P E.1 vwCl (cw_X3 E q0 S0_4) H := by rw [eS]; exact hP
      have hD : va_D A (cw_X3 E q0 S0_4) := by rw [eS]; exact hD
      clear eS
      refine lv_aload_n hx hb dX3_reckon_33 rfl (lv_at hl 0 rfl) ?_
      refine va_get (D := E.1) (ci := 2) (v := .ref (q0 7)) (C := RX3) (T := TX3) (N := 12) hx hb hg in_X3 hown X.1 hP 0 rfl rfl 8 (by decide) (hg _ wf_X3_37) (fun _ h9 => h9) rfl dX3_reckon_34 ?_
      refine lv_aload_n hx hb dX3_reckon_37 rfl (lv_at hl 0 rfl) ?_
      refine va_get (D := E.1) (ci := 2) (v := .int (S0_4.1 9)) (C := RX3) (T := TX3) (N := 12) hx hb hg in_X3 hown X.1 hP 0 rfl rfl 9 (by decide) (hg _ wf_X3_40) (fun _ h9 => h9) rfl dX3_reckon_38 ?_
      refine lv_iconst (v := 1) hx hb dX3_reckon_41 (by decide) ?_
      refine lv_isub hx hb dX3_reckon_42 ?_
      obtain ⟨hi, v5, ev5, h⟩ := rd_el h
      refine va_iald hx hb X.1 hP 7 0 rfl rfl hi dX3_reckon_43 ?_
      refine lv_top' ev5 ?_
      refine lv_istore_n (lv' := [(2, .int v5), (0, .ref (q0 0)), (1, .int x1)]) hx hb dX3_reckon_44 rfl hl (by decide) rfl (fun ls hl => ?_)
      refine lv_aload_n hx hb dX3_reckon_45 rfl (lv_at hl 1 rfl) ?_
      refine va_get (D := E.1) (ci := 2) (v := .ref (q0 7)) (C := RX3) (T := TX3) (N := 12) hx hb hg in_X3 hown X.1 hP 0 rfl rfl 8 (by decide) (hg _ wf_X3_37) (fun _ h9 => h9) rfl dX3_reckon_46 ?_
      refine lv_aload_n hx hb dX3_reckon_49 rfl (lv_at hl 1 rfl) ?_
      refine va_get (D := E.1) (ci := 2) (v := .int (S0_4.1 9)) (C := RX3) (T := TX3) (N := 12) hx hb hg in_X3 hown X.1 hP 0 rfl rfl 9 (by decide) (hg _ wf_X3_40) (fun _ h9 => h9) rfl dX3_reckon_50 ?_
      obtain ⟨hi, v6, ev6, h⟩ := rd_el h
      refine va_iald hx hb X.1 hP 7 0 rfl rfl hi dX3_reckon_53 ?_
      refine lv_top' ev6 ?_
      refine lv_istore_n (lv' := [(3, .int v6), (2, .int v5), (0, .ref (q0 0)), (1, .int x1)]) hx hb dX3_reckon_54 rfl hl (by decide) rfl (fun ls hl => ?_)
      refine lv_iload_n hx hb dX3_reckon_55 rfl (lv_at hl 3 rfl) ?_
      refine lv_bipush (v := 43) hx hb dX3_reckon_56 (by decide) ?_
      refine lv_icmp_ne (tgt := 78) hx hb dX3_reckon_58 (by decide) (fun c7 => ?_) (fun c7 => ?_)
      · have h := it_f h c7
        refine lv_iload_n hx hb dX3_reckon_78 rfl (lv_at hl 3 rfl) ?_
        refine lv_bipush (v := 45) hx hb dX3_reckon_79 (by decide) ?_
        refine lv_icmp_ne (tgt := 101) hx hb dX3_reckon_81 (by decide) (fun c8 => ?_) (fun c8 => ?_)
        · have h := it_f h c8
          refine lv_iload_n hx hb dX3_reckon_101 rfl (lv_at hl 3 rfl) ?_
          refine lv_bipush (v := 42) hx hb dX3_reckon_102 (by decide) ?_
          refine lv_icmp_ne (tgt := 124) hx hb dX3_reckon_104 (by decide) (fun c9 => ?_) (fun c9 => ?_)
          · have h := it_f h c9
            refine lv_iload_n hx hb dX3_reckon_124 rfl (lv_at hl 0 rfl) ?_
            refine lv_if_ne (tgt := 136) hx hb dX3_reckon_125 (by decide) (fun c10 => ?_) (fun c10 => ?_)
            · have h := it_f h c10
              refine lv_aload_n hx hb dX3_reckon_136 rfl (lv_at hl 2 rfl) ?_
              refine va_get (D := E.1) (ci := 2) (v := .ref (q0 7)) (C := RX3) (T := TX3) (N := 12) hx hb hg in_X3 hown X.1 hP 0 rfl rfl 8 (by decide) (hg _ wf_X3_37) (fun _ h9 => h9) rfl dX3_reckon_137 ?_
              refine lv_aload_n hx hb dX3_reckon_140 rfl (lv_at hl 2 rfl) ?_
              refine va_get (D := E.1) (ci := 2) (v := .int (S0_4.1 9)) (C := RX3) (T := TX3) (N := 12) hx hb hg in_X3 hown X.1 hP 0 rfl rfl 9 (by decide) (hg _ wf_X3_40) (fun _ h9 => h9) rfl dX3_reckon_141 ?_
              refine lv_iconst (v := 1) hx hb dX3_reckon_144 (by decide) ?_
              refine lv_isub hx hb dX3_reckon_145 ?_
              refine lv_iload_n hx hb dX3_reckon_146 rfl (lv_at hl 3 rfl) ?_
              refine lv_bipush (v := 47) hx hb dX3_reckon_147 (by decide) ?_
              refine lv_icmp_ne (tgt := 158) hx hb dX3_reckon_149 (by decide) (fun c11 => ?_) (fun c11 => ?_)
              · have h := it_f h c11
                refine lv_iload_n hx hb dX3_reckon_158 rfl (lv_at hl 1 rfl) ?_
                refine lv_iload_n hx hb dX3_reckon_159 rfl (lv_at hl 0 rfl) ?_
                obtain ⟨hz, h⟩ := dz_el h
                refine lv_irem hx hb dX3_reckon_160 hz ?_
                obtain ⟨v12, ev12, h⟩ := lt_el h
                refine lv_top' ev12 ?_
                obtain ⟨hi, h⟩ := ck_el h
                obtain ⟨S0_13, eS, h⟩ := lt_el h
                refine va_iast hx hb X.1 hP hD hS 7 0 rfl rfl hi dX3_reckon_161 (fun H locs hP hD hS => ?_)
                have hP : va_P E.1 vwCl (cw_X3 E q0 S0_13) H := by rw [eS]; exact hP
                have hD : va_D A (cw_X3 E q0 S0_13) := by rw [eS]; exact hD
                clear eS
                exact RT S0_13 _ _ _ _ h hP hD hS dX3_reckon_162
              · have h := it_t h c11
                refine lv_iload_n hx hb dX3_reckon_152 rfl (lv_at hl 1 rfl) ?_
                refine lv_iload_n hx hb dX3_reckon_153 rfl (lv_at hl 0 rfl) ?_
                obtain ⟨hz, h⟩ := dz_el h
                refine lv_idiv hx hb dX3_reckon_154 hz ?_
                obtain ⟨v14, ev14, h⟩ := lt_el h
                refine lv_top' ev14 ?_
                refine lv_goto (tgt := 161) hx hb dX3_reckon_155 (by decide) ?_
                obtain ⟨hi, h⟩ := ck_el h
                obtain ⟨S0_15, eS, h⟩ := lt_el h
                refine va_iast hx hb X.1 hP hD hS 7 0 rfl rfl hi dX3_reckon_161 (fun H locs hP hD hS => ?_)
                have hP : va_P E.1 vwCl (cw_X3 E q0 S0_15) H := by rw [eS]; exact hP
                have hD : va_D A (cw_X3 E q0 S0_15) := by rw [eS]; exact hD
                clear eS
                exact RT S0_15 _ _ _ _ h hP hD hS dX3_reckon_162
            · have h := it_t h c10
              refine lv_aload_n hx hb dX3_reckon_128 rfl (lv_at hl 2 rfl) ?_
              refine lv_iconst (v := 1) hx hb dX3_reckon_129 (by decide) ?_
              obtain ⟨S0_16, eS, h⟩ := lt_el h
              refine va_put (D := E.1) (ci := 2) (v := .int 1) (ty := .boolean) (C := RX3) (T := TX3) (N := 12) hx hb hg in_X3 tyX3 tyX3_ok nmX3 hown X.1 hP hD hS 0 rfl rfl 11 (by decide) (hg _ wf_X3_47) (fun _ h9 => h9) rfl (by decide +kernel) (by decide +kernel) (by decide +kernel) (Nat.le_of_ble_eq_true rfl) dX3_reckon_130 (fun H locs hP hD hS => ?_)
              have hP : va_P E.1 vwCl (cw_X3 E q0 S0_16) H := by rw [eS]; exact hP
              have hD : va_D A (cw_X3 E q0 S0_16) := by rw [eS]; exact hD
              clear eS
              refine lv_goto (tgt := 162) hx hb dX3_reckon_133 (by decide) ?_
              exact RT S0_16 _ _ _ _ h hP hD hS dX3_reckon_162
          · have h := it_t h c9
            refine lv_aload_n hx hb dX3_reckon_107 rfl (lv_at hl 2 rfl) ?_
            refine va_get (D := E.1) (ci := 2) (v := .ref (q0 7)) (C := RX3) (T := TX3) (N := 12) hx hb hg in_X3 hown X.1 hP 0 rfl rfl 8 (by decide) (hg _ wf_X3_37) (fun _ h9 => h9) rfl dX3_reckon_108 ?_
            refine lv_aload_n hx hb dX3_reckon_111 rfl (lv_at hl 2 rfl) ?_
            refine va_get (D := E.1) (ci := 2) (v := .int (S0_4.1 9)) (C := RX3) (T := TX3) (N := 12) hx hb hg in_X3 hown X.1 hP 0 rfl rfl 9 (by decide) (hg _ wf_X3_40) (fun _ h9 => h9) rfl dX3_reckon_112 ?_
            refine lv_iconst (v := 1) hx hb dX3_reckon_115 (by decide) ?_
            refine lv_isub hx hb dX3_reckon_116 ?_
            refine lv_iload_n hx hb dX3_reckon_117 rfl (lv_at hl 1 rfl) ?_
            refine lv_iload_n hx hb dX3_reckon_118 rfl (lv_at hl 0 rfl) ?_
            refine lv_imul hx hb dX3_reckon_119 ?_
            obtain ⟨hi, h⟩ := ck_el h
            obtain ⟨S0_17, eS, h⟩ := lt_el h
            refine va_iast hx hb X.1 hP hD hS 7 0 rfl rfl hi dX3_reckon_120 (fun H locs hP hD hS => ?_)
            have hP : va_P E.1 vwCl (cw_X3 E q0 S0_17) H := by rw [eS]; exact hP
            have hD : va_D A (cw_X3 E q0 S0_17) := by rw [eS]; exact hD
            clear eS
            refine lv_goto (tgt := 162) hx hb dX3_reckon_121 (by decide) ?_
            exact RT S0_17 _ _ _ _ h hP hD hS dX3_reckon_162
        · have h := it_t h c8
          refine lv_aload_n hx hb dX3_reckon_84 rfl (lv_at hl 2 rfl) ?_
          refine va_get (D := E.1) (ci := 2) (v := .ref (q0 7)) (C := RX3) (T := TX3) (N := 12) hx hb hg in_X3 hown X.1 hP 0 rfl rfl 8 (by decide) (hg _ wf_X3_37) (fun _ h9 => h9) rfl dX3_reckon_85 ?_
          refine lv_aload_n hx hb dX3_reckon_88 rfl (lv_at hl 2 rfl) ?_
          refine va_get (D := E.1) (ci := 2) (v := .int (S0_4.1 9)) (C := RX3) (T := TX3) (N := 12) hx hb hg in_X3 hown X.1 hP 0 rfl rfl 9 (by decide) (hg _ wf_X3_40) (fun _ h9 => h9) rfl dX3_reckon_89 ?_
          refine lv_iconst (v := 1) hx hb dX3_reckon_92 (by decide) ?_
          refine lv_isub hx hb dX3_reckon_93 ?_
          refine lv_iload_n hx hb dX3_reckon_94 rfl (lv_at hl 1 rfl) ?_
          refine lv_iload_n hx hb dX3_reckon_95 rfl (lv_at hl 0 rfl) ?_
          refine lv_isub hx hb dX3_reckon_96 ?_
          obtain ⟨hi, h⟩ := ck_el h
          obtain ⟨S0_18, eS, h⟩ := lt_el h
          refine va_iast hx hb X.1 hP hD hS 7 0 rfl rfl hi dX3_reckon_97 (fun H locs hP hD hS => ?_)
          have hP : va_P E.1 vwCl (cw_X3 E q0 S0_18) H := by rw [eS]; exact hP
          have hD : va_D A (cw_X3 E q0 S0_18) := by rw [eS]; exact hD
          clear eS
          refine lv_goto (tgt := 162) hx hb dX3_reckon_98 (by decide) ?_
          exact RT S0_18 _ _ _ _ h hP hD hS dX3_reckon_162
      · have h := it_t h c7
        refine lv_aload_n hx hb dX3_reckon_61 rfl (lv_at hl 2 rfl) ?_
        refine va_get (D := E.1) (ci := 2) (v := .ref (q0 7)) (C := RX3) (T := TX3) (N := 12) hx hb hg in_X3 hown X.1 hP 0 rfl rfl 8 (by decide) (hg _ wf_X3_37) (fun _ h9 => h9) rfl dX3_reckon_62 ?_
        refine lv_aload_n hx hb dX3_reckon_65 rfl (lv_at hl 2 rfl) ?_
        refine va_get (D := E.1) (ci := 2) (v := .int (S0_4.1 9)) (C := RX3) (T := TX3) (N := 12) hx hb hg in_X3 hown X.1 hP 0 rfl rfl 9 (by decide) (hg _ wf_X3_40) (fun _ h9 => h9) rfl dX3_reckon_66 ?_
        refine lv_iconst (v := 1) hx hb dX3_reckon_69 (by decide) ?_
        refine lv_isub hx hb dX3_reckon_70 ?_
        refine lv_iload_n hx hb dX3_reckon_71 rfl (lv_at hl 1 rfl) ?_
        refine lv_iload_n hx hb dX3_reckon_72 rfl (lv_at hl 0 rfl) ?_
        refine lv_iadd hx hb dX3_reckon_73 ?_
        obtain ⟨hi, h⟩ := ck_el h
        obtain ⟨S0_19, eS, h⟩ := lt_el h
        refine va_iast hx hb X.1 hP hD hS 7 0 rfl rfl hi dX3_reckon_74 (fun H locs hP hD hS => ?_)
        have hP : va_P E.1 vwCl (cw_X3 E q0 S0_19) H := by rw [eS]; exact hP
        have hD : va_D A (cw_X3 E q0 S0_19) := by rw [eS]; exact hD
        clear eS
        refine lv_goto (tgt := 162) hx hb dX3_reckon_75 (by decide) ?_
        exact RT S0_19 _ _ _ _ h hP hD hS dX3_reckon_162
    · have h := it_f h c3
      refine lv_aload_n hx hb dX3_reckon_17 rfl (lv_at hl 0 rfl) ?_
      refine lv_iconst (v := 1) hx hb dX3_reckon_18 (by decide) ?_
      obtain ⟨S0_20, eS, h⟩ := lt_el h
      refine va_put (D := E.1) (ci := 2) (v := .int 1) (ty := .boolean) (C := RX3) (T := TX3) (N := 12) hx hb hg in_X3 tyX3 tyX3_ok nmX3 hown X.1 hP hD hS 0 rfl rfl 11 (by decide) (hg _ wf_X3_47) (fun _ h9 => h9) rfl (by decide +kernel) (by decide +kernel) (by decide +kernel) (Nat.le_of_ble_eq_true rfl) dX3_reckon_19 (fun H locs hP hD hS => ?_)
      have hP : va_P E.1 vwCl (cw_X3 E q0 S0_20) H := by rw [eS]; exact hP
      have hD : va_D A (cw_X3 E q0 S0_20) := by rw [eS]; exact hD
      clear eS
      exact RT S0_20 _ _ _ _ h hP hD hS dX3_reckon_22
theorem dX3_run_0 : decode cX3_run 0 = .ok (.aload_n 0, 1) := by decide +kernel
theorem dX3_run_1 : decode cX3_run 1 = .ok (.iconst 0, 1) := by decide +kernel
theorem dX3_run_2 : decode cX3_run 2 = .ok (.putfield 40, 3) := by decide +kernel
theorem dX3_run_5 : decode cX3_run 5 = .ok (.aload_n 0, 1) := by decide +kernel
theorem dX3_run_6 : decode cX3_run 6 = .ok (.iconst 0, 1) := by decide +kernel
theorem dX3_run_7 : decode cX3_run 7 = .ok (.putfield 43, 3) := by decide +kernel
theorem dX3_run_10 : decode cX3_run 10 = .ok (.aload_n 0, 1) := by decide +kernel
theorem dX3_run_11 : decode cX3_run 11 = .ok (.iconst 0, 1) := by decide +kernel
theorem dX3_run_12 : decode cX3_run 12 = .ok (.putfield 47, 3) := by decide +kernel
theorem dX3_run_15 : decode cX3_run 15 = .ok (.iload_n 1, 1) := by decide +kernel
theorem dX3_run_16 : decode cX3_run 16 = .ok (.istore_n 2, 1) := by decide +kernel
theorem dX3_run_17 : decode cX3_run 17 = .ok (.iconst 0, 1) := by decide +kernel
theorem dX3_run_18 : decode cX3_run 18 = .ok (.istore_n 3, 1) := by decide +kernel
theorem dX3_run_19 : decode cX3_run 19 = .ok (.iload_n 3, 1) := by decide +kernel
theorem dX3_run_20 : decode cX3_run 20 = .ok (.aload_n 0, 1) := by decide +kernel
theorem dX3_run_21 : decode cX3_run 21 = .ok (.getfield 25, 3) := by decide +kernel
theorem dX3_run_24 : decode cX3_run 24 = .ok (.if_icmp .ge 240, 3) := by decide +kernel
theorem dX3_run_27 : decode cX3_run 27 = .ok (.aload_n 0, 1) := by decide +kernel
theorem dX3_run_28 : decode cX3_run 28 = .ok (.getfield 47, 3) := by decide +kernel
theorem dX3_run_31 : decode cX3_run 31 = .ok (.ifCond .ne 233, 3) := by decide +kernel
theorem dX3_run_34 : decode cX3_run 34 = .ok (.iload_n 2, 1) := by decide +kernel
theorem dX3_run_35 : decode cX3_run 35 = .ok (.ifCond .lt 229, 3) := by decide +kernel
theorem dX3_run_38 : decode cX3_run 38 = .ok (.iload_n 2, 1) := by decide +kernel
theorem dX3_run_39 : decode cX3_run 39 = .ok (.aload_n 0, 1) := by decide +kernel
theorem dX3_run_40 : decode cX3_run 40 = .ok (.getfield 25, 3) := by decide +kernel
theorem dX3_run_43 : decode cX3_run 43 = .ok (.if_icmp .ge 221, 3) := by decide +kernel
theorem dX3_run_46 : decode cX3_run 46 = .ok (.aload_n 0, 1) := by decide +kernel
theorem dX3_run_47 : decode cX3_run 47 = .ok (.getfield 28, 3) := by decide +kernel
theorem dX3_run_50 : decode cX3_run 50 = .ok (.iload_n 2, 1) := by decide +kernel
theorem dX3_run_51 : decode cX3_run 51 = .ok (.iaload, 1) := by decide +kernel
theorem dX3_run_52 : decode cX3_run 52 = .ok (.istore 4, 2) := by decide +kernel
theorem dX3_run_54 : decode cX3_run 54 = .ok (.aload_n 0, 1) := by decide +kernel
theorem dX3_run_55 : decode cX3_run 55 = .ok (.getfield 31, 3) := by decide +kernel
theorem dX3_run_58 : decode cX3_run 58 = .ok (.iload_n 2, 1) := by decide +kernel
theorem dX3_run_59 : decode cX3_run 59 = .ok (.iaload, 1) := by decide +kernel
theorem dX3_run_60 : decode cX3_run 60 = .ok (.istore 5, 2) := by decide +kernel
theorem dX3_run_62 : decode cX3_run 62 = .ok (.iinc 2 1, 3) := by decide +kernel
theorem dX3_run_65 : decode cX3_run 65 = .ok (.iload 4, 2) := by decide +kernel
theorem dX3_run_67 : decode cX3_run 67 = .ok (.lookupswitch 185 #[(33, 123), (38, 142), (46, 81), (60, 176), (61, 176), (62, 176), (108, 91), (110, 82), (124, 159)], 81) := by decide +kernel
theorem dX3_run_148 : decode cX3_run 148 = .ok (.return_, 1) := by decide +kernel
theorem dX3_run_149 : decode cX3_run 149 = .ok (.aload_n 0, 1) := by decide +kernel
theorem dX3_run_150 : decode cX3_run 150 = .ok (.iload 5, 2) := by decide +kernel
theorem dX3_run_152 : decode cX3_run 152 = .ok (.invokevirtual 78, 3) := by decide +kernel
theorem dX3_run_155 : decode cX3_run 155 = .ok (.goto 103, 3) := by decide +kernel
theorem dX3_run_158 : decode cX3_run 158 = .ok (.aload_n 0, 1) := by decide +kernel
theorem dX3_run_159 : decode cX3_run 159 = .ok (.iload 5, 2) := by decide +kernel
theorem dX3_run_161 : decode cX3_run 161 = .ok (.ifCond .lt 22, 3) := by decide +kernel
theorem dX3_run_164 : decode cX3_run 164 = .ok (.iload 5, 2) := by decide +kernel
theorem dX3_run_166 : decode cX3_run 166 = .ok (.getstatic 58, 3) := by decide +kernel
theorem dX3_run_169 : decode cX3_run 169 = .ok (.arraylength, 1) := by decide +kernel
theorem dX3_run_170 : decode cX3_run 170 = .ok (.if_icmp .ge 13, 3) := by decide +kernel
theorem dX3_run_173 : decode cX3_run 173 = .ok (.aload_n 0, 1) := by decide +kernel
theorem dX3_run_174 : decode cX3_run 174 = .ok (.getfield 34, 3) := by decide +kernel
theorem dX3_run_177 : decode cX3_run 177 = .ok (.iload 5, 2) := by decide +kernel
theorem dX3_run_179 : decode cX3_run 179 = .ok (.iaload, 1) := by decide +kernel
theorem dX3_run_180 : decode cX3_run 180 = .ok (.goto 4, 3) := by decide +kernel
theorem dX3_run_183 : decode cX3_run 183 = .ok (.iconst 0, 1) := by decide +kernel
theorem dX3_run_184 : decode cX3_run 184 = .ok (.invokevirtual 78, 3) := by decide +kernel
theorem dX3_run_187 : decode cX3_run 187 = .ok (.goto 71, 3) := by decide +kernel
theorem dX3_run_190 : decode cX3_run 190 = .ok (.aload_n 0, 1) := by decide +kernel
theorem dX3_run_191 : decode cX3_run 191 = .ok (.aload_n 0, 1) := by decide +kernel
theorem dX3_run_192 : decode cX3_run 192 = .ok (.getfield 43, 3) := by decide +kernel
theorem dX3_run_195 : decode cX3_run 195 = .ok (.ifCond .ne 7, 3) := by decide +kernel
theorem dX3_run_198 : decode cX3_run 198 = .ok (.iconst 1, 1) := by decide +kernel
theorem dX3_run_199 : decode cX3_run 199 = .ok (.goto 4, 3) := by decide +kernel
theorem dX3_run_202 : decode cX3_run 202 = .ok (.iconst 0, 1) := by decide +kernel
theorem dX3_run_203 : decode cX3_run 203 = .ok (.putfield 43, 3) := by decide +kernel
theorem dX3_run_206 : decode cX3_run 206 = .ok (.goto 52, 3) := by decide +kernel
theorem dX3_run_209 : decode cX3_run 209 = .ok (.aload_n 0, 1) := by decide +kernel
theorem dX3_run_210 : decode cX3_run 210 = .ok (.getfield 43, 3) := by decide +kernel
theorem dX3_run_213 : decode cX3_run 213 = .ok (.ifCond .eq 7, 3) := by decide +kernel
theorem dX3_run_216 : decode cX3_run 216 = .ok (.iload_n 2, 1) := by decide +kernel
theorem dX3_run_217 : decode cX3_run 217 = .ok (.goto 5, 3) := by decide +kernel
theorem dX3_run_220 : decode cX3_run 220 = .ok (.iload 5, 2) := by decide +kernel
theorem dX3_run_222 : decode cX3_run 222 = .ok (.istore_n 2, 1) := by decide +kernel
theorem dX3_run_223 : decode cX3_run 223 = .ok (.goto 35, 3) := by decide +kernel
theorem dX3_run_226 : decode cX3_run 226 = .ok (.aload_n 0, 1) := by decide +kernel
theorem dX3_run_227 : decode cX3_run 227 = .ok (.getfield 43, 3) := by decide +kernel
theorem dX3_run_230 : decode cX3_run 230 = .ok (.ifCond .eq 8, 3) := by decide +kernel
theorem dX3_run_233 : decode cX3_run 233 = .ok (.iload 5, 2) := by decide +kernel
theorem dX3_run_235 : decode cX3_run 235 = .ok (.goto 4, 3) := by decide +kernel
theorem dX3_run_238 : decode cX3_run 238 = .ok (.iload_n 2, 1) := by decide +kernel
theorem dX3_run_239 : decode cX3_run 239 = .ok (.istore_n 2, 1) := by decide +kernel
theorem dX3_run_240 : decode cX3_run 240 = .ok (.goto 18, 3) := by decide +kernel
theorem dX3_run_243 : decode cX3_run 243 = .ok (.aload_n 0, 1) := by decide +kernel
theorem dX3_run_244 : decode cX3_run 244 = .ok (.iload 4, 2) := by decide +kernel
theorem dX3_run_246 : decode cX3_run 246 = .ok (.invokevirtual 81, 3) := by decide +kernel
theorem dX3_run_249 : decode cX3_run 249 = .ok (.goto 9, 3) := by decide +kernel
theorem dX3_run_252 : decode cX3_run 252 = .ok (.aload_n 0, 1) := by decide +kernel
theorem dX3_run_253 : decode cX3_run 253 = .ok (.iload 4, 2) := by decide +kernel
theorem dX3_run_255 : decode cX3_run 255 = .ok (.invokevirtual 84, 3) := by decide +kernel
theorem dX3_run_258 : decode cX3_run 258 = .ok (.iinc 3 1, 3) := by decide +kernel
theorem dX3_run_261 : decode cX3_run 261 = .ok (.goto (-242), 3) := by decide +kernel
theorem dX3_run_264 : decode cX3_run 264 = .ok (.return_, 1) := by decide +kernel
def f_X3_run_n19 (x1 : Int32) : Nat → Gr → Int32 → Int32 → Option (Gr)
  | 0, _, _, _ => none
  | n + 1, S0, x2, x3 => if (S0.1 4) ≤ x3 then (some S0) else (if (S0.1 11) = 0 then (if x2 < 0 then (some S0) else (if (S0.1 4) ≤ x2 then (some S0) else (rd' (S0.2 5) 240 x2 fun v8 => rd' (S0.2 6) 240 x2 fun v9 => lt' (x2 + 1) fun v10 => if v8 = 33 then (if (S0.1 10) = 0 then (lt' (sI S0 10 1) fun S0_15 => lt' (x3 + 1) fun v16 => f_X3_run_n19 x1 n S0_15 v10 v16) else (lt' (sI S0 10 0) fun S0_13 => lt' (x3 + 1) fun v14 => f_X3_run_n19 x1 n S0_13 v10 v14)) else if v8 = 38 then (if (S0.1 10) = 0 then (lt' (x3 + 1) fun v19 => f_X3_run_n19 x1 n S0 v9 v19) else (lt' (x3 + 1) fun v20 => f_X3_run_n19 x1 n S0 v10 v20)) else if v8 = 46 then (some S0) else if v8 = 60 then ((f_X3_compare S0 v8).bind fun u23 => lt' (x3 + 1) fun v24 => f_X3_run_n19 x1 n u23 v10 v24) else if v8 = 61 then ((f_X3_compare S0 v8).bind fun u26 => lt' (x3 + 1) fun v27 => f_X3_run_n19 x1 n u26 v10 v27) else if v8 = 62 then ((f_X3_compare S0 v8).bind fun u29 => lt' (x3 + 1) fun v30 => f_X3_run_n19 x1 n u29 v10 v30) else if v8 = 108 then (if v9 < 0 then ((f_X3_heapUp S0 0).bind fun u33 => lt' (x3 + 1) fun v34 => f_X3_run_n19 x1 n u33 v10 v34) else (if 10 ≤ v9 then ((f_X3_heapUp S0 0).bind fun u36 => lt' (x3 + 1) fun v37 => f_X3_run_n19 x1 n u36 v10 v37) else (rd' (S0.2 7) 10 v9 fun v38 => (f_X3_heapUp S0 v38).bind fun u39 => lt' (x3 + 1) fun v40 => f_X3_run_n19 x1 n u39 v10 v40))) else if v8 = 110 then ((f_X3_heapUp S0 v9).bind fun u42 => lt' (x3 + 1) fun v43 => f_X3_run_n19 x1 n u42 v10 v43) else if v8 = 124 then (if (S0.1 10) = 0 then (lt' (x3 + 1) fun v46 => f_X3_run_n19 x1 n S0 v10 v46) else (lt' (x3 + 1) fun v47 => f_X3_run_n19 x1 n S0 v9 v47)) else ((f_X3_reckon S0 v8).bind fun u48 => lt' (x3 + 1) fun v49 => f_X3_run_n19 x1 n u48 v10 v49)))) else (some S0))
def f_X3_run (S0 : Gr) (x1 : Int32) : Option (Gr) := lt' (sI S0 9 0) fun S0_1 => lt' (sI S0_1 10 0) fun S0_2 => lt' (sI S0_2 11 0) fun S0_3 => f_X3_run_n19 x1 fu S0_3 x1 0
set_option maxHeartbeats 4000000 in
set_option maxRecDepth 100000 in
theorem c_X3_run (l : Launch) (E : Ec) (q0 : Nat → Nat) (sz : Nat) (S0 : Gr) (x1 : Int32) (Rv : Gr) (h : f_X3_run S0 x1 = some Rv) : Met l yX3_run (wsM (.code yX3_run cX3_run 6 none)) ({ frames := 1, cells := 0, slots := 0, locals := 23 } : Room) (va_Pc [.ref (q0 0), .int x1] (ctP E (cw_X3 E q0 S0) sz)) (ctV E (cw_X3 E q0 S0) (cw_X3 E q0 Rv) sz) 0 0 (va_A (cw_X3 E q0 S0) sz) := by
  refine ct_metV (by decide) (Nat.le_of_ble_eq_true rfl) ?_
  intro p e s m ar below meth c A QM hx hb hml hown hg X hP hD hS RET ls hl
  have hown : s.vm.findClass RX3 = some m.cls := hown
  have hl : lv_has ls 6 [(0, .ref (q0 0)), (1, .int x1)] := hl
  have RT : ∀ (S0 : Gr) (H : Heap) (locs : List Loc) (ls : Array Slot) (pc : Nat), some S0 = some Rv → va_P E.1 vwCl (cw_X3 E q0 S0) H → va_D A (cw_X3 E q0 S0) → va_S A s.heap H locs → decode cX3_run pc = .ok (.return_, 1) → W p l e ({ frames := 1, cells := 0, slots := 0, locals := 23 } : Room) s m ar below meth c H locs 0 0 QM (F0 m pc ls []) := by
    intro S0 H locs ls pc e hP hD hS d
    obtain rfl := sm_e e
    exact RET H locs pc ls hP hD hS d
  clear RET
  have N19 : ∀ (n : Nat) (S0 : Gr) (x2 : Int32) (x3 : Int32) (H : Heap) (locs : List Loc) (ls : Array Slot), f_X3_run_n19 x1 n S0 x2 x3 = some Rv → va_P E.1 vwCl (cw_X3 E q0 S0) H → va_D A (cw_X3 E q0 S0) → va_S A s.heap H locs → lv_has ls 6 [(0, .ref (q0 0)), (2, .int x2), (3, .int x3)] → W p l e ({ frames := 1, cells := 0, slots := 0, locals := 23 } : Room) s m ar below meth c H locs 0 0 QM (F0 m 19 ls []) := by
    intro n
    induction n with
    | zero => intro S0 x2 x3 H locs ls h; exact nn_el h
    | succ n ih =>
      intro S0 x2 x3 H locs ls h hP hD hS hl
      refine lv_iload_n hx hb dX3_run_19 rfl (lv_at hl 2 rfl) ?_
      refine lv_aload_n hx hb dX3_run_20 rfl (lv_at hl 0 rfl) ?_
      refine va_get (D := E.1) (ci := 2) (v := .int (S0.1 4)) (C := RX3) (T := TX3) (N := 12) hx hb hg in_X3 hown X.1 hP 0 rfl rfl 4 (by decide) (hg _ wf_X3_25) (fun _ h9 => h9) rfl dX3_run_21 ?_
      refine lv_icmp_ge (tgt := 264) hx hb dX3_run_24 (by decide) (fun c4 => ?_) (fun c4 => ?_)
      · have h := it_t h c4
        exact RT S0 _ _ _ _ h hP hD hS dX3_run_264
      · have h := it_f h c4
        refine lv_aload_n hx hb dX3_run_27 rfl (lv_at hl 0 rfl) ?_
        refine va_get (D := E.1) (ci := 2) (v := .int (S0.1 11)) (C := RX3) (T := TX3) (N := 12) hx hb hg in_X3 hown X.1 hP 0 rfl rfl 11 (by decide) (hg _ wf_X3_47) (fun _ h9 => h9) rfl dX3_run_28 ?_
        refine lv_if_ne (tgt := 264) hx hb dX3_run_31 (by decide) (fun c5 => ?_) (fun c5 => ?_)
        · have h := it_f h c5
          exact RT S0 _ _ _ _ h hP hD hS dX3_run_264
        · have h := it_t h c5
          refine lv_iload_n hx hb dX3_run_34 rfl (lv_at hl 1 rfl) ?_
          refine lv_if_lt (tgt := 264) hx hb dX3_run_35 (by decide) (fun c6 => ?_) (fun c6 => ?_)
          · have h := it_t h c6
            exact RT S0 _ _ _ _ h hP hD hS dX3_run_264
          · have h := it_f h c6
            refine lv_iload_n hx hb dX3_run_38 rfl (lv_at hl 1 rfl) ?_
            refine lv_aload_n hx hb dX3_run_39 rfl (lv_at hl 0 rfl) ?_
            refine va_get (D := E.1) (ci := 2) (v := .int (S0.1 4)) (C := RX3) (T := TX3) (N := 12) hx hb hg in_X3 hown X.1 hP 0 rfl rfl 4 (by decide) (hg _ wf_X3_25) (fun _ h9 => h9) rfl dX3_run_40 ?_
            refine lv_icmp_ge (tgt := 264) hx hb dX3_run_43 (by decide) (fun c7 => ?_) (fun c7 => ?_)
            · have h := it_t h c7
              exact RT S0 _ _ _ _ h hP hD hS dX3_run_264
            · have h := it_f h c7
              refine lv_aload_n hx hb dX3_run_46 rfl (lv_at hl 0 rfl) ?_
              refine va_get (D := E.1) (ci := 2) (v := .ref (q0 4)) (C := RX3) (T := TX3) (N := 12) hx hb hg in_X3 hown X.1 hP 0 rfl rfl 5 (by decide) (hg _ wf_X3_28) (fun _ h9 => h9) rfl dX3_run_47 ?_
              refine lv_iload_n hx hb dX3_run_50 rfl (lv_at hl 1 rfl) ?_
              obtain ⟨hi, v8, ev8, h⟩ := rd_el h
              refine va_iald hx hb X.1 hP 4 0 rfl rfl hi dX3_run_51 ?_
              refine lv_top' ev8 ?_
              refine lv_istore (lv' := [(4, .int v8), (0, .ref (q0 0)), (2, .int x2), (3, .int x3)]) hx hb dX3_run_52 hl (by decide) rfl (fun ls hl => ?_)
              refine lv_aload_n hx hb dX3_run_54 rfl (lv_at hl 1 rfl) ?_
              refine va_get (D := E.1) (ci := 2) (v := .ref (q0 5)) (C := RX3) (T := TX3) (N := 12) hx hb hg in_X3 hown X.1 hP 0 rfl rfl 6 (by decide) (hg _ wf_X3_31) (fun _ h9 => h9) rfl dX3_run_55 ?_
              refine lv_iload_n hx hb dX3_run_58 rfl (lv_at hl 2 rfl) ?_
              obtain ⟨hi, v9, ev9, h⟩ := rd_el h
              refine va_iald hx hb X.1 hP 5 0 rfl rfl hi dX3_run_59 ?_
              refine lv_top' ev9 ?_
              refine lv_istore (lv' := [(5, .int v9), (4, .int v8), (0, .ref (q0 0)), (2, .int x2), (3, .int x3)]) hx hb dX3_run_60 hl (by decide) rfl (fun ls hl => ?_)
              obtain ⟨v10, ev10, h⟩ := lt_el h
              refine lv_iinc (v := v10) (lv' := [(2, .int v10), (5, .int v9), (4, .int v8), (0, .ref (q0 0)), (3, .int x3)]) hx hb dX3_run_62 hl (k := 3) rfl (by rw [ev10]; rfl) (by decide) rfl (fun ls hl => ?_)
              refine lv_iload hx hb dX3_run_65 (lv_at hl 2 rfl) ?_
              by_cases c11 : v8 = 33
              · have h := it_t h c11
                refine lv_lookup (tgt := 190) hx hb dX3_run_67 (by decide) (by rw [c11] <;> rfl) (by decide) ?_
                refine lv_aload_n hx hb dX3_run_190 rfl (lv_at hl 3 rfl) ?_
                refine lv_aload_n hx hb dX3_run_191 rfl (lv_at hl 3 rfl) ?_
                refine va_get (D := E.1) (ci := 2) (v := .int (S0.1 10)) (C := RX3) (T := TX3) (N := 12) hx hb hg in_X3 hown X.1 hP 0 rfl rfl 10 (by decide) (hg _ wf_X3_43) (fun _ h9 => h9) rfl dX3_run_192 ?_
                refine lv_if_ne (tgt := 202) hx hb dX3_run_195 (by decide) (fun c12 => ?_) (fun c12 => ?_)
                · have h := it_f h c12
                  refine lv_iconst (v := 0) hx hb dX3_run_202 (by decide) ?_
                  obtain ⟨S0_13, eS, h⟩ := lt_el h
                  refine va_put (D := E.1) (ci := 2) (v := .int 0) (ty := .boolean) (C := RX3) (T := TX3) (N := 12) hx hb hg in_X3 tyX3 tyX3_ok nmX3 hown X.1 hP hD hS 0 rfl rfl 10 (by decide) (hg _ wf_X3_43) (fun _ h9 => h9) rfl (by decide +kernel) (by decide +kernel) (by decide +kernel) (Nat.le_of_ble_eq_true rfl) dX3_run_203 (fun H locs hP hD hS => ?_)
                  have hP : va_P E.1 vwCl (cw_X3 E q0 S0_13) H := by rw [eS]; exact hP
                  have hD : va_D A (cw_X3 E q0 S0_13) := by rw [eS]; exact hD
                  clear eS
                  refine lv_goto (tgt := 258) hx hb dX3_run_206 (by decide) ?_
                  obtain ⟨v14, ev14, h⟩ := lt_el h
                  refine lv_iinc (v := v14) (lv' := [(3, .int v14), (2, .int v10), (5, .int v9), (4, .int v8), (0, .ref (q0 0))]) hx hb dX3_run_258 hl (k := 4) rfl (by rw [ev14]; rfl) (by decide) rfl (fun ls hl => ?_)
                  refine lv_goto (tgt := 19) hx hb dX3_run_261 (by decide) ?_
                  exact ih S0_13 v10 v14 _ _ _ h hP hD hS (lv_sub hl [4, 1, 0] rfl)
                · have h := it_t h c12
                  refine lv_iconst (v := 1) hx hb dX3_run_198 (by decide) ?_
                  refine lv_goto (tgt := 203) hx hb dX3_run_199 (by decide) ?_
                  obtain ⟨S0_15, eS, h⟩ := lt_el h
                  refine va_put (D := E.1) (ci := 2) (v := .int 1) (ty := .boolean) (C := RX3) (T := TX3) (N := 12) hx hb hg in_X3 tyX3 tyX3_ok nmX3 hown X.1 hP hD hS 0 rfl rfl 10 (by decide) (hg _ wf_X3_43) (fun _ h9 => h9) rfl (by decide +kernel) (by decide +kernel) (by decide +kernel) (Nat.le_of_ble_eq_true rfl) dX3_run_203 (fun H locs hP hD hS => ?_)
                  have hP : va_P E.1 vwCl (cw_X3 E q0 S0_15) H := by rw [eS]; exact hP
                  have hD : va_D A (cw_X3 E q0 S0_15) := by rw [eS]; exact hD
                  clear eS
                  refine lv_goto (tgt := 258) hx hb dX3_run_206 (by decide) ?_
                  obtain ⟨v16, ev16, h⟩ := lt_el h
                  refine lv_iinc (v := v16) (lv' := [(3, .int v16), (2, .int v10), (5, .int v9), (4, .int v8), (0, .ref (q0 0))]) hx hb dX3_run_258 hl (k := 4) rfl (by rw [ev16]; rfl) (by decide) rfl (fun ls hl => ?_)
                  refine lv_goto (tgt := 19) hx hb dX3_run_261 (by decide) ?_
                  exact ih S0_15 v10 v16 _ _ _ h hP hD hS (lv_sub hl [4, 1, 0] rfl)
              · have h := it_f h c11
                by_cases c17 : v8 = 38
                · have h := it_t h c17
                  refine lv_lookup (tgt := 209) hx hb dX3_run_67 (by decide) (by rw [c17] <;> rfl) (by decide) ?_
                  refine lv_aload_n hx hb dX3_run_209 rfl (lv_at hl 3 rfl) ?_
                  refine va_get (D := E.1) (ci := 2) (v := .int (S0.1 10)) (C := RX3) (T := TX3) (N := 12) hx hb hg in_X3 hown X.1 hP 0 rfl rfl 10 (by decide) (hg _ wf_X3_43) (fun _ h9 => h9) rfl dX3_run_210 ?_
                  refine lv_if_eq (tgt := 220) hx hb dX3_run_213 (by decide) (fun c18 => ?_) (fun c18 => ?_)
                  · have h := it_t h c18
                    refine lv_iload hx hb dX3_run_220 (lv_at hl 1 rfl) ?_
                    refine lv_istore_n (lv' := [(2, .int v9), (5, .int v9), (4, .int v8), (0, .ref (q0 0)), (3, .int x3)]) hx hb dX3_run_222 rfl hl (by decide) rfl (fun ls hl => ?_)
                    refine lv_goto (tgt := 258) hx hb dX3_run_223 (by decide) ?_
                    obtain ⟨v19, ev19, h⟩ := lt_el h
                    refine lv_iinc (v := v19) (lv' := [(3, .int v19), (2, .int v9), (5, .int v9), (4, .int v8), (0, .ref (q0 0))]) hx hb dX3_run_258 hl (k := 4) rfl (by rw [ev19]; rfl) (by decide) rfl (fun ls hl => ?_)
                    refine lv_goto (tgt := 19) hx hb dX3_run_261 (by decide) ?_
                    exact ih S0 v9 v19 _ _ _ h hP hD hS (lv_sub hl [4, 1, 0] rfl)
                  · have h := it_f h c18
                    refine lv_iload_n hx hb dX3_run_216 rfl (lv_at hl 0 rfl) ?_
                    refine lv_goto (tgt := 222) hx hb dX3_run_217 (by decide) ?_
                    refine lv_istore_n (lv' := [(2, .int v10), (5, .int v9), (4, .int v8), (0, .ref (q0 0)), (3, .int x3)]) hx hb dX3_run_222 rfl hl (by decide) rfl (fun ls hl => ?_)
                    refine lv_goto (tgt := 258) hx hb dX3_run_223 (by decide) ?_
                    obtain ⟨v20, ev20, h⟩ := lt_el h
                    refine lv_iinc (v := v20) (lv' := [(3, .int v20), (2, .int v10), (5, .int v9), (4, .int v8), (0, .ref (q0 0))]) hx hb dX3_run_258 hl (k := 4) rfl (by rw [ev20]; rfl) (by decide) rfl (fun ls hl => ?_)
                    refine lv_goto (tgt := 19) hx hb dX3_run_261 (by decide) ?_
                    exact ih S0 v10 v20 _ _ _ h hP hD hS (lv_sub hl [4, 1, 0] rfl)
                · have h := it_f h c17
                  by_cases c21 : v8 = 46
                  · have h := it_t h c21
                    refine lv_lookup (tgt := 148) hx hb dX3_run_67 (by decide) (by rw [c21] <;> rfl) (by decide) ?_
                    exact RT S0 _ _ _ _ h hP hD hS dX3_run_148
                  · have h := it_f h c21
                    by_cases c22 : v8 = 60
                    · have h := it_t h c22
                      refine lv_lookup (tgt := 243) hx hb dX3_run_67 (by decide) (by rw [c22] <;> rfl) (by decide) ?_
                      refine lv_aload_n hx hb dX3_run_243 rfl (lv_at hl 3 rfl) ?_
                      refine lv_iload hx hb dX3_run_244 (lv_at hl 2 rfl) ?_
                      obtain ⟨u23, hc, h⟩ := bd_el h
                      refine ct_vA (w1 := cw_X3 E q0 u23) X hP hD hS (va_runV (C := RX3) (As := [.int v8]) (rest := []) ⟨hx, hb, hml, hown, hg⟩ (c_X3_compare l E q0 H.size S0 v8 u23 hc) (cwV 1 hg (gwV wm_X3_81 wi_X3_compare wsl_X3_compare wini_X3 wco_X3_compare) rfl rfl rfl (by decide +kernel) ⟨Nat.le_of_ble_eq_true rfl, Nat.le_of_ble_eq_true rfl⟩) ⟨ct_blind, ct_rv X.1 hP 0 rfl rfl, ct_preA X hP hD hS _⟩ rfl rfl hl.1 rfl (lv_room (Nat.le_of_ble_eq_true rfl)) dX3_run_246 ⟨Nat.zero_le _, Nat.zero_le _⟩) (fun H locs hP hD hS => ?_)
                      refine lv_goto (tgt := 258) hx hb dX3_run_249 (by decide) ?_
                      obtain ⟨v24, ev24, h⟩ := lt_el h
                      refine lv_iinc (v := v24) (lv' := [(3, .int v24), (2, .int v10), (5, .int v9), (4, .int v8), (0, .ref (q0 0))]) hx hb dX3_run_258 hl (k := 4) rfl (by rw [ev24]; rfl) (by decide) rfl (fun ls hl => ?_)
                      refine lv_goto (tgt := 19) hx hb dX3_run_261 (by decide) ?_
                      exact ih u23 v10 v24 _ _ _ h hP hD hS (lv_sub hl [4, 1, 0] rfl)
                    · have h := it_f h c22
                      by_cases c25 : v8 = 61
                      · have h := it_t h c25
                        refine lv_lookup (tgt := 243) hx hb dX3_run_67 (by decide) (by rw [c25] <;> rfl) (by decide) ?_
                        refine lv_aload_n hx hb dX3_run_243 rfl (lv_at hl 3 rfl) ?_
                        refine lv_iload hx hb dX3_run_244 (lv_at hl 2 rfl) ?_
                        obtain ⟨u26, hc, h⟩ := bd_el h
                        refine ct_vA (w1 := cw_X3 E q0 u26) X hP hD hS (va_runV (C := RX3) (As := [.int v8]) (rest := []) ⟨hx, hb, hml, hown, hg⟩ (c_X3_compare l E q0 H.size S0 v8 u26 hc) (cwV 1 hg (gwV wm_X3_81 wi_X3_compare wsl_X3_compare wini_X3 wco_X3_compare) rfl rfl rfl (by decide +kernel) ⟨Nat.le_of_ble_eq_true rfl, Nat.le_of_ble_eq_true rfl⟩) ⟨ct_blind, ct_rv X.1 hP 0 rfl rfl, ct_preA X hP hD hS _⟩ rfl rfl hl.1 rfl (lv_room (Nat.le_of_ble_eq_true rfl)) dX3_run_246 ⟨Nat.zero_le _, Nat.zero_le _⟩) (fun H locs hP hD hS => ?_)
                        refine lv_goto (tgt := 258) hx hb dX3_run_249 (by decide) ?_
                        obtain ⟨v27, ev27, h⟩ := lt_el h
                        refine lv_iinc (v := v27) (lv' := [(3, .int v27), (2, .int v10), (5, .int v9), (4, .int v8), (0, .ref (q0 0))]) hx hb dX3_run_258 hl (k := 4) rfl (by rw [ev27]; rfl) (by decide) rfl (fun ls hl => ?_)
                        refine lv_goto (tgt := 19) hx hb dX3_run_261 (by decide) ?_
                        exact ih u26 v10 v27 _ _ _ h hP hD hS (lv_sub hl [4, 1, 0] rfl)
                      · have h := it_f h c25
                        by_cases c28 : v8 = 62
                        · have h := it_t h c28
                          refine lv_lookup (tgt := 243) hx hb dX3_run_67 (by decide) (by rw [c28] <;> rfl) (by decide) ?_
                          refine lv_aload_n hx hb dX3_run_243 rfl (lv_at hl 3 rfl) ?_
                          refine lv_iload hx hb dX3_run_244 (lv_at hl 2 rfl) ?_
                          obtain ⟨u29, hc, h⟩ := bd_el h
                          refine ct_vA (w1 := cw_X3 E q0 u29) X hP hD hS (va_runV (C := RX3) (As := [.int v8]) (rest := []) ⟨hx, hb, hml, hown, hg⟩ (c_X3_compare l E q0 H.size S0 v8 u29 hc) (cwV 1 hg (gwV wm_X3_81 wi_X3_compare wsl_X3_compare wini_X3 wco_X3_compare) rfl rfl rfl (by decide +kernel) ⟨Nat.le_of_ble_eq_true rfl, Nat.le_of_ble_eq_true rfl⟩) ⟨ct_blind, ct_rv X.1 hP 0 rfl rfl, ct_preA X hP hD hS _⟩ rfl rfl hl.1 rfl (lv_room (Nat.le_of_ble_eq_true rfl)) dX3_run_246 ⟨Nat.zero_le _, Nat.zero_le _⟩) (fun H locs hP hD hS => ?_)
                          refine lv_goto (tgt := 258) hx hb dX3_run_249 (by decide) ?_
                          obtain ⟨v30, ev30, h⟩ := lt_el h
                          refine lv_iinc (v := v30) (lv' := [(3, .int v30), (2, .int v10), (5, .int v9), (4, .int v8), (0, .ref (q0 0))]) hx hb dX3_run_258 hl (k := 4) rfl (by rw [ev30]; rfl) (by decide) rfl (fun ls hl => ?_)
                          refine lv_goto (tgt := 19) hx hb dX3_run_261 (by decide) ?_
                          exact ih u29 v10 v30 _ _ _ h hP hD hS (lv_sub hl [4, 1, 0] rfl)
                        · have h := it_f h c28
                          by_cases c31 : v8 = 108
                          · have h := it_t h c31
                            refine lv_lookup (tgt := 158) hx hb dX3_run_67 (by decide) (by rw [c31] <;> rfl) (by decide) ?_
                            refine lv_aload_n hx hb dX3_run_158 rfl (lv_at hl 3 rfl) ?_
                            refine lv_iload hx hb dX3_run_159 (lv_at hl 1 rfl) ?_
                            refine lv_if_lt (tgt := 183) hx hb dX3_run_161 (by decide) (fun c32 => ?_) (fun c32 => ?_)
                            · have h := it_t h c32
                              refine lv_iconst (v := 0) hx hb dX3_run_183 (by decide) ?_
                              obtain ⟨u33, hc, h⟩ := bd_el h
                              refine ct_vA (w1 := cw_X3 E q0 u33) X hP hD hS (va_runV (C := RX3) (As := [.int 0]) (rest := []) ⟨hx, hb, hml, hown, hg⟩ (c_X3_heapUp l E q0 H.size S0 0 u33 hc) (cwV 1 hg (gwV wm_X3_78 wi_X3_heapUp wsl_X3_heapUp wini_X3 wco_X3_heapUp) rfl rfl rfl (by decide +kernel) ⟨Nat.le_of_ble_eq_true rfl, Nat.le_of_ble_eq_true rfl⟩) ⟨ct_blind, ct_rv X.1 hP 0 rfl rfl, ct_preA X hP hD hS _⟩ rfl rfl hl.1 rfl (lv_room (Nat.le_of_ble_eq_true rfl)) dX3_run_184 ⟨Nat.zero_le _, Nat.zero_le _⟩) (fun H locs hP hD hS => ?_)
                              refine lv_goto (tgt := 258) hx hb dX3_run_187 (by decide) ?_
                              obtain ⟨v34, ev34, h⟩ := lt_el h
                              refine lv_iinc (v := v34) (lv' := [(3, .int v34), (2, .int v10), (5, .int v9), (4, .int v8), (0, .ref (q0 0))]) hx hb dX3_run_258 hl (k := 4) rfl (by rw [ev34]; rfl) (by decide) rfl (fun ls hl => ?_)
                              refine lv_goto (tgt := 19) hx hb dX3_run_261 (by decide) ?_
                              exact ih u33 v10 v34 _ _ _ h hP hD hS (lv_sub hl [4, 1, 0] rfl)
                            · have h := it_f h c32
                              refine lv_iload hx hb dX3_run_164 (lv_at hl 1 rfl) ?_
                              refine va_gets hx hb X.2.2.1.2.2.1 hS hown (hg _ wf_X3_58) (fun _ h9 => h9) dX3_run_166 ?_
                              refine va_tlen (v := 10) hx hb X.2.2.1.2.2.2 hS rfl dX3_run_169 ?_
                              refine lv_icmp_ge (tgt := 183) hx hb dX3_run_170 (by decide) (fun c35 => ?_) (fun c35 => ?_)
                              · have h := it_t h c35
                                refine lv_iconst (v := 0) hx hb dX3_run_183 (by decide) ?_
                                obtain ⟨u36, hc, h⟩ := bd_el h
                                refine ct_vA (w1 := cw_X3 E q0 u36) X hP hD hS (va_runV (C := RX3) (As := [.int 0]) (rest := []) ⟨hx, hb, hml, hown, hg⟩ (c_X3_heapUp l E q0 H.size S0 0 u36 hc) (cwV 1 hg (gwV wm_X3_78 wi_X3_heapUp wsl_X3_heapUp wini_X3 wco_X3_heapUp) rfl rfl rfl (by decide +kernel) ⟨Nat.le_of_ble_eq_true rfl, Nat.le_of_ble_eq_true rfl⟩) ⟨ct_blind, ct_rv X.1 hP 0 rfl rfl, ct_preA X hP hD hS _⟩ rfl rfl hl.1 rfl (lv_room (Nat.le_of_ble_eq_true rfl)) dX3_run_184 ⟨Nat.zero_le _, Nat.zero_le _⟩) (fun H locs hP hD hS => ?_)
                                refine lv_goto (tgt := 258) hx hb dX3_run_187 (by decide) ?_
                                obtain ⟨v37, ev37, h⟩ := lt_el h
                                refine lv_iinc (v := v37) (lv' := [(3, .int v37), (2, .int v10), (5, .int v9), (4, .int v8), (0, .ref (q0 0))]) hx hb dX3_run_258 hl (k := 4) rfl (by rw [ev37]; rfl) (by decide) rfl (fun ls hl => ?_)
                                refine lv_goto (tgt := 19) hx hb dX3_run_261 (by decide) ?_
                                exact ih u36 v10 v37 _ _ _ h hP hD hS (lv_sub hl [4, 1, 0] rfl)
                              · have h := it_f h c35
                                refine lv_aload_n hx hb dX3_run_173 rfl (lv_at hl 3 rfl) ?_
                                refine va_get (D := E.1) (ci := 2) (v := .ref (q0 6)) (C := RX3) (T := TX3) (N := 12) hx hb hg in_X3 hown X.1 hP 0 rfl rfl 7 (by decide) (hg _ wf_X3_34) (fun _ h9 => h9) rfl dX3_run_174 ?_
                                refine lv_iload hx hb dX3_run_177 (lv_at hl 1 rfl) ?_
                                obtain ⟨hi, v38, ev38, h⟩ := rd_el h
                                refine va_iald hx hb X.1 hP 6 0 rfl rfl hi dX3_run_179 ?_
                                refine lv_top' ev38 ?_
                                refine lv_goto (tgt := 184) hx hb dX3_run_180 (by decide) ?_
                                obtain ⟨u39, hc, h⟩ := bd_el h
                                refine ct_vA (w1 := cw_X3 E q0 u39) X hP hD hS (va_runV (C := RX3) (As := [.int v38]) (rest := []) ⟨hx, hb, hml, hown, hg⟩ (c_X3_heapUp l E q0 H.size S0 v38 u39 hc) (cwV 1 hg (gwV wm_X3_78 wi_X3_heapUp wsl_X3_heapUp wini_X3 wco_X3_heapUp) rfl rfl rfl (by decide +kernel) ⟨Nat.le_of_ble_eq_true rfl, Nat.le_of_ble_eq_true rfl⟩) ⟨ct_blind, ct_rv X.1 hP 0 rfl rfl, ct_preA X hP hD hS _⟩ rfl rfl hl.1 rfl (lv_room (Nat.le_of_ble_eq_true rfl)) dX3_run_184 ⟨Nat.zero_le _, Nat.zero_le _⟩) (fun H locs hP hD hS => ?_)
                                refine lv_goto (tgt := 258) hx hb dX3_run_187 (by decide) ?_
                                obtain ⟨v40, ev40, h⟩ := lt_el h
                                refine lv_iinc (v := v40) (lv' := [(3, .int v40), (2, .int v10), (5, .int v9), (4, .int v8), (0, .ref (q0 0))]) hx hb dX3_run_258 hl (k := 4) rfl (by rw [ev40]; rfl) (by decide) rfl (fun ls hl => ?_)
                                refine lv_goto (tgt := 19) hx hb dX3_run_261 (by decide) ?_
                                exact ih u39 v10 v40 _ _ _ h hP hD hS (lv_sub hl [4, 1, 0] rfl)
                          · have h := it_f h c31
                            by_cases c41 : v8 = 110
                            · have h := it_t h c41
                              refine lv_lookup (tgt := 149) hx hb dX3_run_67 (by decide) (by rw [c41] <;> rfl) (by decide) ?_
                              refine lv_aload_n hx hb dX3_run_149 rfl (lv_at hl 3 rfl) ?_
                              refine lv_iload hx hb dX3_run_150 (lv_at hl 1 rfl) ?_
                              obtain ⟨u42, hc, h⟩ := bd_el h
                              refine ct_vA (w1 := cw_X3 E q0 u42) X hP hD hS (va_runV (C := RX3) (As := [.int v9]) (rest := []) ⟨hx, hb, hml, hown, hg⟩ (c_X3_heapUp l E q0 H.size S0 v9 u42 hc) (cwV 1 hg (gwV wm_X3_78 wi_X3_heapUp wsl_X3_heapUp wini_X3 wco_X3_heapUp) rfl rfl rfl (by decide +kernel) ⟨Nat.le_of_ble_eq_true rfl, Nat.le_of_ble_eq_true rfl⟩) ⟨ct_blind, ct_rv X.1 hP 0 rfl rfl, ct_preA X hP hD hS _⟩ rfl rfl hl.1 rfl (lv_room (Nat.le_of_ble_eq_true rfl)) dX3_run_152 ⟨Nat.zero_le _, Nat.zero_le _⟩) (fun H locs hP hD hS => ?_)
                              refine lv_goto (tgt := 258) hx hb dX3_run_155 (by decide) ?_
                              obtain ⟨v43, ev43, h⟩ := lt_el h
                              refine lv_iinc (v := v43) (lv' := [(3, .int v43), (2, .int v10), (5, .int v9), (4, .int v8), (0, .ref (q0 0))]) hx hb dX3_run_258 hl (k := 4) rfl (by rw [ev43]; rfl) (by decide) rfl (fun ls hl => ?_)
                              refine lv_goto (tgt := 19) hx hb dX3_run_261 (by decide) ?_
                              exact ih u42 v10 v43 _ _ _ h hP hD hS (lv_sub hl [4, 1, 0] rfl)
                            · have h := it_f h c41
                              by_cases c44 : v8 = 124
                              · have h := it_t h c44
                                refine lv_lookup (tgt := 226) hx hb dX3_run_67 (by decide) (by rw [c44] <;> rfl) (by decide) ?_
                                refine lv_aload_n hx hb dX3_run_226 rfl (lv_at hl 3 rfl) ?_
                                refine va_get (D := E.1) (ci := 2) (v := .int (S0.1 10)) (C := RX3) (T := TX3) (N := 12) hx hb hg in_X3 hown X.1 hP 0 rfl rfl 10 (by decide) (hg _ wf_X3_43) (fun _ h9 => h9) rfl dX3_run_227 ?_
                                refine lv_if_eq (tgt := 238) hx hb dX3_run_230 (by decide) (fun c45 => ?_) (fun c45 => ?_)
                                · have h := it_t h c45
                                  refine lv_iload_n hx hb dX3_run_238 rfl (lv_at hl 0 rfl) ?_
                                  refine lv_istore_n (lv' := [(2, .int v10), (5, .int v9), (4, .int v8), (0, .ref (q0 0)), (3, .int x3)]) hx hb dX3_run_239 rfl hl (by decide) rfl (fun ls hl => ?_)
                                  refine lv_goto (tgt := 258) hx hb dX3_run_240 (by decide) ?_
                                  obtain ⟨v46, ev46, h⟩ := lt_el h
                                  refine lv_iinc (v := v46) (lv' := [(3, .int v46), (2, .int v10), (5, .int v9), (4, .int v8), (0, .ref (q0 0))]) hx hb dX3_run_258 hl (k := 4) rfl (by rw [ev46]; rfl) (by decide) rfl (fun ls hl => ?_)
                                  refine lv_goto (tgt := 19) hx hb dX3_run_261 (by decide) ?_
                                  exact ih S0 v10 v46 _ _ _ h hP hD hS (lv_sub hl [4, 1, 0] rfl)
                                · have h := it_f h c45
                                  refine lv_iload hx hb dX3_run_233 (lv_at hl 1 rfl) ?_
                                  refine lv_goto (tgt := 239) hx hb dX3_run_235 (by decide) ?_
                                  refine lv_istore_n (lv' := [(2, .int v9), (5, .int v9), (4, .int v8), (0, .ref (q0 0)), (3, .int x3)]) hx hb dX3_run_239 rfl hl (by decide) rfl (fun ls hl => ?_)
                                  refine lv_goto (tgt := 258) hx hb dX3_run_240 (by decide) ?_
                                  obtain ⟨v47, ev47, h⟩ := lt_el h
                                  refine lv_iinc (v := v47) (lv' := [(3, .int v47), (2, .int v9), (5, .int v9), (4, .int v8), (0, .ref (q0 0))]) hx hb dX3_run_258 hl (k := 4) rfl (by rw [ev47]; rfl) (by decide) rfl (fun ls hl => ?_)
                                  refine lv_goto (tgt := 19) hx hb dX3_run_261 (by decide) ?_
                                  exact ih S0 v9 v47 _ _ _ h hP hD hS (lv_sub hl [4, 1, 0] rfl)
                              · have h := it_f h c44
                                refine lv_lookup (tgt := 252) hx hb dX3_run_67 (by decide) (lk_out _ _ _ (by intro q hq; simp at hq; rcases hq with hq | hq | hq | hq | hq | hq | hq | hq | hq <;> (subst hq; intro hh; first | exact absurd (Int32.toInt_inj.mp (hh.symm.trans (by decide))) c11 | exact absurd (Int32.toInt_inj.mp (hh.symm.trans (by decide))) c17 | exact absurd (Int32.toInt_inj.mp (hh.symm.trans (by decide))) c21 | exact absurd (Int32.toInt_inj.mp (hh.symm.trans (by decide))) c22 | exact absurd (Int32.toInt_inj.mp (hh.symm.trans (by decide))) c25 | exact absurd (Int32.toInt_inj.mp (hh.symm.trans (by decide))) c28 | exact absurd (Int32.toInt_inj.mp (hh.symm.trans (by decide))) c31 | exact absurd (Int32.toInt_inj.mp (hh.symm.trans (by decide))) c41 | exact absurd (Int32.toInt_inj.mp (hh.symm.trans (by decide))) c44))) (by decide) ?_
                                refine lv_aload_n hx hb dX3_run_252 rfl (lv_at hl 3 rfl) ?_
                                refine lv_iload hx hb dX3_run_253 (lv_at hl 2 rfl) ?_
                                obtain ⟨u48, hc, h⟩ := bd_el h
                                refine ct_vA (w1 := cw_X3 E q0 u48) X hP hD hS (va_runV (C := RX3) (As := [.int v8]) (rest := []) ⟨hx, hb, hml, hown, hg⟩ (c_X3_reckon l E q0 H.size S0 v8 u48 hc) (cwV 1 hg (gwV wm_X3_84 wi_X3_reckon wsl_X3_reckon wini_X3 wco_X3_reckon) rfl rfl rfl (by decide +kernel) ⟨Nat.le_of_ble_eq_true rfl, Nat.le_of_ble_eq_true rfl⟩) ⟨ct_blind, ct_rv X.1 hP 0 rfl rfl, ct_preA X hP hD hS _⟩ rfl rfl hl.1 rfl (lv_room (Nat.le_of_ble_eq_true rfl)) dX3_run_255 ⟨Nat.zero_le _, Nat.zero_le _⟩) (fun H locs hP hD hS => ?_)
                                obtain ⟨v49, ev49, h⟩ := lt_el h
                                refine lv_iinc (v := v49) (lv' := [(3, .int v49), (2, .int v10), (5, .int v9), (4, .int v8), (0, .ref (q0 0))]) hx hb dX3_run_258 hl (k := 4) rfl (by rw [ev49]; rfl) (by decide) rfl (fun ls hl => ?_)
                                refine lv_goto (tgt := 19) hx hb dX3_run_261 (by decide) ?_
                                exact ih u48 v10 v49 _ _ _ h hP hD hS (lv_sub hl [4, 1, 0] rfl)
  obtain ⟨H, eH⟩ : ∃ z, z = s.heap := ⟨_, rfl⟩
  rw [← eH]
  have hP : va_P E.1 vwCl (cw_X3 E q0 S0) H := by rw [eH]; exact hP
  have hS : va_S A s.heap H [] := by rw [eH]; exact hS
  clear eH
  obtain ⟨locs, el⟩ : ∃ z : List Loc, z = [] := ⟨_, rfl⟩
  rw [← el] at hS ⊢
  clear el
  refine lv_aload_n hx hb dX3_run_0 rfl (lv_at hl 0 rfl) ?_
  refine lv_iconst (v := 0) hx hb dX3_run_1 (by decide) ?_
  obtain ⟨S0_1, eS, h⟩ := lt_el h
  refine va_put (D := E.1) (ci := 2) (v := .int 0) (ty := .int) (C := RX3) (T := TX3) (N := 12) hx hb hg in_X3 tyX3 tyX3_ok nmX3 hown X.1 hP hD hS 0 rfl rfl 9 (by decide) (hg _ wf_X3_40) (fun _ h9 => h9) rfl (by decide +kernel) rfl rfl (Nat.le_of_ble_eq_true rfl) dX3_run_2 (fun H locs hP hD hS => ?_)
  have hP : va_P E.1 vwCl (cw_X3 E q0 S0_1) H := by rw [eS]; exact hP
  have hD : va_D A (cw_X3 E q0 S0_1) := by rw [eS]; exact hD
  clear eS
  refine lv_aload_n hx hb dX3_run_5 rfl (lv_at hl 0 rfl) ?_
  refine lv_iconst (v := 0) hx hb dX3_run_6 (by decide) ?_
  obtain ⟨S0_2, eS, h⟩ := lt_el h
  refine va_put (D := E.1) (ci := 2) (v := .int 0) (ty := .boolean) (C := RX3) (T := TX3) (N := 12) hx hb hg in_X3 tyX3 tyX3_ok nmX3 hown X.1 hP hD hS 0 rfl rfl 10 (by decide) (hg _ wf_X3_43) (fun _ h9 => h9) rfl (by decide +kernel) (by decide +kernel) (by decide +kernel) (Nat.le_of_ble_eq_true rfl) dX3_run_7 (fun H locs hP hD hS => ?_)
  have hP : va_P E.1 vwCl (cw_X3 E q0 S0_2) H := by rw [eS]; exact hP
  have hD : va_D A (cw_X3 E q0 S0_2) := by rw [eS]; exact hD
  clear eS
  refine lv_aload_n hx hb dX3_run_10 rfl (lv_at hl 0 rfl) ?_
  refine lv_iconst (v := 0) hx hb dX3_run_11 (by decide) ?_
  obtain ⟨S0_3, eS, h⟩ := lt_el h
  refine va_put (D := E.1) (ci := 2) (v := .int 0) (ty := .boolean) (C := RX3) (T := TX3) (N := 12) hx hb hg in_X3 tyX3 tyX3_ok nmX3 hown X.1 hP hD hS 0 rfl rfl 11 (by decide) (hg _ wf_X3_47) (fun _ h9 => h9) rfl (by decide +kernel) (by decide +kernel) (by decide +kernel) (Nat.le_of_ble_eq_true rfl) dX3_run_12 (fun H locs hP hD hS => ?_)
  have hP : va_P E.1 vwCl (cw_X3 E q0 S0_3) H := by rw [eS]; exact hP
  have hD : va_D A (cw_X3 E q0 S0_3) := by rw [eS]; exact hD
  clear eS
  refine lv_iload_n hx hb dX3_run_15 rfl (lv_at hl 1 rfl) ?_
  refine lv_istore_n (lv' := [(2, .int x1), (0, .ref (q0 0)), (1, .int x1)]) hx hb dX3_run_16 rfl hl (by decide) rfl (fun ls hl => ?_)
  refine lv_iconst (v := 0) hx hb dX3_run_17 (by decide) ?_
  refine lv_istore_n (lv' := [(3, .int 0), (2, .int x1), (0, .ref (q0 0)), (1, .int x1)]) hx hb dX3_run_18 rfl hl (by decide) rfl (fun ls hl => ?_)
  exact N19 fu S0_3 x1 0 _ _ _ h hP hD hS (lv_sub hl [2, 1, 0] rfl)
theorem dX3_firstRule_0 : decode cX3_firstRule 0 = .ok (.iconst 0, 1) := by decide +kernel
theorem dX3_firstRule_1 : decode cX3_firstRule 1 = .ok (.istore_n 2, 1) := by decide +kernel
theorem dX3_firstRule_2 : decode cX3_firstRule 2 = .ok (.iload_n 2, 1) := by decide +kernel
theorem dX3_firstRule_3 : decode cX3_firstRule 3 = .ok (.aload_n 0, 1) := by decide +kernel
theorem dX3_firstRule_4 : decode cX3_firstRule 4 = .ok (.getfield 9, 3) := by decide +kernel
theorem dX3_firstRule_7 : decode cX3_firstRule 7 = .ok (.if_icmp .ge 45, 3) := by decide +kernel
theorem dX3_firstRule_10 : decode cX3_firstRule 10 = .ok (.aload_n 0, 1) := by decide +kernel
theorem dX3_firstRule_11 : decode cX3_firstRule 11 = .ok (.getfield 15, 3) := by decide +kernel
theorem dX3_firstRule_14 : decode cX3_firstRule 14 = .ok (.iload_n 2, 1) := by decide +kernel
theorem dX3_firstRule_15 : decode cX3_firstRule 15 = .ok (.iaload, 1) := by decide +kernel
theorem dX3_firstRule_16 : decode cX3_firstRule 16 = .ok (.iload_n 1, 1) := by decide +kernel
theorem dX3_firstRule_17 : decode cX3_firstRule 17 = .ok (.if_icmp .ne 29, 3) := by decide +kernel
theorem dX3_firstRule_20 : decode cX3_firstRule 20 = .ok (.aload_n 0, 1) := by decide +kernel
theorem dX3_firstRule_21 : decode cX3_firstRule 21 = .ok (.aload_n 0, 1) := by decide +kernel
theorem dX3_firstRule_22 : decode cX3_firstRule 22 = .ok (.getfield 22, 3) := by decide +kernel
theorem dX3_firstRule_25 : decode cX3_firstRule 25 = .ok (.iload_n 2, 1) := by decide +kernel
theorem dX3_firstRule_26 : decode cX3_firstRule 26 = .ok (.iaload, 1) := by decide +kernel
theorem dX3_firstRule_27 : decode cX3_firstRule 27 = .ok (.invokevirtual 65, 3) := by decide +kernel
theorem dX3_firstRule_30 : decode cX3_firstRule 30 = .ok (.aload_n 0, 1) := by decide +kernel
theorem dX3_firstRule_31 : decode cX3_firstRule 31 = .ok (.getfield 43, 3) := by decide +kernel
theorem dX3_firstRule_34 : decode cX3_firstRule 34 = .ok (.ifCond .eq 12, 3) := by decide +kernel
theorem dX3_firstRule_37 : decode cX3_firstRule 37 = .ok (.aload_n 0, 1) := by decide +kernel
theorem dX3_firstRule_38 : decode cX3_firstRule 38 = .ok (.getfield 47, 3) := by decide +kernel
theorem dX3_firstRule_41 : decode cX3_firstRule 41 = .ok (.ifCond .ne 5, 3) := by decide +kernel
theorem dX3_firstRule_44 : decode cX3_firstRule 44 = .ok (.iload_n 2, 1) := by decide +kernel
theorem dX3_firstRule_45 : decode cX3_firstRule 45 = .ok (.ireturn, 1) := by decide +kernel
theorem dX3_firstRule_46 : decode cX3_firstRule 46 = .ok (.iinc 2 1, 3) := by decide +kernel
theorem dX3_firstRule_49 : decode cX3_firstRule 49 = .ok (.goto (-47), 3) := by decide +kernel
theorem dX3_firstRule_52 : decode cX3_firstRule 52 = .ok (.iconst (-1), 1) := by decide +kernel
theorem dX3_firstRule_53 : decode cX3_firstRule 53 = .ok (.ireturn, 1) := by decide +kernel
def f_X3_firstRule_n2 (x1 : Int32) : Nat → Gr → Int32 → Option (Int32 × Gr)
  | 0, _, _ => none
  | n + 1, S0, x2 => if (S0.1 0) ≤ x2 then (some ((-1), S0)) else (rd' (S0.2 1) 16 x2 fun v2 => if v2 = x1 then (rd' (S0.2 3) 16 x2 fun v5 => (f_X3_run S0 v5).bind fun u6 => if (u6.1 10) = 0 then (lt' (x2 + 1) fun v8 => f_X3_firstRule_n2 x1 n u6 v8) else (if (u6.1 11) = 0 then (some (x2, u6)) else (lt' (x2 + 1) fun v10 => f_X3_firstRule_n2 x1 n u6 v10))) else (lt' (x2 + 1) fun v4 => f_X3_firstRule_n2 x1 n S0 v4))
def f_X3_firstRule (S0 : Gr) (x1 : Int32) : Option (Int32 × Gr) := f_X3_firstRule_n2 x1 fu S0 0
set_option maxHeartbeats 4000000 in
set_option maxRecDepth 100000 in
theorem c_X3_firstRule (l : Launch) (E : Ec) (q0 : Nat → Nat) (sz : Nat) (S0 : Gr) (x1 : Int32) (Rv : Int32 × Gr) (h : f_X3_firstRule S0 x1 = some Rv) : Met l yX3_firstRule (wsM (.code yX3_firstRule cX3_firstRule 3 (some .int))) ({ frames := 2, cells := 0, slots := 0, locals := 48 } : Room) (va_Pc [.ref (q0 0), .int x1] (ctP E (cw_X3 E q0 S0) sz)) (ctI E (cw_X3 E q0 S0) (cw_X3 E q0 Rv.2) sz Rv.1) 0 0 (va_A (cw_X3 E q0 S0) sz) := by
  refine ct_metI (by decide) (Nat.le_of_ble_eq_true rfl) ?_
  intro p e s m ar below meth c A QM hx hb hml hown hg X hP hD hS RET ls hl
  have hown : s.vm.findClass RX3 = some m.cls := hown
  have hl : lv_has ls 3 [(0, .ref (q0 0)), (1, .int x1)] := hl
  have RT : ∀ (v : Int32) (S0 : Gr) (H : Heap) (locs : List Loc) (ls : Array Slot) (pc : Nat), some (v, S0) = some Rv → narrow .int (.int v) = .int v → va_P E.1 vwCl (cw_X3 E q0 S0) H → va_D A (cw_X3 E q0 S0) → va_S A s.heap H locs → decode cX3_firstRule pc = .ok (.ireturn, 1) → W p l e ({ frames := 2, cells := 0, slots := 0, locals := 48 } : Room) s m ar below meth c H locs 0 0 QM (F0 m pc ls [.int v]) := by
    intro v S0 H locs ls pc e hn hP hD hS d
    obtain rfl := sm_e e
    exact RET H locs pc ls hn hP hD hS d
  clear RET
  have N2 : ∀ (n : Nat) (S0 : Gr) (x2 : Int32) (H : Heap) (locs : List Loc) (ls : Array Slot), f_X3_firstRule_n2 x1 n S0 x2 = some Rv → va_P E.1 vwCl (cw_X3 E q0 S0) H → va_D A (cw_X3 E q0 S0) → va_S A s.heap H locs → lv_has ls 3 [(0, .ref (q0 0)), (1, .int x1), (2, .int x2)] → W p l e ({ frames := 2, cells := 0, slots := 0, locals := 48 } : Room) s m ar below meth c H locs 0 0 QM (F0 m 2 ls []) := by
    intro n
    induction n with
    | zero => intro S0 x2 H locs ls h; exact nn_el h
    | succ n ih =>
      intro S0 x2 H locs ls h hP hD hS hl
      refine lv_iload_n hx hb dX3_firstRule_2 rfl (lv_at hl 2 rfl) ?_
      refine lv_aload_n hx hb dX3_firstRule_3 rfl (lv_at hl 0 rfl) ?_
      refine va_get (D := E.1) (ci := 2) (v := .int (S0.1 0)) (C := RX3) (T := TX3) (N := 12) hx hb hg in_X3 hown X.1 hP 0 rfl rfl 0 (by decide) (hg _ wf_X3_9) (fun _ h9 => h9) rfl dX3_firstRule_4 ?_
      refine lv_icmp_ge (tgt := 52) hx hb dX3_firstRule_7 (by decide) (fun c1 => ?_) (fun c1 => ?_)
      · have h := it_t h c1
        refine lv_iconst (v := (-1)) hx hb dX3_firstRule_52 (by decide) ?_
        exact RT (-1) S0 _ _ _ _ h rfl hP hD hS dX3_firstRule_53
      · have h := it_f h c1
        refine lv_aload_n hx hb dX3_firstRule_10 rfl (lv_at hl 0 rfl) ?_
        refine va_get (D := E.1) (ci := 2) (v := .ref (q0 1)) (C := RX3) (T := TX3) (N := 12) hx hb hg in_X3 hown X.1 hP 0 rfl rfl 1 (by decide) (hg _ wf_X3_15) (fun _ h9 => h9) rfl dX3_firstRule_11 ?_
        refine lv_iload_n hx hb dX3_firstRule_14 rfl (lv_at hl 2 rfl) ?_
        obtain ⟨hi, v2, ev2, h⟩ := rd_el h
        refine va_iald hx hb X.1 hP 1 0 rfl rfl hi dX3_firstRule_15 ?_
        refine lv_top' ev2 ?_
        refine lv_iload_n hx hb dX3_firstRule_16 rfl (lv_at hl 1 rfl) ?_
        refine lv_icmp_ne (tgt := 46) hx hb dX3_firstRule_17 (by decide) (fun c3 => ?_) (fun c3 => ?_)
        · have h := it_f h c3
          obtain ⟨v4, ev4, h⟩ := lt_el h
          refine lv_iinc (v := v4) (lv' := [(2, .int v4), (0, .ref (q0 0)), (1, .int x1)]) hx hb dX3_firstRule_46 hl (k := 2) rfl (by rw [ev4]; rfl) (by decide) rfl (fun ls hl => ?_)
          refine lv_goto (tgt := 2) hx hb dX3_firstRule_49 (by decide) ?_
          exact ih S0 v4 _ _ _ h hP hD hS (lv_sub hl [1, 2, 0] rfl)
        · have h := it_t h c3
          refine lv_aload_n hx hb dX3_firstRule_20 rfl (lv_at hl 0 rfl) ?_
          refine lv_aload_n hx hb dX3_firstRule_21 rfl (lv_at hl 0 rfl) ?_
          refine va_get (D := E.1) (ci := 2) (v := .ref (q0 3)) (C := RX3) (T := TX3) (N := 12) hx hb hg in_X3 hown X.1 hP 0 rfl rfl 3 (by decide) (hg _ wf_X3_22) (fun _ h9 => h9) rfl dX3_firstRule_22 ?_
          refine lv_iload_n hx hb dX3_firstRule_25 rfl (lv_at hl 2 rfl) ?_
          obtain ⟨hi, v5, ev5, h⟩ := rd_el h
          refine va_iald hx hb X.1 hP 3 0 rfl rfl hi dX3_firstRule_26 ?_
          refine lv_top' ev5 ?_
          obtain ⟨u6, hc, h⟩ := bd_el h
          refine ct_vA (w1 := cw_X3 E q0 u6) X hP hD hS (va_runV (C := RX3) (As := [.int v5]) (rest := []) ⟨hx, hb, hml, hown, hg⟩ (c_X3_run l E q0 H.size S0 v5 u6 hc) (cwV 1 hg (gwV wm_X3_65 wi_X3_run wsl_X3_run wini_X3 wco_X3_run) rfl rfl rfl (by decide +kernel) ⟨Nat.le_of_ble_eq_true rfl, Nat.le_of_ble_eq_true rfl⟩) ⟨ct_blind, ct_rv X.1 hP 0 rfl rfl, ct_preA X hP hD hS _⟩ rfl rfl hl.1 rfl (lv_room (Nat.le_of_ble_eq_true rfl)) dX3_firstRule_27 ⟨Nat.zero_le _, Nat.zero_le _⟩) (fun H locs hP hD hS => ?_)
          refine lv_aload_n hx hb dX3_firstRule_30 rfl (lv_at hl 0 rfl) ?_
          refine va_get (D := E.1) (ci := 2) (v := .int (u6.1 10)) (C := RX3) (T := TX3) (N := 12) hx hb hg in_X3 hown X.1 hP 0 rfl rfl 10 (by decide) (hg _ wf_X3_43) (fun _ h9 => h9) rfl dX3_firstRule_31 ?_
          refine lv_if_eq (tgt := 46) hx hb dX3_firstRule_34 (by decide) (fun c7 => ?_) (fun c7 => ?_)
          · have h := it_t h c7
            obtain ⟨v8, ev8, h⟩ := lt_el h
            refine lv_iinc (v := v8) (lv' := [(2, .int v8), (0, .ref (q0 0)), (1, .int x1)]) hx hb dX3_firstRule_46 hl (k := 2) rfl (by rw [ev8]; rfl) (by decide) rfl (fun ls hl => ?_)
            refine lv_goto (tgt := 2) hx hb dX3_firstRule_49 (by decide) ?_
            exact ih u6 v8 _ _ _ h hP hD hS (lv_sub hl [1, 2, 0] rfl)
          · have h := it_f h c7
            refine lv_aload_n hx hb dX3_firstRule_37 rfl (lv_at hl 0 rfl) ?_
            refine va_get (D := E.1) (ci := 2) (v := .int (u6.1 11)) (C := RX3) (T := TX3) (N := 12) hx hb hg in_X3 hown X.1 hP 0 rfl rfl 11 (by decide) (hg _ wf_X3_47) (fun _ h9 => h9) rfl dX3_firstRule_38 ?_
            refine lv_if_ne (tgt := 46) hx hb dX3_firstRule_41 (by decide) (fun c9 => ?_) (fun c9 => ?_)
            · have h := it_f h c9
              obtain ⟨v10, ev10, h⟩ := lt_el h
              refine lv_iinc (v := v10) (lv' := [(2, .int v10), (0, .ref (q0 0)), (1, .int x1)]) hx hb dX3_firstRule_46 hl (k := 2) rfl (by rw [ev10]; rfl) (by decide) rfl (fun ls hl => ?_)
              refine lv_goto (tgt := 2) hx hb dX3_firstRule_49 (by decide) ?_
              exact ih u6 v10 _ _ _ h hP hD hS (lv_sub hl [1, 2, 0] rfl)
            · have h := it_t h c9
              refine lv_iload_n hx hb dX3_firstRule_44 rfl (lv_at hl 2 rfl) ?_
              exact RT x2 u6 _ _ _ _ h rfl hP hD hS dX3_firstRule_45
  obtain ⟨H, eH⟩ : ∃ z, z = s.heap := ⟨_, rfl⟩
  rw [← eH]
  have hP : va_P E.1 vwCl (cw_X3 E q0 S0) H := by rw [eH]; exact hP
  have hS : va_S A s.heap H [] := by rw [eH]; exact hS
  clear eH
  obtain ⟨locs, el⟩ : ∃ z : List Loc, z = [] := ⟨_, rfl⟩
  rw [← el] at hS ⊢
  clear el
  refine lv_iconst (v := 0) hx hb dX3_firstRule_0 (by decide) ?_
  refine lv_istore_n (lv' := [(2, .int 0), (0, .ref (q0 0)), (1, .int x1)]) hx hb dX3_firstRule_1 rfl hl (by decide) rfl (fun ls hl => ?_)
  exact N2 fu S0 0 _ _ _ h hP hD hS (lv_sub hl [1, 2, 0] rfl)
theorem dX3_seeFleet_0 : decode cX3_seeFleet 0 = .ok (.aload_n 0, 1) := by decide +kernel
theorem dX3_seeFleet_1 : decode cX3_seeFleet 1 = .ok (.getfield 34, 3) := by decide +kernel
theorem dX3_seeFleet_4 : decode cX3_seeFleet 4 = .ok (.iconst 1, 1) := by decide +kernel
theorem dX3_seeFleet_5 : decode cX3_seeFleet 5 = .ok (.iload_n 1, 1) := by decide +kernel
theorem dX3_seeFleet_6 : decode cX3_seeFleet 6 = .ok (.iastore, 1) := by decide +kernel
theorem dX3_seeFleet_7 : decode cX3_seeFleet 7 = .ok (.aload_n 0, 1) := by decide +kernel
theorem dX3_seeFleet_8 : decode cX3_seeFleet 8 = .ok (.getfield 34, 3) := by decide +kernel
theorem dX3_seeFleet_11 : decode cX3_seeFleet 11 = .ok (.iconst 4, 1) := by decide +kernel
theorem dX3_seeFleet_12 : decode cX3_seeFleet 12 = .ok (.iload_n 2, 1) := by decide +kernel
theorem dX3_seeFleet_13 : decode cX3_seeFleet 13 = .ok (.iastore, 1) := by decide +kernel
theorem dX3_seeFleet_14 : decode cX3_seeFleet 14 = .ok (.aload_n 0, 1) := by decide +kernel
theorem dX3_seeFleet_15 : decode cX3_seeFleet 15 = .ok (.getfield 34, 3) := by decide +kernel
theorem dX3_seeFleet_18 : decode cX3_seeFleet 18 = .ok (.iconst 5, 1) := by decide +kernel
theorem dX3_seeFleet_19 : decode cX3_seeFleet 19 = .ok (.iload_n 3, 1) := by decide +kernel
theorem dX3_seeFleet_20 : decode cX3_seeFleet 20 = .ok (.iastore, 1) := by decide +kernel
theorem dX3_seeFleet_21 : decode cX3_seeFleet 21 = .ok (.aload_n 0, 1) := by decide +kernel
theorem dX3_seeFleet_22 : decode cX3_seeFleet 22 = .ok (.getfield 34, 3) := by decide +kernel
theorem dX3_seeFleet_25 : decode cX3_seeFleet 25 = .ok (.bipush 7, 2) := by decide +kernel
theorem dX3_seeFleet_27 : decode cX3_seeFleet 27 = .ok (.iload 4, 2) := by decide +kernel
theorem dX3_seeFleet_29 : decode cX3_seeFleet 29 = .ok (.iastore, 1) := by decide +kernel
theorem dX3_seeFleet_30 : decode cX3_seeFleet 30 = .ok (.aload_n 0, 1) := by decide +kernel
theorem dX3_seeFleet_31 : decode cX3_seeFleet 31 = .ok (.getfield 34, 3) := by decide +kernel
theorem dX3_seeFleet_34 : decode cX3_seeFleet 34 = .ok (.bipush 9, 2) := by decide +kernel
theorem dX3_seeFleet_36 : decode cX3_seeFleet 36 = .ok (.iload 5, 2) := by decide +kernel
theorem dX3_seeFleet_38 : decode cX3_seeFleet 38 = .ok (.iastore, 1) := by decide +kernel
theorem dX3_seeFleet_39 : decode cX3_seeFleet 39 = .ok (.return_, 1) := by decide +kernel
def f_X3_seeFleet (S0 : Gr) (x1 : Int32) (x2 : Int32) (x3 : Int32) (x4 : Int32) (x5 : Int32) : Option (Gr) := ck' 10 1 (lt' (sA S0 7 (Int32.toNatClampNeg 1) x1) fun S0_1 => ck' 10 4 (lt' (sA S0_1 7 (Int32.toNatClampNeg 4) x2) fun S0_2 => ck' 10 5 (lt' (sA S0_2 7 (Int32.toNatClampNeg 5) x3) fun S0_3 => ck' 10 7 (lt' (sA S0_3 7 (Int32.toNatClampNeg 7) x4) fun S0_4 => ck' 10 9 (lt' (sA S0_4 7 (Int32.toNatClampNeg 9) x5) fun S0_5 => some S0_5)))))
set_option maxHeartbeats 4000000 in
set_option maxRecDepth 100000 in
theorem c_X3_seeFleet (l : Launch) (E : Ec) (q0 : Nat → Nat) (sz : Nat) (S0 : Gr) (x1 : Int32) (x2 : Int32) (x3 : Int32) (x4 : Int32) (x5 : Int32) (Rv : Gr) (h : f_X3_seeFleet S0 x1 x2 x3 x4 x5 = some Rv) : Met l yX3_seeFleet (wsM (.code yX3_seeFleet cX3_seeFleet 6 none)) ({ frames := 0, cells := 0, slots := 0, locals := 0 } : Room) (va_Pc [.ref (q0 0), .int x1, .int x2, .int x3, .int x4, .int x5] (ctP E (cw_X3 E q0 S0) sz)) (ctV E (cw_X3 E q0 S0) (cw_X3 E q0 Rv) sz) 0 0 (va_A (cw_X3 E q0 S0) sz) := by
  refine ct_metV (by decide) (Nat.le_of_ble_eq_true rfl) ?_
  intro p e s m ar below meth c A QM hx hb hml hown hg X hP hD hS RET ls hl
  have hown : s.vm.findClass RX3 = some m.cls := hown
  have hl : lv_has ls 6 [(0, .ref (q0 0)), (1, .int x1), (2, .int x2), (3, .int x3), (4, .int x4), (5, .int x5)] := hl
  have RT : ∀ (S0 : Gr) (H : Heap) (locs : List Loc) (ls : Array Slot) (pc : Nat), some S0 = some Rv → va_P E.1 vwCl (cw_X3 E q0 S0) H → va_D A (cw_X3 E q0 S0) → va_S A s.heap H locs → decode cX3_seeFleet pc = .ok (.return_, 1) → W p l e ({ frames := 0, cells := 0, slots := 0, locals := 0 } : Room) s m ar below meth c H locs 0 0 QM (F0 m pc ls []) := by
    intro S0 H locs ls pc e hP hD hS d
    obtain rfl := sm_e e
    exact RET H locs pc ls hP hD hS d
  clear RET
  obtain ⟨H, eH⟩ : ∃ z, z = s.heap := ⟨_, rfl⟩
  rw [← eH]
  have hP : va_P E.1 vwCl (cw_X3 E q0 S0) H := by rw [eH]; exact hP
  have hS : va_S A s.heap H [] := by rw [eH]; exact hS
  clear eH
  obtain ⟨locs, el⟩ : ∃ z : List Loc, z = [] := ⟨_, rfl⟩
  rw [← el] at hS ⊢
  clear el
  refine lv_aload_n hx hb dX3_seeFleet_0 rfl (lv_at hl 0 rfl) ?_
  refine va_get (D := E.1) (ci := 2) (v := .ref (q0 6)) (C := RX3) (T := TX3) (N := 12) hx hb hg in_X3 hown X.1 hP 0 rfl rfl 7 (by decide) (hg _ wf_X3_34) (fun _ h9 => h9) rfl dX3_seeFleet_1 ?_
  refine lv_iconst (v := 1) hx hb dX3_seeFleet_4 (by decide) ?_
  refine lv_iload_n hx hb dX3_seeFleet_5 rfl (lv_at hl 1 rfl) ?_
  obtain ⟨hi, h⟩ := ck_el h
  obtain ⟨S0_1, eS, h⟩ := lt_el h
  refine va_iast hx hb X.1 hP hD hS 6 0 rfl rfl hi dX3_seeFleet_6 (fun H locs hP hD hS => ?_)
  have hP : va_P E.1 vwCl (cw_X3 E q0 S0_1) H := by rw [eS]; exact hP
  have hD : va_D A (cw_X3 E q0 S0_1) := by rw [eS]; exact hD
  clear eS
  refine lv_aload_n hx hb dX3_seeFleet_7 rfl (lv_at hl 0 rfl) ?_
  refine va_get (D := E.1) (ci := 2) (v := .ref (q0 6)) (C := RX3) (T := TX3) (N := 12) hx hb hg in_X3 hown X.1 hP 0 rfl rfl 7 (by decide) (hg _ wf_X3_34) (fun _ h9 => h9) rfl dX3_seeFleet_8 ?_
  refine lv_iconst (v := 4) hx hb dX3_seeFleet_11 (by decide) ?_
  refine lv_iload_n hx hb dX3_seeFleet_12 rfl (lv_at hl 2 rfl) ?_
  obtain ⟨hi, h⟩ := ck_el h
  obtain ⟨S0_2, eS, h⟩ := lt_el h
  refine va_iast hx hb X.1 hP hD hS 6 0 rfl rfl hi dX3_seeFleet_13 (fun H locs hP hD hS => ?_)
  have hP : va_P E.1 vwCl (cw_X3 E q0 S0_2) H := by rw [eS]; exact hP
  have hD : va_D A (cw_X3 E q0 S0_2) := by rw [eS]; exact hD
  clear eS
  refine lv_aload_n hx hb dX3_seeFleet_14 rfl (lv_at hl 0 rfl) ?_
  refine va_get (D := E.1) (ci := 2) (v := .ref (q0 6)) (C := RX3) (T := TX3) (N := 12) hx hb hg in_X3 hown X.1 hP 0 rfl rfl 7 (by decide) (hg _ wf_X3_34) (fun _ h9 => h9) rfl dX3_seeFleet_15 ?_
  refine lv_iconst (v := 5) hx hb dX3_seeFleet_18 (by decide) ?_
  refine lv_iload_n hx hb dX3_seeFleet_19 rfl (lv_at hl 3 rfl) ?_
  obtain ⟨hi, h⟩ := ck_el h
  obtain ⟨S0_3, eS, h⟩ := lt_el h
  refine va_iast hx hb X.1 hP hD hS 6 0 rfl rfl hi dX3_seeFleet_20 (fun H locs hP hD hS => ?_)
  have hP : va_P E.1 vwCl (cw_X3 E q0 S0_3) H := by rw [eS]; exact hP
  have hD : va_D A (cw_X3 E q0 S0_3) := by rw [eS]; exact hD
  clear eS
  refine lv_aload_n hx hb dX3_seeFleet_21 rfl (lv_at hl 0 rfl) ?_
  refine va_get (D := E.1) (ci := 2) (v := .ref (q0 6)) (C := RX3) (T := TX3) (N := 12) hx hb hg in_X3 hown X.1 hP 0 rfl rfl 7 (by decide) (hg _ wf_X3_34) (fun _ h9 => h9) rfl dX3_seeFleet_22 ?_
  refine lv_bipush (v := 7) hx hb dX3_seeFleet_25 (by decide) ?_
  refine lv_iload hx hb dX3_seeFleet_27 (lv_at hl 4 rfl) ?_
  obtain ⟨hi, h⟩ := ck_el h
  obtain ⟨S0_4, eS, h⟩ := lt_el h
  refine va_iast hx hb X.1 hP hD hS 6 0 rfl rfl hi dX3_seeFleet_29 (fun H locs hP hD hS => ?_)
  have hP : va_P E.1 vwCl (cw_X3 E q0 S0_4) H := by rw [eS]; exact hP
  have hD : va_D A (cw_X3 E q0 S0_4) := by rw [eS]; exact hD
  clear eS
  refine lv_aload_n hx hb dX3_seeFleet_30 rfl (lv_at hl 0 rfl) ?_
  refine va_get (D := E.1) (ci := 2) (v := .ref (q0 6)) (C := RX3) (T := TX3) (N := 12) hx hb hg in_X3 hown X.1 hP 0 rfl rfl 7 (by decide) (hg _ wf_X3_34) (fun _ h9 => h9) rfl dX3_seeFleet_31 ?_
  refine lv_bipush (v := 9) hx hb dX3_seeFleet_34 (by decide) ?_
  refine lv_iload hx hb dX3_seeFleet_36 (lv_at hl 5 rfl) ?_
  obtain ⟨hi, h⟩ := ck_el h
  obtain ⟨S0_5, eS, h⟩ := lt_el h
  refine va_iast hx hb X.1 hP hD hS 6 0 rfl rfl hi dX3_seeFleet_38 (fun H locs hP hD hS => ?_)
  have hP : va_P E.1 vwCl (cw_X3 E q0 S0_5) H := by rw [eS]; exact hP
  have hD : va_D A (cw_X3 E q0 S0_5) := by rw [eS]; exact hD
  clear eS
  exact RT S0_5 _ _ _ _ h hP hD hS dX3_seeFleet_39
theorem dX3_seeNoFleet_0 : decode cX3_seeNoFleet 0 = .ok (.aload_n 0, 1) := by decide +kernel
theorem dX3_seeNoFleet_1 : decode cX3_seeNoFleet 1 = .ok (.bipush 8, 2) := by decide +kernel
theorem dX3_seeNoFleet_3 : decode cX3_seeNoFleet 3 = .ok (.iconst 0, 1) := by decide +kernel
theorem dX3_seeNoFleet_4 : decode cX3_seeNoFleet 4 = .ok (.iconst 0, 1) := by decide +kernel
theorem dX3_seeNoFleet_5 : decode cX3_seeNoFleet 5 = .ok (.bipush 8, 2) := by decide +kernel
theorem dX3_seeNoFleet_7 : decode cX3_seeNoFleet 7 = .ok (.iconst 0, 1) := by decide +kernel
theorem dX3_seeNoFleet_8 : decode cX3_seeNoFleet 8 = .ok (.invokevirtual 61, 3) := by decide +kernel
theorem dX3_seeNoFleet_11 : decode cX3_seeNoFleet 11 = .ok (.return_, 1) := by decide +kernel
def f_X3_seeNoFleet (S0 : Gr) : Option (Gr) := (f_X3_seeFleet S0 8 0 0 8 0).bind fun u1 => some u1
set_option maxHeartbeats 4000000 in
set_option maxRecDepth 100000 in
theorem c_X3_seeNoFleet (l : Launch) (E : Ec) (q0 : Nat → Nat) (sz : Nat) (S0 : Gr) (Rv : Gr) (h : f_X3_seeNoFleet S0 = some Rv) : Met l yX3_seeNoFleet (wsM (.code yX3_seeNoFleet cX3_seeNoFleet 1 none)) ({ frames := 1, cells := 0, slots := 0, locals := 25 } : Room) (va_Pc [.ref (q0 0)] (ctP E (cw_X3 E q0 S0) sz)) (ctV E (cw_X3 E q0 S0) (cw_X3 E q0 Rv) sz) 0 0 (va_A (cw_X3 E q0 S0) sz) := by
  refine ct_metV (by decide) (Nat.le_of_ble_eq_true rfl) ?_
  intro p e s m ar below meth c A QM hx hb hml hown hg X hP hD hS RET ls hl
  have hown : s.vm.findClass RX3 = some m.cls := hown
  have hl : lv_has ls 1 [(0, .ref (q0 0))] := hl
  have RT : ∀ (S0 : Gr) (H : Heap) (locs : List Loc) (ls : Array Slot) (pc : Nat), some S0 = some Rv → va_P E.1 vwCl (cw_X3 E q0 S0) H → va_D A (cw_X3 E q0 S0) → va_S A s.heap H locs → decode cX3_seeNoFleet pc = .ok (.return_, 1) → W p l e ({ frames := 1, cells := 0, slots := 0, locals := 25 } : Room) s m ar below meth c H locs 0 0 QM (F0 m pc ls []) := by
    intro S0 H locs ls pc e hP hD hS d
    obtain rfl := sm_e e
    exact RET H locs pc ls hP hD hS d
  clear RET
  obtain ⟨H, eH⟩ : ∃ z, z = s.heap := ⟨_, rfl⟩
  rw [← eH]
  have hP : va_P E.1 vwCl (cw_X3 E q0 S0) H := by rw [eH]; exact hP
  have hS : va_S A s.heap H [] := by rw [eH]; exact hS
  clear eH
  obtain ⟨locs, el⟩ : ∃ z : List Loc, z = [] := ⟨_, rfl⟩
  rw [← el] at hS ⊢
  clear el
  refine lv_aload_n hx hb dX3_seeNoFleet_0 rfl (lv_at hl 0 rfl) ?_
  refine lv_bipush (v := 8) hx hb dX3_seeNoFleet_1 (by decide) ?_
  refine lv_iconst (v := 0) hx hb dX3_seeNoFleet_3 (by decide) ?_
  refine lv_iconst (v := 0) hx hb dX3_seeNoFleet_4 (by decide) ?_
  refine lv_bipush (v := 8) hx hb dX3_seeNoFleet_5 (by decide) ?_
  refine lv_iconst (v := 0) hx hb dX3_seeNoFleet_7 (by decide) ?_
  obtain ⟨u1, hc, h⟩ := bd_el h
  refine ct_vA (w1 := cw_X3 E q0 u1) X hP hD hS (va_runV (C := RX3) (As := [.int 8, .int 0, .int 0, .int 8, .int 0]) (rest := []) ⟨hx, hb, hml, hown, hg⟩ (c_X3_seeFleet l E q0 H.size S0 8 0 0 8 0 u1 hc) (cwV 5 hg (gwV wm_X3_61 wi_X3_seeFleet wsl_X3_seeFleet wini_X3 wco_X3_seeFleet) rfl rfl rfl (by decide +kernel) ⟨Nat.le_of_ble_eq_true rfl, Nat.le_of_ble_eq_true rfl⟩) ⟨ct_blind, ct_rv X.1 hP 0 rfl rfl, ct_preA X hP hD hS _⟩ rfl rfl hl.1 rfl (lv_room (Nat.le_of_ble_eq_true rfl)) dX3_seeNoFleet_8 ⟨Nat.zero_le _, Nat.zero_le _⟩) (fun H locs hP hD hS => ?_)
  exact RT u1 _ _ _ _ h hP hD hS dX3_seeNoFleet_11
theorem dX3_seeWeb_0 : decode cX3_seeWeb 0 = .ok (.aload_n 0, 1) := by decide +kernel
theorem dX3_seeWeb_1 : decode cX3_seeWeb 1 = .ok (.getfield 34, 3) := by decide +kernel
theorem dX3_seeWeb_4 : decode cX3_seeWeb 4 = .ok (.iconst 0, 1) := by decide +kernel
theorem dX3_seeWeb_5 : decode cX3_seeWeb 5 = .ok (.iload_n 1, 1) := by decide +kernel
theorem dX3_seeWeb_6 : decode cX3_seeWeb 6 = .ok (.iastore, 1) := by decide +kernel
theorem dX3_seeWeb_7 : decode cX3_seeWeb 7 = .ok (.aload_n 0, 1) := by decide +kernel
theorem dX3_seeWeb_8 : decode cX3_seeWeb 8 = .ok (.getfield 34, 3) := by decide +kernel
theorem dX3_seeWeb_11 : decode cX3_seeWeb 11 = .ok (.iconst 2, 1) := by decide +kernel
theorem dX3_seeWeb_12 : decode cX3_seeWeb 12 = .ok (.iload_n 2, 1) := by decide +kernel
theorem dX3_seeWeb_13 : decode cX3_seeWeb 13 = .ok (.iastore, 1) := by decide +kernel
theorem dX3_seeWeb_14 : decode cX3_seeWeb 14 = .ok (.aload_n 0, 1) := by decide +kernel
theorem dX3_seeWeb_15 : decode cX3_seeWeb 15 = .ok (.getfield 34, 3) := by decide +kernel
theorem dX3_seeWeb_18 : decode cX3_seeWeb 18 = .ok (.iconst 3, 1) := by decide +kernel
theorem dX3_seeWeb_19 : decode cX3_seeWeb 19 = .ok (.iload_n 3, 1) := by decide +kernel
theorem dX3_seeWeb_20 : decode cX3_seeWeb 20 = .ok (.iastore, 1) := by decide +kernel
theorem dX3_seeWeb_21 : decode cX3_seeWeb 21 = .ok (.aload_n 0, 1) := by decide +kernel
theorem dX3_seeWeb_22 : decode cX3_seeWeb 22 = .ok (.getfield 34, 3) := by decide +kernel
theorem dX3_seeWeb_25 : decode cX3_seeWeb 25 = .ok (.bipush 6, 2) := by decide +kernel
theorem dX3_seeWeb_27 : decode cX3_seeWeb 27 = .ok (.iload 4, 2) := by decide +kernel
theorem dX3_seeWeb_29 : decode cX3_seeWeb 29 = .ok (.iastore, 1) := by decide +kernel
theorem dX3_seeWeb_30 : decode cX3_seeWeb 30 = .ok (.aload_n 0, 1) := by decide +kernel
theorem dX3_seeWeb_31 : decode cX3_seeWeb 31 = .ok (.getfield 34, 3) := by decide +kernel
theorem dX3_seeWeb_34 : decode cX3_seeWeb 34 = .ok (.bipush 8, 2) := by decide +kernel
theorem dX3_seeWeb_36 : decode cX3_seeWeb 36 = .ok (.iload 5, 2) := by decide +kernel
theorem dX3_seeWeb_38 : decode cX3_seeWeb 38 = .ok (.iastore, 1) := by decide +kernel
theorem dX3_seeWeb_39 : decode cX3_seeWeb 39 = .ok (.return_, 1) := by decide +kernel
def f_X3_seeWeb (S0 : Gr) (x1 : Int32) (x2 : Int32) (x3 : Int32) (x4 : Int32) (x5 : Int32) : Option (Gr) := ck' 10 0 (lt' (sA S0 7 (Int32.toNatClampNeg 0) x1) fun S0_1 => ck' 10 2 (lt' (sA S0_1 7 (Int32.toNatClampNeg 2) x2) fun S0_2 => ck' 10 3 (lt' (sA S0_2 7 (Int32.toNatClampNeg 3) x3) fun S0_3 => ck' 10 6 (lt' (sA S0_3 7 (Int32.toNatClampNeg 6) x4) fun S0_4 => ck' 10 8 (lt' (sA S0_4 7 (Int32.toNatClampNeg 8) x5) fun S0_5 => some S0_5)))))
set_option maxHeartbeats 4000000 in
set_option maxRecDepth 100000 in
theorem c_X3_seeWeb (l : Launch) (E : Ec) (q0 : Nat → Nat) (sz : Nat) (S0 : Gr) (x1 : Int32) (x2 : Int32) (x3 : Int32) (x4 : Int32) (x5 : Int32) (Rv : Gr) (h : f_X3_seeWeb S0 x1 x2 x3 x4 x5 = some Rv) : Met l yX3_seeWeb (wsM (.code yX3_seeWeb cX3_seeWeb 6 none)) ({ frames := 0, cells := 0, slots := 0, locals := 0 } : Room) (va_Pc [.ref (q0 0), .int x1, .int x2, .int x3, .int x4, .int x5] (ctP E (cw_X3 E q0 S0) sz)) (ctV E (cw_X3 E q0 S0) (cw_X3 E q0 Rv) sz) 0 0 (va_A (cw_X3 E q0 S0) sz) := by
  refine ct_metV (by decide) (Nat.le_of_ble_eq_true rfl) ?_
  intro p e s m ar below meth c A QM hx hb hml hown hg X hP hD hS RET ls hl
  have hown : s.vm.findClass RX3 = some m.cls := hown
  have hl : lv_has ls 6 [(0, .ref (q0 0)), (1, .int x1), (2, .int x2), (3, .int x3), (4, .int x4), (5, .int x5)] := hl
  have RT : ∀ (S0 : Gr) (H : Heap) (locs : List Loc) (ls : Array Slot) (pc : Nat), some S0 = some Rv → va_P E.1 vwCl (cw_X3 E q0 S0) H → va_D A (cw_X3 E q0 S0) → va_S A s.heap H locs → decode cX3_seeWeb pc = .ok (.return_, 1) → W p l e ({ frames := 0, cells := 0, slots := 0, locals := 0 } : Room) s m ar below meth c H locs 0 0 QM (F0 m pc ls []) := by
    intro S0 H locs ls pc e hP hD hS d
    obtain rfl := sm_e e
    exact RET H locs pc ls hP hD hS d
  clear RET
  obtain ⟨H, eH⟩ : ∃ z, z = s.heap := ⟨_, rfl⟩
  rw [← eH]
  have hP : va_P E.1 vwCl (cw_X3 E q0 S0) H := by rw [eH]; exact hP
  have hS : va_S A s.heap H [] := by rw [eH]; exact hS
  clear eH
  obtain ⟨locs, el⟩ : ∃ z : List Loc, z = [] := ⟨_, rfl⟩
  rw [← el] at hS ⊢
  clear el
  refine lv_aload_n hx hb dX3_seeWeb_0 rfl (lv_at hl 0 rfl) ?_
  refine va_get (D := E.1) (ci := 2) (v := .ref (q0 6)) (C := RX3) (T := TX3) (N := 12) hx hb hg in_X3 hown X.1 hP 0 rfl rfl 7 (by decide) (hg _ wf_X3_34) (fun _ h9 => h9) rfl dX3_seeWeb_1 ?_
  refine lv_iconst (v := 0) hx hb dX3_seeWeb_4 (by decide) ?_
  refine lv_iload_n hx hb dX3_seeWeb_5 rfl (lv_at hl 1 rfl) ?_
  obtain ⟨hi, h⟩ := ck_el h
  obtain ⟨S0_1, eS, h⟩ := lt_el h
  refine va_iast hx hb X.1 hP hD hS 6 0 rfl rfl hi dX3_seeWeb_6 (fun H locs hP hD hS => ?_)
  have hP : va_P E.1 vwCl (cw_X3 E q0 S0_1) H := by rw [eS]; exact hP
  have hD : va_D A (cw_X3 E q0 S0_1) := by rw [eS]; exact hD
  clear eS
  refine lv_aload_n hx hb dX3_seeWeb_7 rfl (lv_at hl 0 rfl) ?_
  refine va_get (D := E.1) (ci := 2) (v := .ref (q0 6)) (C := RX3) (T := TX3) (N := 12) hx hb hg in_X3 hown X.1 hP 0 rfl rfl 7 (by decide) (hg _ wf_X3_34) (fun _ h9 => h9) rfl dX3_seeWeb_8 ?_
  refine lv_iconst (v := 2) hx hb dX3_seeWeb_11 (by decide) ?_
  refine lv_iload_n hx hb dX3_seeWeb_12 rfl (lv_at hl 2 rfl) ?_
  obtain ⟨hi, h⟩ := ck_el h
  obtain ⟨S0_2, eS, h⟩ := lt_el h
  refine va_iast hx hb X.1 hP hD hS 6 0 rfl rfl hi dX3_seeWeb_13 (fun H locs hP hD hS => ?_)
  have hP : va_P E.1 vwCl (cw_X3 E q0 S0_2) H := by rw [eS]; exact hP
  have hD : va_D A (cw_X3 E q0 S0_2) := by rw [eS]; exact hD
  clear eS
  refine lv_aload_n hx hb dX3_seeWeb_14 rfl (lv_at hl 0 rfl) ?_
  refine va_get (D := E.1) (ci := 2) (v := .ref (q0 6)) (C := RX3) (T := TX3) (N := 12) hx hb hg in_X3 hown X.1 hP 0 rfl rfl 7 (by decide) (hg _ wf_X3_34) (fun _ h9 => h9) rfl dX3_seeWeb_15 ?_
  refine lv_iconst (v := 3) hx hb dX3_seeWeb_18 (by decide) ?_
  refine lv_iload_n hx hb dX3_seeWeb_19 rfl (lv_at hl 3 rfl) ?_
  obtain ⟨hi, h⟩ := ck_el h
  obtain ⟨S0_3, eS, h⟩ := lt_el h
  refine va_iast hx hb X.1 hP hD hS 6 0 rfl rfl hi dX3_seeWeb_20 (fun H locs hP hD hS => ?_)
  have hP : va_P E.1 vwCl (cw_X3 E q0 S0_3) H := by rw [eS]; exact hP
  have hD : va_D A (cw_X3 E q0 S0_3) := by rw [eS]; exact hD
  clear eS
  refine lv_aload_n hx hb dX3_seeWeb_21 rfl (lv_at hl 0 rfl) ?_
  refine va_get (D := E.1) (ci := 2) (v := .ref (q0 6)) (C := RX3) (T := TX3) (N := 12) hx hb hg in_X3 hown X.1 hP 0 rfl rfl 7 (by decide) (hg _ wf_X3_34) (fun _ h9 => h9) rfl dX3_seeWeb_22 ?_
  refine lv_bipush (v := 6) hx hb dX3_seeWeb_25 (by decide) ?_
  refine lv_iload hx hb dX3_seeWeb_27 (lv_at hl 4 rfl) ?_
  obtain ⟨hi, h⟩ := ck_el h
  obtain ⟨S0_4, eS, h⟩ := lt_el h
  refine va_iast hx hb X.1 hP hD hS 6 0 rfl rfl hi dX3_seeWeb_29 (fun H locs hP hD hS => ?_)
  have hP : va_P E.1 vwCl (cw_X3 E q0 S0_4) H := by rw [eS]; exact hP
  have hD : va_D A (cw_X3 E q0 S0_4) := by rw [eS]; exact hD
  clear eS
  refine lv_aload_n hx hb dX3_seeWeb_30 rfl (lv_at hl 0 rfl) ?_
  refine va_get (D := E.1) (ci := 2) (v := .ref (q0 6)) (C := RX3) (T := TX3) (N := 12) hx hb hg in_X3 hown X.1 hP 0 rfl rfl 7 (by decide) (hg _ wf_X3_34) (fun _ h9 => h9) rfl dX3_seeWeb_31 ?_
  refine lv_bipush (v := 8) hx hb dX3_seeWeb_34 (by decide) ?_
  refine lv_iload hx hb dX3_seeWeb_36 (lv_at hl 5 rfl) ?_
  obtain ⟨hi, h⟩ := ck_el h
  obtain ⟨S0_5, eS, h⟩ := lt_el h
  refine va_iast hx hb X.1 hP hD hS 6 0 rfl rfl hi dX3_seeWeb_38 (fun H locs hP hD hS => ?_)
  have hP : va_P E.1 vwCl (cw_X3 E q0 S0_5) H := by rw [eS]; exact hP
  have hD : va_D A (cw_X3 E q0 S0_5) := by rw [eS]; exact hD
  clear eS
  exact RT S0_5 _ _ _ _ h hP hD hS dX3_seeWeb_39
theorem dX3_worthOf_0 : decode cX3_worthOf 0 = .ok (.iload_n 1, 1) := by decide +kernel
theorem dX3_worthOf_1 : decode cX3_worthOf 1 = .ok (.ifCond .lt 11, 3) := by decide +kernel
theorem dX3_worthOf_4 : decode cX3_worthOf 4 = .ok (.iload_n 1, 1) := by decide +kernel
theorem dX3_worthOf_5 : decode cX3_worthOf 5 = .ok (.aload_n 0, 1) := by decide +kernel
theorem dX3_worthOf_6 : decode cX3_worthOf 6 = .ok (.getfield 9, 3) := by decide +kernel
theorem dX3_worthOf_9 : decode cX3_worthOf 9 = .ok (.if_icmp .lt 5, 3) := by decide +kernel
theorem dX3_worthOf_12 : decode cX3_worthOf 12 = .ok (.iconst 0, 1) := by decide +kernel
theorem dX3_worthOf_13 : decode cX3_worthOf 13 = .ok (.ireturn, 1) := by decide +kernel
theorem dX3_worthOf_14 : decode cX3_worthOf 14 = .ok (.aload_n 0, 1) := by decide +kernel
theorem dX3_worthOf_15 : decode cX3_worthOf 15 = .ok (.aload_n 0, 1) := by decide +kernel
theorem dX3_worthOf_16 : decode cX3_worthOf 16 = .ok (.getfield 19, 3) := by decide +kernel
theorem dX3_worthOf_19 : decode cX3_worthOf 19 = .ok (.iload_n 1, 1) := by decide +kernel
theorem dX3_worthOf_20 : decode cX3_worthOf 20 = .ok (.iaload, 1) := by decide +kernel
theorem dX3_worthOf_21 : decode cX3_worthOf 21 = .ok (.invokevirtual 65, 3) := by decide +kernel
theorem dX3_worthOf_24 : decode cX3_worthOf 24 = .ok (.aload_n 0, 1) := by decide +kernel
theorem dX3_worthOf_25 : decode cX3_worthOf 25 = .ok (.getfield 47, 3) := by decide +kernel
theorem dX3_worthOf_28 : decode cX3_worthOf 28 = .ok (.ifCond .ne 11, 3) := by decide +kernel
theorem dX3_worthOf_31 : decode cX3_worthOf 31 = .ok (.aload_n 0, 1) := by decide +kernel
theorem dX3_worthOf_32 : decode cX3_worthOf 32 = .ok (.getfield 40, 3) := by decide +kernel
theorem dX3_worthOf_35 : decode cX3_worthOf 35 = .ok (.iconst 1, 1) := by decide +kernel
theorem dX3_worthOf_36 : decode cX3_worthOf 36 = .ok (.if_icmp .ge 7, 3) := by decide +kernel
theorem dX3_worthOf_39 : decode cX3_worthOf 39 = .ok (.iconst 0, 1) := by decide +kernel
theorem dX3_worthOf_40 : decode cX3_worthOf 40 = .ok (.goto 18, 3) := by decide +kernel
theorem dX3_worthOf_43 : decode cX3_worthOf 43 = .ok (.iconst 0, 1) := by decide +kernel
theorem dX3_worthOf_44 : decode cX3_worthOf 44 = .ok (.bipush 99, 2) := by decide +kernel
theorem dX3_worthOf_46 : decode cX3_worthOf 46 = .ok (.aload_n 0, 1) := by decide +kernel
theorem dX3_worthOf_47 : decode cX3_worthOf 47 = .ok (.getfield 37, 3) := by decide +kernel
theorem dX3_worthOf_50 : decode cX3_worthOf 50 = .ok (.iconst 0, 1) := by decide +kernel
theorem dX3_worthOf_51 : decode cX3_worthOf 51 = .ok (.iaload, 1) := by decide +kernel
theorem dX3_worthOf_52 : decode cX3_worthOf 52 = .ok (.invokestatic 69, 3) := by decide +kernel
theorem dX3_worthOf_55 : decode cX3_worthOf 55 = .ok (.invokestatic 75, 3) := by decide +kernel
theorem dX3_worthOf_58 : decode cX3_worthOf 58 = .ok (.ireturn, 1) := by decide +kernel
def f_X3_worthOf (S0 : Gr) (x1 : Int32) : Option (Int32 × Gr) := if x1 < 0 then (some (0, S0)) else (if x1 < (S0.1 0) then (rd' (S0.2 2) 16 x1 fun v3 => (f_X3_run S0 v3).bind fun u4 => if (u4.1 11) = 0 then (if 1 ≤ (u4.1 9) then (rd' (u4.2 8) 32 0 fun v7 => lt' (mn' 99 v7) fun v8 => lt' (mx' 0 v8) fun v9 => some (v9, u4)) else (some (0, u4))) else (some (0, u4))) else (some (0, S0)))
set_option maxHeartbeats 4000000 in
set_option maxRecDepth 100000 in
theorem c_X3_worthOf (l : Launch) (E : Ec) (q0 : Nat → Nat) (sz : Nat) (S0 : Gr) (x1 : Int32) (Rv : Int32 × Gr) (h : f_X3_worthOf S0 x1 = some Rv) : Met l yX3_worthOf (wsM (.code yX3_worthOf cX3_worthOf 2 (some .int))) ({ frames := 2, cells := 0, slots := 0, locals := 48 } : Room) (va_Pc [.ref (q0 0), .int x1] (ctP E (cw_X3 E q0 S0) sz)) (ctI E (cw_X3 E q0 S0) (cw_X3 E q0 Rv.2) sz Rv.1) 0 0 (va_A (cw_X3 E q0 S0) sz) := by
  refine ct_metI (by decide) (Nat.le_of_ble_eq_true rfl) ?_
  intro p e s m ar below meth c A QM hx hb hml hown hg X hP hD hS RET ls hl
  have hown : s.vm.findClass RX3 = some m.cls := hown
  have hl : lv_has ls 2 [(0, .ref (q0 0)), (1, .int x1)] := hl
  have RT : ∀ (v : Int32) (S0 : Gr) (H : Heap) (locs : List Loc) (ls : Array Slot) (pc : Nat), some (v, S0) = some Rv → narrow .int (.int v) = .int v → va_P E.1 vwCl (cw_X3 E q0 S0) H → va_D A (cw_X3 E q0 S0) → va_S A s.heap H locs → decode cX3_worthOf pc = .ok (.ireturn, 1) → W p l e ({ frames := 2, cells := 0, slots := 0, locals := 48 } : Room) s m ar below meth c H locs 0 0 QM (F0 m pc ls [.int v]) := by
    intro v S0 H locs ls pc e hn hP hD hS d
    obtain rfl := sm_e e
    exact RET H locs pc ls hn hP hD hS d
  clear RET
  obtain ⟨H, eH⟩ : ∃ z, z = s.heap := ⟨_, rfl⟩
  rw [← eH]
  have hP : va_P E.1 vwCl (cw_X3 E q0 S0) H := by rw [eH]; exact hP
  have hS : va_S A s.heap H [] := by rw [eH]; exact hS
  clear eH
  obtain ⟨locs, el⟩ : ∃ z : List Loc, z = [] := ⟨_, rfl⟩
  rw [← el] at hS ⊢
  clear el
  refine lv_iload_n hx hb dX3_worthOf_0 rfl (lv_at hl 1 rfl) ?_
  refine lv_if_lt (tgt := 12) hx hb dX3_worthOf_1 (by decide) (fun c1 => ?_) (fun c1 => ?_)
  · have h := it_t h c1
    refine lv_iconst (v := 0) hx hb dX3_worthOf_12 (by decide) ?_
    exact RT 0 S0 _ _ _ _ h rfl hP hD hS dX3_worthOf_13
  · have h := it_f h c1
    refine lv_iload_n hx hb dX3_worthOf_4 rfl (lv_at hl 1 rfl) ?_
    refine lv_aload_n hx hb dX3_worthOf_5 rfl (lv_at hl 0 rfl) ?_
    refine va_get (D := E.1) (ci := 2) (v := .int (S0.1 0)) (C := RX3) (T := TX3) (N := 12) hx hb hg in_X3 hown X.1 hP 0 rfl rfl 0 (by decide) (hg _ wf_X3_9) (fun _ h9 => h9) rfl dX3_worthOf_6 ?_
    refine lv_icmp_lt (tgt := 14) hx hb dX3_worthOf_9 (by decide) (fun c2 => ?_) (fun c2 => ?_)
    · have h := it_t h c2
      refine lv_aload_n hx hb dX3_worthOf_14 rfl (lv_at hl 0 rfl) ?_
      refine lv_aload_n hx hb dX3_worthOf_15 rfl (lv_at hl 0 rfl) ?_
      refine va_get (D := E.1) (ci := 2) (v := .ref (q0 2)) (C := RX3) (T := TX3) (N := 12) hx hb hg in_X3 hown X.1 hP 0 rfl rfl 2 (by decide) (hg _ wf_X3_19) (fun _ h9 => h9) rfl dX3_worthOf_16 ?_
      refine lv_iload_n hx hb dX3_worthOf_19 rfl (lv_at hl 1 rfl) ?_
      obtain ⟨hi, v3, ev3, h⟩ := rd_el h
      refine va_iald hx hb X.1 hP 2 0 rfl rfl hi dX3_worthOf_20 ?_
      refine lv_top' ev3 ?_
      obtain ⟨u4, hc, h⟩ := bd_el h
      refine ct_vA (w1 := cw_X3 E q0 u4) X hP hD hS (va_runV (C := RX3) (As := [.int v3]) (rest := []) ⟨hx, hb, hml, hown, hg⟩ (c_X3_run l E q0 H.size S0 v3 u4 hc) (cwV 1 hg (gwV wm_X3_65 wi_X3_run wsl_X3_run wini_X3 wco_X3_run) rfl rfl rfl (by decide +kernel) ⟨Nat.le_of_ble_eq_true rfl, Nat.le_of_ble_eq_true rfl⟩) ⟨ct_blind, ct_rv X.1 hP 0 rfl rfl, ct_preA X hP hD hS _⟩ rfl rfl hl.1 rfl (lv_room (Nat.le_of_ble_eq_true rfl)) dX3_worthOf_21 ⟨Nat.zero_le _, Nat.zero_le _⟩) (fun H locs hP hD hS => ?_)
      refine lv_aload_n hx hb dX3_worthOf_24 rfl (lv_at hl 0 rfl) ?_
      refine va_get (D := E.1) (ci := 2) (v := .int (u4.1 11)) (C := RX3) (T := TX3) (N := 12) hx hb hg in_X3 hown X.1 hP 0 rfl rfl 11 (by decide) (hg _ wf_X3_47) (fun _ h9 => h9) rfl dX3_worthOf_25 ?_
      refine lv_if_ne (tgt := 39) hx hb dX3_worthOf_28 (by decide) (fun c5 => ?_) (fun c5 => ?_)
      · have h := it_f h c5
        refine lv_iconst (v := 0) hx hb dX3_worthOf_39 (by decide) ?_
        refine lv_goto (tgt := 58) hx hb dX3_worthOf_40 (by decide) ?_
        exact RT 0 u4 _ _ _ _ h rfl hP hD hS dX3_worthOf_58
      · have h := it_t h c5
        refine lv_aload_n hx hb dX3_worthOf_31 rfl (lv_at hl 0 rfl) ?_
        refine va_get (D := E.1) (ci := 2) (v := .int (u4.1 9)) (C := RX3) (T := TX3) (N := 12) hx hb hg in_X3 hown X.1 hP 0 rfl rfl 9 (by decide) (hg _ wf_X3_40) (fun _ h9 => h9) rfl dX3_worthOf_32 ?_
        refine lv_iconst (v := 1) hx hb dX3_worthOf_35 (by decide) ?_
        refine lv_icmp_ge (tgt := 43) hx hb dX3_worthOf_36 (by decide) (fun c6 => ?_) (fun c6 => ?_)
        · have h := it_t h c6
          refine lv_iconst (v := 0) hx hb dX3_worthOf_43 (by decide) ?_
          refine lv_bipush (v := 99) hx hb dX3_worthOf_44 (by decide) ?_
          refine lv_aload_n hx hb dX3_worthOf_46 rfl (lv_at hl 0 rfl) ?_
          refine va_get (D := E.1) (ci := 2) (v := .ref (q0 7)) (C := RX3) (T := TX3) (N := 12) hx hb hg in_X3 hown X.1 hP 0 rfl rfl 8 (by decide) (hg _ wf_X3_37) (fun _ h9 => h9) rfl dX3_worthOf_47 ?_
          refine lv_iconst (v := 0) hx hb dX3_worthOf_50 (by decide) ?_
          obtain ⟨hi, v7, ev7, h⟩ := rd_el h
          refine va_iald hx hb X.1 hP 7 0 rfl rfl hi dX3_worthOf_51 ?_
          refine lv_top' ev7 ?_
          obtain ⟨v8, ev8, h⟩ := lt_el h
          refine va_mmin hx hb (hml.trans hl.1.symm) hown (hg _ wm_X3_69) (hg _ wst_Mmin) (hg _ wini_J9) (hg _ wco_Mmin) (Nat.le_of_ble_eq_true rfl) (Nat.le_of_ble_eq_true rfl) (Nat.zero_le _) (Nat.zero_le _) dX3_worthOf_52 ?_
          refine lv_top' ev8 ?_
          obtain ⟨v9, ev9, h⟩ := lt_el h
          refine va_mmax hx hb (hml.trans hl.1.symm) hown (hg _ wm_X3_75) (hg _ wst_Mmax) (hg _ wini_J9) (hg _ wco_Mmax) (Nat.le_of_ble_eq_true rfl) (Nat.le_of_ble_eq_true rfl) (Nat.zero_le _) (Nat.zero_le _) dX3_worthOf_55 ?_
          refine lv_top' ev9 ?_
          exact RT v9 u4 _ _ _ _ h rfl hP hD hS dX3_worthOf_58
        · have h := it_f h c6
          refine lv_iconst (v := 0) hx hb dX3_worthOf_39 (by decide) ?_
          refine lv_goto (tgt := 58) hx hb dX3_worthOf_40 (by decide) ?_
          exact RT 0 u4 _ _ _ _ h rfl hP hD hS dX3_worthOf_58
    · have h := it_f h c2
      refine lv_iconst (v := 0) hx hb dX3_worthOf_12 (by decide) ?_
      exact RT 0 S0 _ _ _ _ h rfl hP hD hS dX3_worthOf_13
theorem dX3_clearRules_0 : decode cX3_clearRules 0 = .ok (.aload_n 0, 1) := by decide +kernel
theorem dX3_clearRules_1 : decode cX3_clearRules 1 = .ok (.iconst 0, 1) := by decide +kernel
theorem dX3_clearRules_2 : decode cX3_clearRules 2 = .ok (.putfield 9, 3) := by decide +kernel
theorem dX3_clearRules_5 : decode cX3_clearRules 5 = .ok (.aload_n 0, 1) := by decide +kernel
theorem dX3_clearRules_6 : decode cX3_clearRules 6 = .ok (.iconst 0, 1) := by decide +kernel
theorem dX3_clearRules_7 : decode cX3_clearRules 7 = .ok (.putfield 25, 3) := by decide +kernel
theorem dX3_clearRules_10 : decode cX3_clearRules 10 = .ok (.return_, 1) := by decide +kernel
def f_X3_clearRules (S0 : Gr) : Option (Gr) := lt' (sI S0 0 0) fun S0_1 => lt' (sI S0_1 4 0) fun S0_2 => some S0_2
set_option maxHeartbeats 4000000 in
set_option maxRecDepth 100000 in
theorem c_X3_clearRules (l : Launch) (E : Ec) (q0 : Nat → Nat) (sz : Nat) (S0 : Gr) (Rv : Gr) (h : f_X3_clearRules S0 = some Rv) : Met l yX3_clearRules (wsM (.code yX3_clearRules cX3_clearRules 1 none)) ({ frames := 0, cells := 0, slots := 0, locals := 0 } : Room) (va_Pc [.ref (q0 0)] (ctP E (cw_X3 E q0 S0) sz)) (ctV E (cw_X3 E q0 S0) (cw_X3 E q0 Rv) sz) 0 0 (va_A (cw_X3 E q0 S0) sz) := by
  refine ct_metV (by decide) (Nat.le_of_ble_eq_true rfl) ?_
  intro p e s m ar below meth c A QM hx hb hml hown hg X hP hD hS RET ls hl
  have hown : s.vm.findClass RX3 = some m.cls := hown
  have hl : lv_has ls 1 [(0, .ref (q0 0))] := hl
  have RT : ∀ (S0 : Gr) (H : Heap) (locs : List Loc) (ls : Array Slot) (pc : Nat), some S0 = some Rv → va_P E.1 vwCl (cw_X3 E q0 S0) H → va_D A (cw_X3 E q0 S0) → va_S A s.heap H locs → decode cX3_clearRules pc = .ok (.return_, 1) → W p l e ({ frames := 0, cells := 0, slots := 0, locals := 0 } : Room) s m ar below meth c H locs 0 0 QM (F0 m pc ls []) := by
    intro S0 H locs ls pc e hP hD hS d
    obtain rfl := sm_e e
    exact RET H locs pc ls hP hD hS d
  clear RET
  obtain ⟨H, eH⟩ : ∃ z, z = s.heap := ⟨_, rfl⟩
  rw [← eH]
  have hP : va_P E.1 vwCl (cw_X3 E q0 S0) H := by rw [eH]; exact hP
  have hS : va_S A s.heap H [] := by rw [eH]; exact hS
  clear eH
  obtain ⟨locs, el⟩ : ∃ z : List Loc, z = [] := ⟨_, rfl⟩
  rw [← el] at hS ⊢
  clear el
  refine lv_aload_n hx hb dX3_clearRules_0 rfl (lv_at hl 0 rfl) ?_
  refine lv_iconst (v := 0) hx hb dX3_clearRules_1 (by decide) ?_
  obtain ⟨S0_1, eS, h⟩ := lt_el h
  refine va_put (D := E.1) (ci := 2) (v := .int 0) (ty := .int) (C := RX3) (T := TX3) (N := 12) hx hb hg in_X3 tyX3 tyX3_ok nmX3 hown X.1 hP hD hS 0 rfl rfl 0 (by decide) (hg _ wf_X3_9) (fun _ h9 => h9) rfl (by decide +kernel) rfl rfl (Nat.le_of_ble_eq_true rfl) dX3_clearRules_2 (fun H locs hP hD hS => ?_)
  have hP : va_P E.1 vwCl (cw_X3 E q0 S0_1) H := by rw [eS]; exact hP
  have hD : va_D A (cw_X3 E q0 S0_1) := by rw [eS]; exact hD
  clear eS
  refine lv_aload_n hx hb dX3_clearRules_5 rfl (lv_at hl 0 rfl) ?_
  refine lv_iconst (v := 0) hx hb dX3_clearRules_6 (by decide) ?_
  obtain ⟨S0_2, eS, h⟩ := lt_el h
  refine va_put (D := E.1) (ci := 2) (v := .int 0) (ty := .int) (C := RX3) (T := TX3) (N := 12) hx hb hg in_X3 tyX3 tyX3_ok nmX3 hown X.1 hP hD hS 0 rfl rfl 4 (by decide) (hg _ wf_X3_25) (fun _ h9 => h9) rfl (by decide +kernel) rfl rfl (Nat.le_of_ble_eq_true rfl) dX3_clearRules_7 (fun H locs hP hD hS => ?_)
  have hP : va_P E.1 vwCl (cw_X3 E q0 S0_2) H := by rw [eS]; exact hP
  have hD : va_D A (cw_X3 E q0 S0_2) := by rw [eS]; exact hD
  clear eS
  exact RT S0_2 _ _ _ _ h hP hD hS dX3_clearRules_10
theorem dX3_beginRule_0 : decode cX3_beginRule 0 = .ok (.aload_n 0, 1) := by decide +kernel
theorem dX3_beginRule_1 : decode cX3_beginRule 1 = .ok (.getfield 9, 3) := by decide +kernel
theorem dX3_beginRule_4 : decode cX3_beginRule 4 = .ok (.bipush 16, 2) := by decide +kernel
theorem dX3_beginRule_6 : decode cX3_beginRule 6 = .ok (.if_icmp .ge 49, 3) := by decide +kernel
theorem dX3_beginRule_9 : decode cX3_beginRule 9 = .ok (.aload_n 0, 1) := by decide +kernel
theorem dX3_beginRule_10 : decode cX3_beginRule 10 = .ok (.getfield 15, 3) := by decide +kernel
theorem dX3_beginRule_13 : decode cX3_beginRule 13 = .ok (.aload_n 0, 1) := by decide +kernel
theorem dX3_beginRule_14 : decode cX3_beginRule 14 = .ok (.getfield 9, 3) := by decide +kernel
theorem dX3_beginRule_17 : decode cX3_beginRule 17 = .ok (.iload_n 1, 1) := by decide +kernel
theorem dX3_beginRule_18 : decode cX3_beginRule 18 = .ok (.iastore, 1) := by decide +kernel
theorem dX3_beginRule_19 : decode cX3_beginRule 19 = .ok (.aload_n 0, 1) := by decide +kernel
theorem dX3_beginRule_20 : decode cX3_beginRule 20 = .ok (.getfield 19, 3) := by decide +kernel
theorem dX3_beginRule_23 : decode cX3_beginRule 23 = .ok (.aload_n 0, 1) := by decide +kernel
theorem dX3_beginRule_24 : decode cX3_beginRule 24 = .ok (.getfield 9, 3) := by decide +kernel
theorem dX3_beginRule_27 : decode cX3_beginRule 27 = .ok (.aload_n 0, 1) := by decide +kernel
theorem dX3_beginRule_28 : decode cX3_beginRule 28 = .ok (.getfield 25, 3) := by decide +kernel
theorem dX3_beginRule_31 : decode cX3_beginRule 31 = .ok (.iastore, 1) := by decide +kernel
theorem dX3_beginRule_32 : decode cX3_beginRule 32 = .ok (.aload_n 0, 1) := by decide +kernel
theorem dX3_beginRule_33 : decode cX3_beginRule 33 = .ok (.getfield 22, 3) := by decide +kernel
theorem dX3_beginRule_36 : decode cX3_beginRule 36 = .ok (.aload_n 0, 1) := by decide +kernel
theorem dX3_beginRule_37 : decode cX3_beginRule 37 = .ok (.getfield 9, 3) := by decide +kernel
theorem dX3_beginRule_40 : decode cX3_beginRule 40 = .ok (.aload_n 0, 1) := by decide +kernel
theorem dX3_beginRule_41 : decode cX3_beginRule 41 = .ok (.getfield 25, 3) := by decide +kernel
theorem dX3_beginRule_44 : decode cX3_beginRule 44 = .ok (.iastore, 1) := by decide +kernel
theorem dX3_beginRule_45 : decode cX3_beginRule 45 = .ok (.aload_n 0, 1) := by decide +kernel
theorem dX3_beginRule_46 : decode cX3_beginRule 46 = .ok (.dup, 1) := by decide +kernel
theorem dX3_beginRule_47 : decode cX3_beginRule 47 = .ok (.getfield 9, 3) := by decide +kernel
theorem dX3_beginRule_50 : decode cX3_beginRule 50 = .ok (.iconst 1, 1) := by decide +kernel
theorem dX3_beginRule_51 : decode cX3_beginRule 51 = .ok (.iadd, 1) := by decide +kernel
theorem dX3_beginRule_52 : decode cX3_beginRule 52 = .ok (.putfield 9, 3) := by decide +kernel
theorem dX3_beginRule_55 : decode cX3_beginRule 55 = .ok (.return_, 1) := by decide +kernel
def f_X3_beginRule (S0 : Gr) (x1 : Int32) : Option (Gr) := if 16 ≤ (S0.1 0) then (some S0) else (ck' 16 (S0.1 0) (lt' (sA S0 1 (Int32.toNatClampNeg (S0.1 0)) x1) fun S0_2 => ck' 16 (S0_2.1 0) (lt' (sA S0_2 2 (Int32.toNatClampNeg (S0_2.1 0)) (S0_2.1 4)) fun S0_3 => ck' 16 (S0_3.1 0) (lt' (sA S0_3 3 (Int32.toNatClampNeg (S0_3.1 0)) (S0_3.1 4)) fun S0_4 => lt' (sI S0_4 0 ((S0_4.1 0) + 1)) fun S0_5 => some S0_5))))
set_option maxHeartbeats 4000000 in
set_option maxRecDepth 100000 in
theorem c_X3_beginRule (l : Launch) (E : Ec) (q0 : Nat → Nat) (sz : Nat) (S0 : Gr) (x1 : Int32) (Rv : Gr) (h : f_X3_beginRule S0 x1 = some Rv) : Met l yX3_beginRule (wsM (.code yX3_beginRule cX3_beginRule 2 none)) ({ frames := 0, cells := 0, slots := 0, locals := 0 } : Room) (va_Pc [.ref (q0 0), .int x1] (ctP E (cw_X3 E q0 S0) sz)) (ctV E (cw_X3 E q0 S0) (cw_X3 E q0 Rv) sz) 0 0 (va_A (cw_X3 E q0 S0) sz) := by
  refine ct_metV (by decide) (Nat.le_of_ble_eq_true rfl) ?_
  intro p e s m ar below meth c A QM hx hb hml hown hg X hP hD hS RET ls hl
  have hown : s.vm.findClass RX3 = some m.cls := hown
  have hl : lv_has ls 2 [(0, .ref (q0 0)), (1, .int x1)] := hl
  have RT : ∀ (S0 : Gr) (H : Heap) (locs : List Loc) (ls : Array Slot) (pc : Nat), some S0 = some Rv → va_P E.1 vwCl (cw_X3 E q0 S0) H → va_D A (cw_X3 E q0 S0) → va_S A s.heap H locs → decode cX3_beginRule pc = .ok (.return_, 1) → W p l e ({ frames := 0, cells := 0, slots := 0, locals := 0 } : Room) s m ar below meth c H locs 0 0 QM (F0 m pc ls []) := by
    intro S0 H locs ls pc e hP hD hS d
    obtain rfl := sm_e e
    exact RET H locs pc ls hP hD hS d
  clear RET
  obtain ⟨H, eH⟩ : ∃ z, z = s.heap := ⟨_, rfl⟩
  rw [← eH]
  have hP : va_P E.1 vwCl (cw_X3 E q0 S0) H := by rw [eH]; exact hP
  have hS : va_S A s.heap H [] := by rw [eH]; exact hS
  clear eH
  obtain ⟨locs, el⟩ : ∃ z : List Loc, z = [] := ⟨_, rfl⟩
  rw [← el] at hS ⊢
  clear el
  refine lv_aload_n hx hb dX3_beginRule_0 rfl (lv_at hl 0 rfl) ?_
  refine va_get (D := E.1) (ci := 2) (v := .int (S0.1 0)) (C := RX3) (T := TX3) (N := 12) hx hb hg in_X3 hown X.1 hP 0 rfl rfl 0 (by decide) (hg _ wf_X3_9) (fun _ h9 => h9) rfl dX3_beginRule_1 ?_
  refine lv_bipush (v := 16) hx hb dX3_beginRule_4 (by decide) ?_
  refine lv_icmp_ge (tgt := 55) hx hb dX3_beginRule_6 (by decide) (fun c1 => ?_) (fun c1 => ?_)
  · have h := it_t h c1
    exact RT S0 _ _ _ _ h hP hD hS dX3_beginRule_55
  · have h := it_f h c1
    refine lv_aload_n hx hb dX3_beginRule_9 rfl (lv_at hl 0 rfl) ?_
    refine va_get (D := E.1) (ci := 2) (v := .ref (q0 1)) (C := RX3) (T := TX3) (N := 12) hx hb hg in_X3 hown X.1 hP 0 rfl rfl 1 (by decide) (hg _ wf_X3_15) (fun _ h9 => h9) rfl dX3_beginRule_10 ?_
    refine lv_aload_n hx hb dX3_beginRule_13 rfl (lv_at hl 0 rfl) ?_
    refine va_get (D := E.1) (ci := 2) (v := .int (S0.1 0)) (C := RX3) (T := TX3) (N := 12) hx hb hg in_X3 hown X.1 hP 0 rfl rfl 0 (by decide) (hg _ wf_X3_9) (fun _ h9 => h9) rfl dX3_beginRule_14 ?_
    refine lv_iload_n hx hb dX3_beginRule_17 rfl (lv_at hl 1 rfl) ?_
    obtain ⟨hi, h⟩ := ck_el h
    obtain ⟨S0_2, eS, h⟩ := lt_el h
    refine va_iast hx hb X.1 hP hD hS 1 0 rfl rfl hi dX3_beginRule_18 (fun H locs hP hD hS => ?_)
    have hP : va_P E.1 vwCl (cw_X3 E q0 S0_2) H := by rw [eS]; exact hP
    have hD : va_D A (cw_X3 E q0 S0_2) := by rw [eS]; exact hD
    clear eS
    refine lv_aload_n hx hb dX3_beginRule_19 rfl (lv_at hl 0 rfl) ?_
    refine va_get (D := E.1) (ci := 2) (v := .ref (q0 2)) (C := RX3) (T := TX3) (N := 12) hx hb hg in_X3 hown X.1 hP 0 rfl rfl 2 (by decide) (hg _ wf_X3_19) (fun _ h9 => h9) rfl dX3_beginRule_20 ?_
    refine lv_aload_n hx hb dX3_beginRule_23 rfl (lv_at hl 0 rfl) ?_
    refine va_get (D := E.1) (ci := 2) (v := .int (S0_2.1 0)) (C := RX3) (T := TX3) (N := 12) hx hb hg in_X3 hown X.1 hP 0 rfl rfl 0 (by decide) (hg _ wf_X3_9) (fun _ h9 => h9) rfl dX3_beginRule_24 ?_
    refine lv_aload_n hx hb dX3_beginRule_27 rfl (lv_at hl 0 rfl) ?_
    refine va_get (D := E.1) (ci := 2) (v := .int (S0_2.1 4)) (C := RX3) (T := TX3) (N := 12) hx hb hg in_X3 hown X.1 hP 0 rfl rfl 4 (by decide) (hg _ wf_X3_25) (fun _ h9 => h9) rfl dX3_beginRule_28 ?_
    obtain ⟨hi, h⟩ := ck_el h
    obtain ⟨S0_3, eS, h⟩ := lt_el h
    refine va_iast hx hb X.1 hP hD hS 2 0 rfl rfl hi dX3_beginRule_31 (fun H locs hP hD hS => ?_)
    have hP : va_P E.1 vwCl (cw_X3 E q0 S0_3) H := by rw [eS]; exact hP
    have hD : va_D A (cw_X3 E q0 S0_3) := by rw [eS]; exact hD
    clear eS
    refine lv_aload_n hx hb dX3_beginRule_32 rfl (lv_at hl 0 rfl) ?_
    refine va_get (D := E.1) (ci := 2) (v := .ref (q0 3)) (C := RX3) (T := TX3) (N := 12) hx hb hg in_X3 hown X.1 hP 0 rfl rfl 3 (by decide) (hg _ wf_X3_22) (fun _ h9 => h9) rfl dX3_beginRule_33 ?_
    refine lv_aload_n hx hb dX3_beginRule_36 rfl (lv_at hl 0 rfl) ?_
    refine va_get (D := E.1) (ci := 2) (v := .int (S0_3.1 0)) (C := RX3) (T := TX3) (N := 12) hx hb hg in_X3 hown X.1 hP 0 rfl rfl 0 (by decide) (hg _ wf_X3_9) (fun _ h9 => h9) rfl dX3_beginRule_37 ?_
    refine lv_aload_n hx hb dX3_beginRule_40 rfl (lv_at hl 0 rfl) ?_
    refine va_get (D := E.1) (ci := 2) (v := .int (S0_3.1 4)) (C := RX3) (T := TX3) (N := 12) hx hb hg in_X3 hown X.1 hP 0 rfl rfl 4 (by decide) (hg _ wf_X3_25) (fun _ h9 => h9) rfl dX3_beginRule_41 ?_
    obtain ⟨hi, h⟩ := ck_el h
    obtain ⟨S0_4, eS, h⟩ := lt_el h
    refine va_iast hx hb X.1 hP hD hS 3 0 rfl rfl hi dX3_beginRule_44 (fun H locs hP hD hS => ?_)
    have hP : va_P E.1 vwCl (cw_X3 E q0 S0_4) H := by rw [eS]; exact hP
    have hD : va_D A (cw_X3 E q0 S0_4) := by rw [eS]; exact hD
    clear eS
    refine lv_aload_n hx hb dX3_beginRule_45 rfl (lv_at hl 0 rfl) ?_
    refine lv_dup hx hb dX3_beginRule_46 rfl ?_
    refine va_get (D := E.1) (ci := 2) (v := .int (S0_4.1 0)) (C := RX3) (T := TX3) (N := 12) hx hb hg in_X3 hown X.1 hP 0 rfl rfl 0 (by decide) (hg _ wf_X3_9) (fun _ h9 => h9) rfl dX3_beginRule_47 ?_
    refine lv_iconst (v := 1) hx hb dX3_beginRule_50 (by decide) ?_
    refine lv_iadd hx hb dX3_beginRule_51 ?_
    obtain ⟨S0_5, eS, h⟩ := lt_el h
    refine va_put (D := E.1) (ci := 2) (v := .int ((S0_4.1 0) + 1)) (ty := .int) (C := RX3) (T := TX3) (N := 12) hx hb hg in_X3 tyX3 tyX3_ok nmX3 hown X.1 hP hD hS 0 rfl rfl 0 (by decide) (hg _ wf_X3_9) (fun _ h9 => h9) rfl (by decide +kernel) rfl rfl (Nat.le_of_ble_eq_true rfl) dX3_beginRule_52 (fun H locs hP hD hS => ?_)
    have hP : va_P E.1 vwCl (cw_X3 E q0 S0_5) H := by rw [eS]; exact hP
    have hD : va_D A (cw_X3 E q0 S0_5) := by rw [eS]; exact hD
    clear eS
    exact RT S0_5 _ _ _ _ h hP hD hS dX3_beginRule_55
theorem dX3_write_0 : decode cX3_write 0 = .ok (.aload_n 0, 1) := by decide +kernel
theorem dX3_write_1 : decode cX3_write 1 = .ok (.getfield 25, 3) := by decide +kernel
theorem dX3_write_4 : decode cX3_write 4 = .ok (.sipush 240, 3) := by decide +kernel
theorem dX3_write_7 : decode cX3_write 7 = .ok (.if_icmp .ge 33, 3) := by decide +kernel
theorem dX3_write_10 : decode cX3_write 10 = .ok (.aload_n 0, 1) := by decide +kernel
theorem dX3_write_11 : decode cX3_write 11 = .ok (.getfield 28, 3) := by decide +kernel
theorem dX3_write_14 : decode cX3_write 14 = .ok (.aload_n 0, 1) := by decide +kernel
theorem dX3_write_15 : decode cX3_write 15 = .ok (.getfield 25, 3) := by decide +kernel
theorem dX3_write_18 : decode cX3_write 18 = .ok (.iload_n 1, 1) := by decide +kernel
theorem dX3_write_19 : decode cX3_write 19 = .ok (.iastore, 1) := by decide +kernel
theorem dX3_write_20 : decode cX3_write 20 = .ok (.aload_n 0, 1) := by decide +kernel
theorem dX3_write_21 : decode cX3_write 21 = .ok (.getfield 31, 3) := by decide +kernel
theorem dX3_write_24 : decode cX3_write 24 = .ok (.aload_n 0, 1) := by decide +kernel
theorem dX3_write_25 : decode cX3_write 25 = .ok (.getfield 25, 3) := by decide +kernel
theorem dX3_write_28 : decode cX3_write 28 = .ok (.iload_n 2, 1) := by decide +kernel
theorem dX3_write_29 : decode cX3_write 29 = .ok (.iastore, 1) := by decide +kernel
theorem dX3_write_30 : decode cX3_write 30 = .ok (.aload_n 0, 1) := by decide +kernel
theorem dX3_write_31 : decode cX3_write 31 = .ok (.dup, 1) := by decide +kernel
theorem dX3_write_32 : decode cX3_write 32 = .ok (.getfield 25, 3) := by decide +kernel
theorem dX3_write_35 : decode cX3_write 35 = .ok (.iconst 1, 1) := by decide +kernel
theorem dX3_write_36 : decode cX3_write 36 = .ok (.iadd, 1) := by decide +kernel
theorem dX3_write_37 : decode cX3_write 37 = .ok (.putfield 25, 3) := by decide +kernel
theorem dX3_write_40 : decode cX3_write 40 = .ok (.return_, 1) := by decide +kernel
def f_X3_write (S0 : Gr) (x1 : Int32) (x2 : Int32) : Option (Gr) := if 240 ≤ (S0.1 4) then (some S0) else (ck' 240 (S0.1 4) (lt' (sA S0 5 (Int32.toNatClampNeg (S0.1 4)) x1) fun S0_2 => ck' 240 (S0_2.1 4) (lt' (sA S0_2 6 (Int32.toNatClampNeg (S0_2.1 4)) x2) fun S0_3 => lt' (sI S0_3 4 ((S0_3.1 4) + 1)) fun S0_4 => some S0_4)))
set_option maxHeartbeats 4000000 in
set_option maxRecDepth 100000 in
theorem c_X3_write (l : Launch) (E : Ec) (q0 : Nat → Nat) (sz : Nat) (S0 : Gr) (x1 : Int32) (x2 : Int32) (Rv : Gr) (h : f_X3_write S0 x1 x2 = some Rv) : Met l yX3_write (wsM (.code yX3_write cX3_write 3 none)) ({ frames := 0, cells := 0, slots := 0, locals := 0 } : Room) (va_Pc [.ref (q0 0), .int x1, .int x2] (ctP E (cw_X3 E q0 S0) sz)) (ctV E (cw_X3 E q0 S0) (cw_X3 E q0 Rv) sz) 0 0 (va_A (cw_X3 E q0 S0) sz) := by
  refine ct_metV (by decide) (Nat.le_of_ble_eq_true rfl) ?_
  intro p e s m ar below meth c A QM hx hb hml hown hg X hP hD hS RET ls hl
  have hown : s.vm.findClass RX3 = some m.cls := hown
  have hl : lv_has ls 3 [(0, .ref (q0 0)), (1, .int x1), (2, .int x2)] := hl
  have RT : ∀ (S0 : Gr) (H : Heap) (locs : List Loc) (ls : Array Slot) (pc : Nat), some S0 = some Rv → va_P E.1 vwCl (cw_X3 E q0 S0) H → va_D A (cw_X3 E q0 S0) → va_S A s.heap H locs → decode cX3_write pc = .ok (.return_, 1) → W p l e ({ frames := 0, cells := 0, slots := 0, locals := 0 } : Room) s m ar below meth c H locs 0 0 QM (F0 m pc ls []) := by
    intro S0 H locs ls pc e hP hD hS d
    obtain rfl := sm_e e
    exact RET H locs pc ls hP hD hS d
  clear RET
  obtain ⟨H, eH⟩ : ∃ z, z = s.heap := ⟨_, rfl⟩
  rw [← eH]
  have hP : va_P E.1 vwCl (cw_X3 E q0 S0) H := by rw [eH]; exact hP
  have hS : va_S A s.heap H [] := by rw [eH]; exact hS
  clear eH
  obtain ⟨locs, el⟩ : ∃ z : List Loc, z = [] := ⟨_, rfl⟩
  rw [← el] at hS ⊢
  clear el
  refine lv_aload_n hx hb dX3_write_0 rfl (lv_at hl 0 rfl) ?_
  refine va_get (D := E.1) (ci := 2) (v := .int (S0.1 4)) (C := RX3) (T := TX3) (N := 12) hx hb hg in_X3 hown X.1 hP 0 rfl rfl 4 (by decide) (hg _ wf_X3_25) (fun _ h9 => h9) rfl dX3_write_1 ?_
  refine lv_sipush (v := 240) hx hb dX3_write_4 (by decide) ?_
  refine lv_icmp_ge (tgt := 40) hx hb dX3_write_7 (by decide) (fun c1 => ?_) (fun c1 => ?_)
  · have h := it_t h c1
    exact RT S0 _ _ _ _ h hP hD hS dX3_write_40
  · have h := it_f h c1
    refine lv_aload_n hx hb dX3_write_10 rfl (lv_at hl 0 rfl) ?_
    refine va_get (D := E.1) (ci := 2) (v := .ref (q0 4)) (C := RX3) (T := TX3) (N := 12) hx hb hg in_X3 hown X.1 hP 0 rfl rfl 5 (by decide) (hg _ wf_X3_28) (fun _ h9 => h9) rfl dX3_write_11 ?_
    refine lv_aload_n hx hb dX3_write_14 rfl (lv_at hl 0 rfl) ?_
    refine va_get (D := E.1) (ci := 2) (v := .int (S0.1 4)) (C := RX3) (T := TX3) (N := 12) hx hb hg in_X3 hown X.1 hP 0 rfl rfl 4 (by decide) (hg _ wf_X3_25) (fun _ h9 => h9) rfl dX3_write_15 ?_
    refine lv_iload_n hx hb dX3_write_18 rfl (lv_at hl 1 rfl) ?_
    obtain ⟨hi, h⟩ := ck_el h
    obtain ⟨S0_2, eS, h⟩ := lt_el h
    refine va_iast hx hb X.1 hP hD hS 4 0 rfl rfl hi dX3_write_19 (fun H locs hP hD hS => ?_)
    have hP : va_P E.1 vwCl (cw_X3 E q0 S0_2) H := by rw [eS]; exact hP
    have hD : va_D A (cw_X3 E q0 S0_2) := by rw [eS]; exact hD
    clear eS
    refine lv_aload_n hx hb dX3_write_20 rfl (lv_at hl 0 rfl) ?_
    refine va_get (D := E.1) (ci := 2) (v := .ref (q0 5)) (C := RX3) (T := TX3) (N := 12) hx hb hg in_X3 hown X.1 hP 0 rfl rfl 6 (by decide) (hg _ wf_X3_31) (fun _ h9 => h9) rfl dX3_write_21 ?_
    refine lv_aload_n hx hb dX3_write_24 rfl (lv_at hl 0 rfl) ?_
    refine va_get (D := E.1) (ci := 2) (v := .int (S0_2.1 4)) (C := RX3) (T := TX3) (N := 12) hx hb hg in_X3 hown X.1 hP 0 rfl rfl 4 (by decide) (hg _ wf_X3_25) (fun _ h9 => h9) rfl dX3_write_25 ?_
    refine lv_iload_n hx hb dX3_write_28 rfl (lv_at hl 2 rfl) ?_
    obtain ⟨hi, h⟩ := ck_el h
    obtain ⟨S0_3, eS, h⟩ := lt_el h
    refine va_iast hx hb X.1 hP hD hS 5 0 rfl rfl hi dX3_write_29 (fun H locs hP hD hS => ?_)
    have hP : va_P E.1 vwCl (cw_X3 E q0 S0_3) H := by rw [eS]; exact hP
    have hD : va_D A (cw_X3 E q0 S0_3) := by rw [eS]; exact hD
    clear eS
    refine lv_aload_n hx hb dX3_write_30 rfl (lv_at hl 0 rfl) ?_
    refine lv_dup hx hb dX3_write_31 rfl ?_
    refine va_get (D := E.1) (ci := 2) (v := .int (S0_3.1 4)) (C := RX3) (T := TX3) (N := 12) hx hb hg in_X3 hown X.1 hP 0 rfl rfl 4 (by decide) (hg _ wf_X3_25) (fun _ h9 => h9) rfl dX3_write_32 ?_
    refine lv_iconst (v := 1) hx hb dX3_write_35 (by decide) ?_
    refine lv_iadd hx hb dX3_write_36 ?_
    obtain ⟨S0_4, eS, h⟩ := lt_el h
    refine va_put (D := E.1) (ci := 2) (v := .int ((S0_3.1 4) + 1)) (ty := .int) (C := RX3) (T := TX3) (N := 12) hx hb hg in_X3 tyX3 tyX3_ok nmX3 hown X.1 hP hD hS 0 rfl rfl 4 (by decide) (hg _ wf_X3_25) (fun _ h9 => h9) rfl (by decide +kernel) rfl rfl (Nat.le_of_ble_eq_true rfl) dX3_write_37 (fun H locs hP hD hS => ?_)
    have hP : va_P E.1 vwCl (cw_X3 E q0 S0_4) H := by rw [eS]; exact hP
    have hD : va_D A (cw_X3 E q0 S0_4) := by rw [eS]; exact hD
    clear eS
    exact RT S0_4 _ _ _ _ h hP hD hS dX3_write_40
theorem dX3_endRule_0 : decode cX3_endRule 0 = .ok (.aload_n 0, 1) := by decide +kernel
theorem dX3_endRule_1 : decode cX3_endRule 1 = .ok (.bipush 46, 2) := by decide +kernel
theorem dX3_endRule_3 : decode cX3_endRule 3 = .ok (.iconst 0, 1) := by decide +kernel
theorem dX3_endRule_4 : decode cX3_endRule 4 = .ok (.invokevirtual 50, 3) := by decide +kernel
theorem dX3_endRule_7 : decode cX3_endRule 7 = .ok (.return_, 1) := by decide +kernel
def f_X3_endRule (S0 : Gr) : Option (Gr) := (f_X3_write S0 46 0).bind fun u1 => some u1
set_option maxHeartbeats 4000000 in
set_option maxRecDepth 100000 in
theorem c_X3_endRule (l : Launch) (E : Ec) (q0 : Nat → Nat) (sz : Nat) (S0 : Gr) (Rv : Gr) (h : f_X3_endRule S0 = some Rv) : Met l yX3_endRule (wsM (.code yX3_endRule cX3_endRule 1 none)) ({ frames := 1, cells := 0, slots := 0, locals := 22 } : Room) (va_Pc [.ref (q0 0)] (ctP E (cw_X3 E q0 S0) sz)) (ctV E (cw_X3 E q0 S0) (cw_X3 E q0 Rv) sz) 0 0 (va_A (cw_X3 E q0 S0) sz) := by
  refine ct_metV (by decide) (Nat.le_of_ble_eq_true rfl) ?_
  intro p e s m ar below meth c A QM hx hb hml hown hg X hP hD hS RET ls hl
  have hown : s.vm.findClass RX3 = some m.cls := hown
  have hl : lv_has ls 1 [(0, .ref (q0 0))] := hl
  have RT : ∀ (S0 : Gr) (H : Heap) (locs : List Loc) (ls : Array Slot) (pc : Nat), some S0 = some Rv → va_P E.1 vwCl (cw_X3 E q0 S0) H → va_D A (cw_X3 E q0 S0) → va_S A s.heap H locs → decode cX3_endRule pc = .ok (.return_, 1) → W p l e ({ frames := 1, cells := 0, slots := 0, locals := 22 } : Room) s m ar below meth c H locs 0 0 QM (F0 m pc ls []) := by
    intro S0 H locs ls pc e hP hD hS d
    obtain rfl := sm_e e
    exact RET H locs pc ls hP hD hS d
  clear RET
  obtain ⟨H, eH⟩ : ∃ z, z = s.heap := ⟨_, rfl⟩
  rw [← eH]
  have hP : va_P E.1 vwCl (cw_X3 E q0 S0) H := by rw [eH]; exact hP
  have hS : va_S A s.heap H [] := by rw [eH]; exact hS
  clear eH
  obtain ⟨locs, el⟩ : ∃ z : List Loc, z = [] := ⟨_, rfl⟩
  rw [← el] at hS ⊢
  clear el
  refine lv_aload_n hx hb dX3_endRule_0 rfl (lv_at hl 0 rfl) ?_
  refine lv_bipush (v := 46) hx hb dX3_endRule_1 (by decide) ?_
  refine lv_iconst (v := 0) hx hb dX3_endRule_3 (by decide) ?_
  obtain ⟨u1, hc, h⟩ := bd_el h
  refine ct_vA (w1 := cw_X3 E q0 u1) X hP hD hS (va_runV (C := RX3) (As := [.int 46, .int 0]) (rest := []) ⟨hx, hb, hml, hown, hg⟩ (c_X3_write l E q0 H.size S0 46 0 u1 hc) (cwV 2 hg (gwV wm_X3_50 wi_X3_write wsl_X3_write wini_X3 wco_X3_write) rfl rfl rfl (by decide +kernel) ⟨Nat.le_of_ble_eq_true rfl, Nat.le_of_ble_eq_true rfl⟩) ⟨ct_blind, ct_rv X.1 hP 0 rfl rfl, ct_preA X hP hD hS _⟩ rfl rfl hl.1 rfl (lv_room (Nat.le_of_ble_eq_true rfl)) dX3_endRule_4 ⟨Nat.zero_le _, Nat.zero_le _⟩) (fun H locs hP hD hS => ?_)
  exact RT u1 _ _ _ _ h hP hD hS dX3_endRule_7
theorem dX3_endWorth_0 : decode cX3_endWorth 0 = .ok (.aload_n 0, 1) := by decide +kernel
theorem dX3_endWorth_1 : decode cX3_endWorth 1 = .ok (.bipush 46, 2) := by decide +kernel
theorem dX3_endWorth_3 : decode cX3_endWorth 3 = .ok (.iconst 0, 1) := by decide +kernel
theorem dX3_endWorth_4 : decode cX3_endWorth 4 = .ok (.invokevirtual 50, 3) := by decide +kernel
theorem dX3_endWorth_7 : decode cX3_endWorth 7 = .ok (.aload_n 0, 1) := by decide +kernel
theorem dX3_endWorth_8 : decode cX3_endWorth 8 = .ok (.getfield 9, 3) := by decide +kernel
theorem dX3_endWorth_11 : decode cX3_endWorth 11 = .ok (.iconst 1, 1) := by decide +kernel
theorem dX3_endWorth_12 : decode cX3_endWorth 12 = .ok (.bipush 16, 2) := by decide +kernel
theorem dX3_endWorth_14 : decode cX3_endWorth 14 = .ok (.invokestatic 54, 3) := by decide +kernel
theorem dX3_endWorth_17 : decode cX3_endWorth 17 = .ok (.ifCond .eq 18, 3) := by decide +kernel
theorem dX3_endWorth_20 : decode cX3_endWorth 20 = .ok (.aload_n 0, 1) := by decide +kernel
theorem dX3_endWorth_21 : decode cX3_endWorth 21 = .ok (.getfield 22, 3) := by decide +kernel
theorem dX3_endWorth_24 : decode cX3_endWorth 24 = .ok (.aload_n 0, 1) := by decide +kernel
theorem dX3_endWorth_25 : decode cX3_endWorth 25 = .ok (.getfield 9, 3) := by decide +kernel
theorem dX3_endWorth_28 : decode cX3_endWorth 28 = .ok (.iconst 1, 1) := by decide +kernel
theorem dX3_endWorth_29 : decode cX3_endWorth 29 = .ok (.isub, 1) := by decide +kernel
theorem dX3_endWorth_30 : decode cX3_endWorth 30 = .ok (.aload_n 0, 1) := by decide +kernel
theorem dX3_endWorth_31 : decode cX3_endWorth 31 = .ok (.getfield 25, 3) := by decide +kernel
theorem dX3_endWorth_34 : decode cX3_endWorth 34 = .ok (.iastore, 1) := by decide +kernel
theorem dX3_endWorth_35 : decode cX3_endWorth 35 = .ok (.return_, 1) := by decide +kernel
def f_X3_endWorth (S0 : Gr) : Option (Gr) := (f_X3_write S0 46 0).bind fun u1 => (f_X11_within (u1.1 0) 1 16).bind fun u2 => if u2 = 0 then (some u1) else (ck' 16 ((u1.1 0) - 1) (lt' (sA u1 3 (Int32.toNatClampNeg ((u1.1 0) - 1)) (u1.1 4)) fun S0_4 => some S0_4))
set_option maxHeartbeats 4000000 in
set_option maxRecDepth 100000 in
theorem c_X3_endWorth (l : Launch) (E : Ec) (q0 : Nat → Nat) (sz : Nat) (S0 : Gr) (Rv : Gr) (h : f_X3_endWorth S0 = some Rv) : Met l yX3_endWorth (wsM (.code yX3_endWorth cX3_endWorth 1 none)) ({ frames := 1, cells := 0, slots := 0, locals := 22 } : Room) (va_Pc [.ref (q0 0)] (ctP E (cw_X3 E q0 S0) sz)) (ctV E (cw_X3 E q0 S0) (cw_X3 E q0 Rv) sz) 0 0 (va_A (cw_X3 E q0 S0) sz) := by
  refine ct_metV (by decide) (Nat.le_of_ble_eq_true rfl) ?_
  intro p e s m ar below meth c A QM hx hb hml hown hg X hP hD hS RET ls hl
  have hown : s.vm.findClass RX3 = some m.cls := hown
  have hl : lv_has ls 1 [(0, .ref (q0 0))] := hl
  have RT : ∀ (S0 : Gr) (H : Heap) (locs : List Loc) (ls : Array Slot) (pc : Nat), some S0 = some Rv → va_P E.1 vwCl (cw_X3 E q0 S0) H → va_D A (cw_X3 E q0 S0) → va_S A s.heap H locs → decode cX3_endWorth pc = .ok (.return_, 1) → W p l e ({ frames := 1, cells := 0, slots := 0, locals := 22 } : Room) s m ar below meth c H locs 0 0 QM (F0 m pc ls []) := by
    intro S0 H locs ls pc e hP hD hS d
    obtain rfl := sm_e e
    exact RET H locs pc ls hP hD hS d
  clear RET
  obtain ⟨H, eH⟩ : ∃ z, z = s.heap := ⟨_, rfl⟩
  rw [← eH]
  have hP : va_P E.1 vwCl (cw_X3 E q0 S0) H := by rw [eH]; exact hP
  have hS : va_S A s.heap H [] := by rw [eH]; exact hS
  clear eH
  obtain ⟨locs, el⟩ : ∃ z : List Loc, z = [] := ⟨_, rfl⟩
  rw [← el] at hS ⊢
  clear el
  refine lv_aload_n hx hb dX3_endWorth_0 rfl (lv_at hl 0 rfl) ?_
  refine lv_bipush (v := 46) hx hb dX3_endWorth_1 (by decide) ?_
  refine lv_iconst (v := 0) hx hb dX3_endWorth_3 (by decide) ?_
  obtain ⟨u1, hc, h⟩ := bd_el h
  refine ct_vA (w1 := cw_X3 E q0 u1) X hP hD hS (va_runV (C := RX3) (As := [.int 46, .int 0]) (rest := []) ⟨hx, hb, hml, hown, hg⟩ (c_X3_write l E q0 H.size S0 46 0 u1 hc) (cwV 2 hg (gwV wm_X3_50 wi_X3_write wsl_X3_write wini_X3 wco_X3_write) rfl rfl rfl (by decide +kernel) ⟨Nat.le_of_ble_eq_true rfl, Nat.le_of_ble_eq_true rfl⟩) ⟨ct_blind, ct_rv X.1 hP 0 rfl rfl, ct_preA X hP hD hS _⟩ rfl rfl hl.1 rfl (lv_room (Nat.le_of_ble_eq_true rfl)) dX3_endWorth_4 ⟨Nat.zero_le _, Nat.zero_le _⟩) (fun H locs hP hD hS => ?_)
  refine lv_aload_n hx hb dX3_endWorth_7 rfl (lv_at hl 0 rfl) ?_
  refine va_get (D := E.1) (ci := 2) (v := .int (u1.1 0)) (C := RX3) (T := TX3) (N := 12) hx hb hg in_X3 hown X.1 hP 0 rfl rfl 0 (by decide) (hg _ wf_X3_9) (fun _ h9 => h9) rfl dX3_endWorth_8 ?_
  refine lv_iconst (v := 1) hx hb dX3_endWorth_11 (by decide) ?_
  refine lv_bipush (v := 16) hx hb dX3_endWorth_12 (by decide) ?_
  obtain ⟨u2, hc, h⟩ := bd_el h
  refine ct_iN X hP hD hS (va_runSN (As := [.int (u1.1 0), .int 1, .int 16]) (rest := []) ⟨hx, hb, hml, hown, hg⟩ (c_X11_within l E  H.size (u1.1 0) 1 16 u2 hc) ⟨va_cnB 3 hg (gw wco_X11_within) rfl rfl rfl (nm_X3_54 X.2.1) (hg _ wini_X11) (by decide +kernel) ⟨Nat.le_of_ble_eq_true rfl, Nat.le_of_ble_eq_true rfl⟩, hg _ wst_X11_within, trivial⟩ ⟨ct_blind, ct_preN X hS _⟩ rfl rfl hl.1 rfl (lv_room (Nat.le_of_ble_eq_true rfl)) dX3_endWorth_14 ⟨Nat.zero_le _, Nat.zero_le _⟩) (fun H locs hP hD hS => ?_)
  refine lv_if_eq (tgt := 35) hx hb dX3_endWorth_17 (by decide) (fun c3 => ?_) (fun c3 => ?_)
  · have h := it_t h c3
    exact RT u1 _ _ _ _ h hP hD hS dX3_endWorth_35
  · have h := it_f h c3
    refine lv_aload_n hx hb dX3_endWorth_20 rfl (lv_at hl 0 rfl) ?_
    refine va_get (D := E.1) (ci := 2) (v := .ref (q0 3)) (C := RX3) (T := TX3) (N := 12) hx hb hg in_X3 hown X.1 hP 0 rfl rfl 3 (by decide) (hg _ wf_X3_22) (fun _ h9 => h9) rfl dX3_endWorth_21 ?_
    refine lv_aload_n hx hb dX3_endWorth_24 rfl (lv_at hl 0 rfl) ?_
    refine va_get (D := E.1) (ci := 2) (v := .int (u1.1 0)) (C := RX3) (T := TX3) (N := 12) hx hb hg in_X3 hown X.1 hP 0 rfl rfl 0 (by decide) (hg _ wf_X3_9) (fun _ h9 => h9) rfl dX3_endWorth_25 ?_
    refine lv_iconst (v := 1) hx hb dX3_endWorth_28 (by decide) ?_
    refine lv_isub hx hb dX3_endWorth_29 ?_
    refine lv_aload_n hx hb dX3_endWorth_30 rfl (lv_at hl 0 rfl) ?_
    refine va_get (D := E.1) (ci := 2) (v := .int (u1.1 4)) (C := RX3) (T := TX3) (N := 12) hx hb hg in_X3 hown X.1 hP 0 rfl rfl 4 (by decide) (hg _ wf_X3_25) (fun _ h9 => h9) rfl dX3_endWorth_31 ?_
    obtain ⟨hi, h⟩ := ck_el h
    obtain ⟨S0_4, eS, h⟩ := lt_el h
    refine va_iast hx hb X.1 hP hD hS 3 0 rfl rfl hi dX3_endWorth_34 (fun H locs hP hD hS => ?_)
    have hP : va_P E.1 vwCl (cw_X3 E q0 S0_4) H := by rw [eS]; exact hP
    have hD : va_D A (cw_X3 E q0 S0_4) := by rw [eS]; exact hD
    clear eS
    exact RT S0_4 _ _ _ _ h hP hD hS dX3_endWorth_35
theorem dX3_isFull_0 : decode cX3_isFull 0 = .ok (.aload_n 0, 1) := by decide +kernel
theorem dX3_isFull_1 : decode cX3_isFull 1 = .ok (.getfield 9, 3) := by decide +kernel
theorem dX3_isFull_4 : decode cX3_isFull 4 = .ok (.bipush 16, 2) := by decide +kernel
theorem dX3_isFull_6 : decode cX3_isFull 6 = .ok (.if_icmp .lt 7, 3) := by decide +kernel
theorem dX3_isFull_9 : decode cX3_isFull 9 = .ok (.iconst 1, 1) := by decide +kernel
theorem dX3_isFull_10 : decode cX3_isFull 10 = .ok (.goto 4, 3) := by decide +kernel
theorem dX3_isFull_13 : decode cX3_isFull 13 = .ok (.iconst 0, 1) := by decide +kernel
theorem dX3_isFull_14 : decode cX3_isFull 14 = .ok (.ireturn, 1) := by decide +kernel
def f_X3_isFull (S0 : Gr) : Option (Int32) := if (S0.1 0) < 16 then (some 0) else (some 1)
set_option maxHeartbeats 4000000 in
set_option maxRecDepth 100000 in
theorem c_X3_isFull (l : Launch) (E : Ec) (q0 : Nat → Nat) (sz : Nat) (S0 : Gr) (Rv : Int32) (h : f_X3_isFull S0 = some Rv) : Met l yX3_isFull (wsM (.code yX3_isFull cX3_isFull 1 (some .boolean))) ({ frames := 0, cells := 0, slots := 0, locals := 0 } : Room) (va_Pc [.ref (q0 0)] (ctP E (cw_X3 E q0 S0) sz)) (ctI E (cw_X3 E q0 S0) (cw_X3 E q0 S0) sz Rv) 0 0 (va_A (cw_X3 E q0 S0) sz) := by
  refine ct_metI (by decide) (Nat.le_of_ble_eq_true rfl) ?_
  intro p e s m ar below meth c A QM hx hb hml hown hg X hP hD hS RET ls hl
  have hown : s.vm.findClass RX3 = some m.cls := hown
  have hl : lv_has ls 1 [(0, .ref (q0 0))] := hl
  have RT : ∀ (v : Int32) (H : Heap) (locs : List Loc) (ls : Array Slot) (pc : Nat), some v = some Rv → narrow .boolean (.int v) = .int v → va_P E.1 vwCl (cw_X3 E q0 S0) H → va_D A (cw_X3 E q0 S0) → va_S A s.heap H locs → decode cX3_isFull pc = .ok (.ireturn, 1) → W p l e ({ frames := 0, cells := 0, slots := 0, locals := 0 } : Room) s m ar below meth c H locs 0 0 QM (F0 m pc ls [.int v]) := by
    intro v H locs ls pc e hn hP hD hS d
    obtain rfl := sm_e e
    exact RET H locs pc ls hn hP hD hS d
  clear RET
  obtain ⟨H, eH⟩ : ∃ z, z = s.heap := ⟨_, rfl⟩
  rw [← eH]
  have hP : va_P E.1 vwCl (cw_X3 E q0 S0) H := by rw [eH]; exact hP
  have hS : va_S A s.heap H [] := by rw [eH]; exact hS
  clear eH
  obtain ⟨locs, el⟩ : ∃ z : List Loc, z = [] := ⟨_, rfl⟩
  rw [← el] at hS ⊢
  clear el
  refine lv_aload_n hx hb dX3_isFull_0 rfl (lv_at hl 0 rfl) ?_
  refine va_get (D := E.1) (ci := 2) (v := .int (S0.1 0)) (C := RX3) (T := TX3) (N := 12) hx hb hg in_X3 hown X.1 hP 0 rfl rfl 0 (by decide) (hg _ wf_X3_9) (fun _ h9 => h9) rfl dX3_isFull_1 ?_
  refine lv_bipush (v := 16) hx hb dX3_isFull_4 (by decide) ?_
  refine lv_icmp_lt (tgt := 13) hx hb dX3_isFull_6 (by decide) (fun c1 => ?_) (fun c1 => ?_)
  · have h := it_t h c1
    refine lv_iconst (v := 0) hx hb dX3_isFull_13 (by decide) ?_
    exact RT 0 _ _ _ _ h (by decide +kernel) hP hD hS dX3_isFull_14
  · have h := it_f h c1
    refine lv_iconst (v := 1) hx hb dX3_isFull_9 (by decide) ?_
    refine lv_goto (tgt := 14) hx hb dX3_isFull_10 (by decide) ?_
    exact RT 1 _ _ _ _ h (by decide +kernel) hP hD hS dX3_isFull_14
theorem dX3_landJump_0 : decode cX3_landJump 0 = .ok (.iload_n 1, 1) := by decide +kernel
theorem dX3_landJump_1 : decode cX3_landJump 1 = .ok (.iconst 0, 1) := by decide +kernel
theorem dX3_landJump_2 : decode cX3_landJump 2 = .ok (.aload_n 0, 1) := by decide +kernel
theorem dX3_landJump_3 : decode cX3_landJump 3 = .ok (.getfield 25, 3) := by decide +kernel
theorem dX3_landJump_6 : decode cX3_landJump 6 = .ok (.iconst 1, 1) := by decide +kernel
theorem dX3_landJump_7 : decode cX3_landJump 7 = .ok (.isub, 1) := by decide +kernel
theorem dX3_landJump_8 : decode cX3_landJump 8 = .ok (.invokestatic 54, 3) := by decide +kernel
theorem dX3_landJump_11 : decode cX3_landJump 11 = .ok (.ifCond .eq 13, 3) := by decide +kernel
theorem dX3_landJump_14 : decode cX3_landJump 14 = .ok (.aload_n 0, 1) := by decide +kernel
theorem dX3_landJump_15 : decode cX3_landJump 15 = .ok (.getfield 31, 3) := by decide +kernel
theorem dX3_landJump_18 : decode cX3_landJump 18 = .ok (.iload_n 1, 1) := by decide +kernel
theorem dX3_landJump_19 : decode cX3_landJump 19 = .ok (.aload_n 0, 1) := by decide +kernel
theorem dX3_landJump_20 : decode cX3_landJump 20 = .ok (.getfield 25, 3) := by decide +kernel
theorem dX3_landJump_23 : decode cX3_landJump 23 = .ok (.iastore, 1) := by decide +kernel
theorem dX3_landJump_24 : decode cX3_landJump 24 = .ok (.return_, 1) := by decide +kernel
def f_X3_landJump (S0 : Gr) (x1 : Int32) : Option (Gr) := (f_X11_within x1 0 ((S0.1 4) - 1)).bind fun u1 => if u1 = 0 then (some S0) else (ck' 240 x1 (lt' (sA S0 6 (Int32.toNatClampNeg x1) (S0.1 4)) fun S0_3 => some S0_3))
set_option maxHeartbeats 4000000 in
set_option maxRecDepth 100000 in
theorem c_X3_landJump (l : Launch) (E : Ec) (q0 : Nat → Nat) (sz : Nat) (S0 : Gr) (x1 : Int32) (Rv : Gr) (h : f_X3_landJump S0 x1 = some Rv) : Met l yX3_landJump (wsM (.code yX3_landJump cX3_landJump 2 none)) ({ frames := 1, cells := 0, slots := 0, locals := 22 } : Room) (va_Pc [.ref (q0 0), .int x1] (ctP E (cw_X3 E q0 S0) sz)) (ctV E (cw_X3 E q0 S0) (cw_X3 E q0 Rv) sz) 0 0 (va_A (cw_X3 E q0 S0) sz) := by
  refine ct_metV (by decide) (Nat.le_of_ble_eq_true rfl) ?_
  intro p e s m ar below meth c A QM hx hb hml hown hg X hP hD hS RET ls hl
  have hown : s.vm.findClass RX3 = some m.cls := hown
  have hl : lv_has ls 2 [(0, .ref (q0 0)), (1, .int x1)] := hl
  have RT : ∀ (S0 : Gr) (H : Heap) (locs : List Loc) (ls : Array Slot) (pc : Nat), some S0 = some Rv → va_P E.1 vwCl (cw_X3 E q0 S0) H → va_D A (cw_X3 E q0 S0) → va_S A s.heap H locs → decode cX3_landJump pc = .ok (.return_, 1) → W p l e ({ frames := 1, cells := 0, slots := 0, locals := 22 } : Room) s m ar below meth c H locs 0 0 QM (F0 m pc ls []) := by
    intro S0 H locs ls pc e hP hD hS d
    obtain rfl := sm_e e
    exact RET H locs pc ls hP hD hS d
  clear RET
  obtain ⟨H, eH⟩ : ∃ z, z = s.heap := ⟨_, rfl⟩
  rw [← eH]
  have hP : va_P E.1 vwCl (cw_X3 E q0 S0) H := by rw [eH]; exact hP
  have hS : va_S A s.heap H [] := by rw [eH]; exact hS
  clear eH
  obtain ⟨locs, el⟩ : ∃ z : List Loc, z = [] := ⟨_, rfl⟩
  rw [← el] at hS ⊢
  clear el
  refine lv_iload_n hx hb dX3_landJump_0 rfl (lv_at hl 1 rfl) ?_
  refine lv_iconst (v := 0) hx hb dX3_landJump_1 (by decide) ?_
  refine lv_aload_n hx hb dX3_landJump_2 rfl (lv_at hl 0 rfl) ?_
  refine va_get (D := E.1) (ci := 2) (v := .int (S0.1 4)) (C := RX3) (T := TX3) (N := 12) hx hb hg in_X3 hown X.1 hP 0 rfl rfl 4 (by decide) (hg _ wf_X3_25) (fun _ h9 => h9) rfl dX3_landJump_3 ?_
  refine lv_iconst (v := 1) hx hb dX3_landJump_6 (by decide) ?_
  refine lv_isub hx hb dX3_landJump_7 ?_
  obtain ⟨u1, hc, h⟩ := bd_el h
  refine ct_iN X hP hD hS (va_runSN (As := [.int x1, .int 0, .int ((S0.1 4) - 1)]) (rest := []) ⟨hx, hb, hml, hown, hg⟩ (c_X11_within l E  H.size x1 0 ((S0.1 4) - 1) u1 hc) ⟨va_cnB 3 hg (gw wco_X11_within) rfl rfl rfl (nm_X3_54 X.2.1) (hg _ wini_X11) (by decide +kernel) ⟨Nat.le_of_ble_eq_true rfl, Nat.le_of_ble_eq_true rfl⟩, hg _ wst_X11_within, trivial⟩ ⟨ct_blind, ct_preN X hS _⟩ rfl rfl hl.1 rfl (lv_room (Nat.le_of_ble_eq_true rfl)) dX3_landJump_8 ⟨Nat.zero_le _, Nat.zero_le _⟩) (fun H locs hP hD hS => ?_)
  refine lv_if_eq (tgt := 24) hx hb dX3_landJump_11 (by decide) (fun c2 => ?_) (fun c2 => ?_)
  · have h := it_t h c2
    exact RT S0 _ _ _ _ h hP hD hS dX3_landJump_24
  · have h := it_f h c2
    refine lv_aload_n hx hb dX3_landJump_14 rfl (lv_at hl 0 rfl) ?_
    refine va_get (D := E.1) (ci := 2) (v := .ref (q0 5)) (C := RX3) (T := TX3) (N := 12) hx hb hg in_X3 hown X.1 hP 0 rfl rfl 6 (by decide) (hg _ wf_X3_31) (fun _ h9 => h9) rfl dX3_landJump_15 ?_
    refine lv_iload_n hx hb dX3_landJump_18 rfl (lv_at hl 1 rfl) ?_
    refine lv_aload_n hx hb dX3_landJump_19 rfl (lv_at hl 0 rfl) ?_
    refine va_get (D := E.1) (ci := 2) (v := .int (S0.1 4)) (C := RX3) (T := TX3) (N := 12) hx hb hg in_X3 hown X.1 hP 0 rfl rfl 4 (by decide) (hg _ wf_X3_25) (fun _ h9 => h9) rfl dX3_landJump_20 ?_
    obtain ⟨hi, h⟩ := ck_el h
    obtain ⟨S0_3, eS, h⟩ := lt_el h
    refine va_iast hx hb X.1 hP hD hS 5 0 rfl rfl hi dX3_landJump_23 (fun H locs hP hD hS => ?_)
    have hP : va_P E.1 vwCl (cw_X3 E q0 S0_3) H := by rw [eS]; exact hP
    have hD : va_D A (cw_X3 E q0 S0_3) := by rw [eS]; exact hD
    clear eS
    exact RT S0_3 _ _ _ _ h hP hD hS dX3_landJump_24
theorem dX3_lastSign_0 : decode cX3_lastSign 0 = .ok (.aload_n 0, 1) := by decide +kernel
theorem dX3_lastSign_1 : decode cX3_lastSign 1 = .ok (.getfield 25, 3) := by decide +kernel
theorem dX3_lastSign_4 : decode cX3_lastSign 4 = .ok (.iconst 1, 1) := by decide +kernel
theorem dX3_lastSign_5 : decode cX3_lastSign 5 = .ok (.isub, 1) := by decide +kernel
theorem dX3_lastSign_6 : decode cX3_lastSign 6 = .ok (.ireturn, 1) := by decide +kernel
def f_X3_lastSign (S0 : Gr) : Option (Int32) := some ((S0.1 4) - 1)
set_option maxHeartbeats 4000000 in
set_option maxRecDepth 100000 in
theorem c_X3_lastSign (l : Launch) (E : Ec) (q0 : Nat → Nat) (sz : Nat) (S0 : Gr) (Rv : Int32) (h : f_X3_lastSign S0 = some Rv) : Met l yX3_lastSign (wsM (.code yX3_lastSign cX3_lastSign 1 (some .int))) ({ frames := 0, cells := 0, slots := 0, locals := 0 } : Room) (va_Pc [.ref (q0 0)] (ctP E (cw_X3 E q0 S0) sz)) (ctI E (cw_X3 E q0 S0) (cw_X3 E q0 S0) sz Rv) 0 0 (va_A (cw_X3 E q0 S0) sz) := by
  refine ct_metI (by decide) (Nat.le_of_ble_eq_true rfl) ?_
  intro p e s m ar below meth c A QM hx hb hml hown hg X hP hD hS RET ls hl
  have hown : s.vm.findClass RX3 = some m.cls := hown
  have hl : lv_has ls 1 [(0, .ref (q0 0))] := hl
  have RT : ∀ (v : Int32) (H : Heap) (locs : List Loc) (ls : Array Slot) (pc : Nat), some v = some Rv → narrow .int (.int v) = .int v → va_P E.1 vwCl (cw_X3 E q0 S0) H → va_D A (cw_X3 E q0 S0) → va_S A s.heap H locs → decode cX3_lastSign pc = .ok (.ireturn, 1) → W p l e ({ frames := 0, cells := 0, slots := 0, locals := 0 } : Room) s m ar below meth c H locs 0 0 QM (F0 m pc ls [.int v]) := by
    intro v H locs ls pc e hn hP hD hS d
    obtain rfl := sm_e e
    exact RET H locs pc ls hn hP hD hS d
  clear RET
  obtain ⟨H, eH⟩ : ∃ z, z = s.heap := ⟨_, rfl⟩
  rw [← eH]
  have hP : va_P E.1 vwCl (cw_X3 E q0 S0) H := by rw [eH]; exact hP
  have hS : va_S A s.heap H [] := by rw [eH]; exact hS
  clear eH
  obtain ⟨locs, el⟩ : ∃ z : List Loc, z = [] := ⟨_, rfl⟩
  rw [← el] at hS ⊢
  clear el
  refine lv_aload_n hx hb dX3_lastSign_0 rfl (lv_at hl 0 rfl) ?_
  refine va_get (D := E.1) (ci := 2) (v := .int (S0.1 4)) (C := RX3) (T := TX3) (N := 12) hx hb hg in_X3 hown X.1 hP 0 rfl rfl 4 (by decide) (hg _ wf_X3_25) (fun _ h9 => h9) rfl dX3_lastSign_1 ?_
  refine lv_iconst (v := 1) hx hb dX3_lastSign_4 (by decide) ?_
  refine lv_isub hx hb dX3_lastSign_5 ?_
  exact RT ((S0.1 4) - 1) _ _ _ _ h rfl hP hD hS dX3_lastSign_6
theorem dX3_writeSign_0 : decode cX3_writeSign 0 = .ok (.aload_n 0, 1) := by decide +kernel
theorem dX3_writeSign_1 : decode cX3_writeSign 1 = .ok (.iload_n 1, 1) := by decide +kernel
theorem dX3_writeSign_2 : decode cX3_writeSign 2 = .ok (.iconst 0, 1) := by decide +kernel
theorem dX3_writeSign_3 : decode cX3_writeSign 3 = .ok (.invokevirtual 50, 3) := by decide +kernel
theorem dX3_writeSign_6 : decode cX3_writeSign 6 = .ok (.return_, 1) := by decide +kernel
def f_X3_writeSign (S0 : Gr) (x1 : Int32) : Option (Gr) := (f_X3_write S0 x1 0).bind fun u1 => some u1
set_option maxHeartbeats 4000000 in
set_option maxRecDepth 100000 in
theorem c_X3_writeSign (l : Launch) (E : Ec) (q0 : Nat → Nat) (sz : Nat) (S0 : Gr) (x1 : Int32) (Rv : Gr) (h : f_X3_writeSign S0 x1 = some Rv) : Met l yX3_writeSign (wsM (.code yX3_writeSign cX3_writeSign 2 none)) ({ frames := 1, cells := 0, slots := 0, locals := 22 } : Room) (va_Pc [.ref (q0 0), .int x1] (ctP E (cw_X3 E q0 S0) sz)) (ctV E (cw_X3 E q0 S0) (cw_X3 E q0 Rv) sz) 0 0 (va_A (cw_X3 E q0 S0) sz) := by
  refine ct_metV (by decide) (Nat.le_of_ble_eq_true rfl) ?_
  intro p e s m ar below meth c A QM hx hb hml hown hg X hP hD hS RET ls hl
  have hown : s.vm.findClass RX3 = some m.cls := hown
  have hl : lv_has ls 2 [(0, .ref (q0 0)), (1, .int x1)] := hl
  have RT : ∀ (S0 : Gr) (H : Heap) (locs : List Loc) (ls : Array Slot) (pc : Nat), some S0 = some Rv → va_P E.1 vwCl (cw_X3 E q0 S0) H → va_D A (cw_X3 E q0 S0) → va_S A s.heap H locs → decode cX3_writeSign pc = .ok (.return_, 1) → W p l e ({ frames := 1, cells := 0, slots := 0, locals := 22 } : Room) s m ar below meth c H locs 0 0 QM (F0 m pc ls []) := by
    intro S0 H locs ls pc e hP hD hS d
    obtain rfl := sm_e e
    exact RET H locs pc ls hP hD hS d
  clear RET
  obtain ⟨H, eH⟩ : ∃ z, z = s.heap := ⟨_, rfl⟩
  rw [← eH]
  have hP : va_P E.1 vwCl (cw_X3 E q0 S0) H := by rw [eH]; exact hP
  have hS : va_S A s.heap H [] := by rw [eH]; exact hS
  clear eH
  obtain ⟨locs, el⟩ : ∃ z : List Loc, z = [] := ⟨_, rfl⟩
  rw [← el] at hS ⊢
  clear el
  refine lv_aload_n hx hb dX3_writeSign_0 rfl (lv_at hl 0 rfl) ?_
  refine lv_iload_n hx hb dX3_writeSign_1 rfl (lv_at hl 1 rfl) ?_
  refine lv_iconst (v := 0) hx hb dX3_writeSign_2 (by decide) ?_
  obtain ⟨u1, hc, h⟩ := bd_el h
  refine ct_vA (w1 := cw_X3 E q0 u1) X hP hD hS (va_runV (C := RX3) (As := [.int x1, .int 0]) (rest := []) ⟨hx, hb, hml, hown, hg⟩ (c_X3_write l E q0 H.size S0 x1 0 u1 hc) (cwV 2 hg (gwV wm_X3_50 wi_X3_write wsl_X3_write wini_X3 wco_X3_write) rfl rfl rfl (by decide +kernel) ⟨Nat.le_of_ble_eq_true rfl, Nat.le_of_ble_eq_true rfl⟩) ⟨ct_blind, ct_rv X.1 hP 0 rfl rfl, ct_preA X hP hD hS _⟩ rfl rfl hl.1 rfl (lv_room (Nat.le_of_ble_eq_true rfl)) dX3_writeSign_3 ⟨Nat.zero_le _, Nat.zero_le _⟩) (fun H locs hP hD hS => ?_)
  exact RT u1 _ _ _ _ h hP hD hS dX3_writeSign_6
theorem dX3_writeLetter_0 : decode cX3_writeLetter 0 = .ok (.iconst 0, 1) := by decide +kernel
theorem dX3_writeLetter_1 : decode cX3_writeLetter 1 = .ok (.istore_n 2, 1) := by decide +kernel
theorem dX3_writeLetter_2 : decode cX3_writeLetter 2 = .ok (.iload_n 2, 1) := by decide +kernel
theorem dX3_writeLetter_3 : decode cX3_writeLetter 3 = .ok (.getstatic 58, 3) := by decide +kernel
theorem dX3_writeLetter_6 : decode cX3_writeLetter 6 = .ok (.arraylength, 1) := by decide +kernel
theorem dX3_writeLetter_7 : decode cX3_writeLetter 7 = .ok (.if_icmp .ge 27, 3) := by decide +kernel
theorem dX3_writeLetter_10 : decode cX3_writeLetter 10 = .ok (.getstatic 58, 3) := by decide +kernel
theorem dX3_writeLetter_13 : decode cX3_writeLetter 13 = .ok (.iload_n 2, 1) := by decide +kernel
theorem dX3_writeLetter_14 : decode cX3_writeLetter 14 = .ok (.iaload, 1) := by decide +kernel
theorem dX3_writeLetter_15 : decode cX3_writeLetter 15 = .ok (.iload_n 1, 1) := by decide +kernel
theorem dX3_writeLetter_16 : decode cX3_writeLetter 16 = .ok (.if_icmp .ne 12, 3) := by decide +kernel
theorem dX3_writeLetter_19 : decode cX3_writeLetter 19 = .ok (.aload_n 0, 1) := by decide +kernel
theorem dX3_writeLetter_20 : decode cX3_writeLetter 20 = .ok (.bipush 108, 2) := by decide +kernel
theorem dX3_writeLetter_22 : decode cX3_writeLetter 22 = .ok (.iload_n 2, 1) := by decide +kernel
theorem dX3_writeLetter_23 : decode cX3_writeLetter 23 = .ok (.invokevirtual 50, 3) := by decide +kernel
theorem dX3_writeLetter_26 : decode cX3_writeLetter 26 = .ok (.iconst 1, 1) := by decide +kernel
theorem dX3_writeLetter_27 : decode cX3_writeLetter 27 = .ok (.ireturn, 1) := by decide +kernel
theorem dX3_writeLetter_28 : decode cX3_writeLetter 28 = .ok (.iinc 2 1, 3) := by decide +kernel
theorem dX3_writeLetter_31 : decode cX3_writeLetter 31 = .ok (.goto (-29), 3) := by decide +kernel
theorem dX3_writeLetter_34 : decode cX3_writeLetter 34 = .ok (.iconst 0, 1) := by decide +kernel
theorem dX3_writeLetter_35 : decode cX3_writeLetter 35 = .ok (.ireturn, 1) := by decide +kernel
def f_X3_writeLetter_n2 (x1 : Int32) : Nat → Gr → Int32 → Option (Int32 × Gr)
  | 0, _, _ => none
  | n + 1, S0, x2 => if 10 ≤ x2 then (some (0, S0)) else (rd' stL 10 x2 fun v2 => if v2 = x1 then ((f_X3_write S0 108 x2).bind fun u5 => some (1, u5)) else (lt' (x2 + 1) fun v4 => f_X3_writeLetter_n2 x1 n S0 v4))
def f_X3_writeLetter (S0 : Gr) (x1 : Int32) : Option (Int32 × Gr) := f_X3_writeLetter_n2 x1 fu S0 0
set_option maxHeartbeats 4000000 in
set_option maxRecDepth 100000 in
theorem c_X3_writeLetter (l : Launch) (E : Ec) (q0 : Nat → Nat) (sz : Nat) (S0 : Gr) (x1 : Int32) (Rv : Int32 × Gr) (h : f_X3_writeLetter S0 x1 = some Rv) : Met l yX3_writeLetter (wsM (.code yX3_writeLetter cX3_writeLetter 3 (some .boolean))) ({ frames := 1, cells := 0, slots := 0, locals := 22 } : Room) (va_Pc [.ref (q0 0), .int x1] (ctP E (cw_X3 E q0 S0) sz)) (ctI E (cw_X3 E q0 S0) (cw_X3 E q0 Rv.2) sz Rv.1) 0 0 (va_A (cw_X3 E q0 S0) sz) := by
  refine ct_metI (by decide) (Nat.le_of_ble_eq_true rfl) ?_
  intro p e s m ar below meth c A QM hx hb hml hown hg X hP hD hS RET ls hl
  have hown : s.vm.findClass RX3 = some m.cls := hown
  have hl : lv_has ls 3 [(0, .ref (q0 0)), (1, .int x1)] := hl
  have RT : ∀ (v : Int32) (S0 : Gr) (H : Heap) (locs : List Loc) (ls : Array Slot) (pc : Nat), some (v, S0) = some Rv → narrow .boolean (.int v) = .int v → va_P E.1 vwCl (cw_X3 E q0 S0) H → va_D A (cw_X3 E q0 S0) → va_S A s.heap H locs → decode cX3_writeLetter pc = .ok (.ireturn, 1) → W p l e ({ frames := 1, cells := 0, slots := 0, locals := 22 } : Room) s m ar below meth c H locs 0 0 QM (F0 m pc ls [.int v]) := by
    intro v S0 H locs ls pc e hn hP hD hS d
    obtain rfl := sm_e e
    exact RET H locs pc ls hn hP hD hS d
  clear RET
  have N2 : ∀ (n : Nat) (S0 : Gr) (x2 : Int32) (H : Heap) (locs : List Loc) (ls : Array Slot), f_X3_writeLetter_n2 x1 n S0 x2 = some Rv → va_P E.1 vwCl (cw_X3 E q0 S0) H → va_D A (cw_X3 E q0 S0) → va_S A s.heap H locs → lv_has ls 3 [(0, .ref (q0 0)), (1, .int x1), (2, .int x2)] → W p l e ({ frames := 1, cells := 0, slots := 0, locals := 22 } : Room) s m ar below meth c H locs 0 0 QM (F0 m 2 ls []) := by
    intro n
    induction n with
    | zero => intro S0 x2 H locs ls h; exact nn_el h
    | succ n ih =>
      intro S0 x2 H locs ls h hP hD hS hl
      refine lv_iload_n hx hb dX3_writeLetter_2 rfl (lv_at hl 2 rfl) ?_
      refine va_gets hx hb X.2.2.1.2.2.1 hS hown (hg _ wf_X3_58) (fun _ h9 => h9) dX3_writeLetter_3 ?_
      refine va_tlen (v := 10) hx hb X.2.2.1.2.2.2 hS rfl dX3_writeLetter_6 ?_
      refine lv_icmp_ge (tgt := 34) hx hb dX3_writeLetter_7 (by decide) (fun c1 => ?_) (fun c1 => ?_)
      · have h := it_t h c1
        refine lv_iconst (v := 0) hx hb dX3_writeLetter_34 (by decide) ?_
        exact RT 0 S0 _ _ _ _ h (by decide +kernel) hP hD hS dX3_writeLetter_35
      · have h := it_f h c1
        refine va_gets hx hb X.2.2.1.2.2.1 hS hown (hg _ wf_X3_58) (fun _ h9 => h9) dX3_writeLetter_10 ?_
        refine lv_iload_n hx hb dX3_writeLetter_13 rfl (lv_at hl 2 rfl) ?_
        obtain ⟨hi, v2, ev2, h⟩ := rd_el h
        refine va_ti hx hb X.2.2.1.2.2.2 hS hi rfl dX3_writeLetter_14 ?_
        refine lv_top' ev2 ?_
        refine lv_iload_n hx hb dX3_writeLetter_15 rfl (lv_at hl 1 rfl) ?_
        refine lv_icmp_ne (tgt := 28) hx hb dX3_writeLetter_16 (by decide) (fun c3 => ?_) (fun c3 => ?_)
        · have h := it_f h c3
          obtain ⟨v4, ev4, h⟩ := lt_el h
          refine lv_iinc (v := v4) (lv' := [(2, .int v4), (0, .ref (q0 0)), (1, .int x1)]) hx hb dX3_writeLetter_28 hl (k := 2) rfl (by rw [ev4]; rfl) (by decide) rfl (fun ls hl => ?_)
          refine lv_goto (tgt := 2) hx hb dX3_writeLetter_31 (by decide) ?_
          exact ih S0 v4 _ _ _ h hP hD hS (lv_sub hl [1, 2, 0] rfl)
        · have h := it_t h c3
          refine lv_aload_n hx hb dX3_writeLetter_19 rfl (lv_at hl 0 rfl) ?_
          refine lv_bipush (v := 108) hx hb dX3_writeLetter_20 (by decide) ?_
          refine lv_iload_n hx hb dX3_writeLetter_22 rfl (lv_at hl 2 rfl) ?_
          obtain ⟨u5, hc, h⟩ := bd_el h
          refine ct_vA (w1 := cw_X3 E q0 u5) X hP hD hS (va_runV (C := RX3) (As := [.int 108, .int x2]) (rest := []) ⟨hx, hb, hml, hown, hg⟩ (c_X3_write l E q0 H.size S0 108 x2 u5 hc) (cwV 2 hg (gwV wm_X3_50 wi_X3_write wsl_X3_write wini_X3 wco_X3_write) rfl rfl rfl (by decide +kernel) ⟨Nat.le_of_ble_eq_true rfl, Nat.le_of_ble_eq_true rfl⟩) ⟨ct_blind, ct_rv X.1 hP 0 rfl rfl, ct_preA X hP hD hS _⟩ rfl rfl hl.1 rfl (lv_room (Nat.le_of_ble_eq_true rfl)) dX3_writeLetter_23 ⟨Nat.zero_le _, Nat.zero_le _⟩) (fun H locs hP hD hS => ?_)
          refine lv_iconst (v := 1) hx hb dX3_writeLetter_26 (by decide) ?_
          exact RT 1 u5 _ _ _ _ h (by decide +kernel) hP hD hS dX3_writeLetter_27
  obtain ⟨H, eH⟩ : ∃ z, z = s.heap := ⟨_, rfl⟩
  rw [← eH]
  have hP : va_P E.1 vwCl (cw_X3 E q0 S0) H := by rw [eH]; exact hP
  have hS : va_S A s.heap H [] := by rw [eH]; exact hS
  clear eH
  obtain ⟨locs, el⟩ : ∃ z : List Loc, z = [] := ⟨_, rfl⟩
  rw [← el] at hS ⊢
  clear el
  refine lv_iconst (v := 0) hx hb dX3_writeLetter_0 (by decide) ?_
  refine lv_istore_n (lv' := [(2, .int 0), (0, .ref (q0 0)), (1, .int x1)]) hx hb dX3_writeLetter_1 rfl hl (by decide) rfl (fun ls hl => ?_)
  exact N2 fu S0 0 _ _ _ h hP hD hS (lv_sub hl [1, 2, 0] rfl)
theorem dX3_writeNumber_0 : decode cX3_writeNumber 0 = .ok (.aload_n 0, 1) := by decide +kernel
theorem dX3_writeNumber_1 : decode cX3_writeNumber 1 = .ok (.bipush 110, 2) := by decide +kernel
theorem dX3_writeNumber_3 : decode cX3_writeNumber 3 = .ok (.iload_n 1, 1) := by decide +kernel
theorem dX3_writeNumber_4 : decode cX3_writeNumber 4 = .ok (.invokevirtual 50, 3) := by decide +kernel
theorem dX3_writeNumber_7 : decode cX3_writeNumber 7 = .ok (.return_, 1) := by decide +kernel
def f_X3_writeNumber (S0 : Gr) (x1 : Int32) : Option (Gr) := (f_X3_write S0 110 x1).bind fun u1 => some u1
set_option maxHeartbeats 4000000 in
set_option maxRecDepth 100000 in
theorem c_X3_writeNumber (l : Launch) (E : Ec) (q0 : Nat → Nat) (sz : Nat) (S0 : Gr) (x1 : Int32) (Rv : Gr) (h : f_X3_writeNumber S0 x1 = some Rv) : Met l yX3_writeNumber (wsM (.code yX3_writeNumber cX3_writeNumber 2 none)) ({ frames := 1, cells := 0, slots := 0, locals := 22 } : Room) (va_Pc [.ref (q0 0), .int x1] (ctP E (cw_X3 E q0 S0) sz)) (ctV E (cw_X3 E q0 S0) (cw_X3 E q0 Rv) sz) 0 0 (va_A (cw_X3 E q0 S0) sz) := by
  refine ct_metV (by decide) (Nat.le_of_ble_eq_true rfl) ?_
  intro p e s m ar below meth c A QM hx hb hml hown hg X hP hD hS RET ls hl
  have hown : s.vm.findClass RX3 = some m.cls := hown
  have hl : lv_has ls 2 [(0, .ref (q0 0)), (1, .int x1)] := hl
  have RT : ∀ (S0 : Gr) (H : Heap) (locs : List Loc) (ls : Array Slot) (pc : Nat), some S0 = some Rv → va_P E.1 vwCl (cw_X3 E q0 S0) H → va_D A (cw_X3 E q0 S0) → va_S A s.heap H locs → decode cX3_writeNumber pc = .ok (.return_, 1) → W p l e ({ frames := 1, cells := 0, slots := 0, locals := 22 } : Room) s m ar below meth c H locs 0 0 QM (F0 m pc ls []) := by
    intro S0 H locs ls pc e hP hD hS d
    obtain rfl := sm_e e
    exact RET H locs pc ls hP hD hS d
  clear RET
  obtain ⟨H, eH⟩ : ∃ z, z = s.heap := ⟨_, rfl⟩
  rw [← eH]
  have hP : va_P E.1 vwCl (cw_X3 E q0 S0) H := by rw [eH]; exact hP
  have hS : va_S A s.heap H [] := by rw [eH]; exact hS
  clear eH
  obtain ⟨locs, el⟩ : ∃ z : List Loc, z = [] := ⟨_, rfl⟩
  rw [← el] at hS ⊢
  clear el
  refine lv_aload_n hx hb dX3_writeNumber_0 rfl (lv_at hl 0 rfl) ?_
  refine lv_bipush (v := 110) hx hb dX3_writeNumber_1 (by decide) ?_
  refine lv_iload_n hx hb dX3_writeNumber_3 rfl (lv_at hl 1 rfl) ?_
  obtain ⟨u1, hc, h⟩ := bd_el h
  refine ct_vA (w1 := cw_X3 E q0 u1) X hP hD hS (va_runV (C := RX3) (As := [.int 110, .int x1]) (rest := []) ⟨hx, hb, hml, hown, hg⟩ (c_X3_write l E q0 H.size S0 110 x1 u1 hc) (cwV 2 hg (gwV wm_X3_50 wi_X3_write wsl_X3_write wini_X3 wco_X3_write) rfl rfl rfl (by decide +kernel) ⟨Nat.le_of_ble_eq_true rfl, Nat.le_of_ble_eq_true rfl⟩) ⟨ct_blind, ct_rv X.1 hP 0 rfl rfl, ct_preA X hP hD hS _⟩ rfl rfl hl.1 rfl (lv_room (Nat.le_of_ble_eq_true rfl)) dX3_writeNumber_4 ⟨Nat.zero_le _, Nat.zero_le _⟩) (fun H locs hP hD hS => ?_)
  exact RT u1 _ _ _ _ h hP hD hS dX3_writeNumber_7
