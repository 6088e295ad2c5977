theorem dX7_hasWeb_0 : decode cX7_hasWeb 0 = .ok (.iload_n 1, 1) := by decide +kernel
theorem dX7_hasWeb_1 : decode cX7_hasWeb 1 = .ok (.ifCond .lt 25, 3) := by decide +kernel
theorem dX7_hasWeb_4 : decode cX7_hasWeb 4 = .ok (.iload_n 1, 1) := by decide +kernel
theorem dX7_hasWeb_5 : decode cX7_hasWeb 5 = .ok (.bipush 8, 2) := by decide +kernel
theorem dX7_hasWeb_7 : decode cX7_hasWeb 7 = .ok (.if_icmp .ge 19, 3) := by decide +kernel
theorem dX7_hasWeb_10 : decode cX7_hasWeb 10 = .ok (.aload_n 0, 1) := by decide +kernel
theorem dX7_hasWeb_11 : decode cX7_hasWeb 11 = .ok (.getfield 9, 3) := by decide +kernel
theorem dX7_hasWeb_14 : decode cX7_hasWeb 14 = .ok (.iload_n 1, 1) := by decide +kernel
theorem dX7_hasWeb_15 : decode cX7_hasWeb 15 = .ok (.ishr, 1) := by decide +kernel
theorem dX7_hasWeb_16 : decode cX7_hasWeb 16 = .ok (.iconst 1, 1) := by decide +kernel
theorem dX7_hasWeb_17 : decode cX7_hasWeb 17 = .ok (.iand, 1) := by decide +kernel
theorem dX7_hasWeb_18 : decode cX7_hasWeb 18 = .ok (.iconst 1, 1) := by decide +kernel
theorem dX7_hasWeb_19 : decode cX7_hasWeb 19 = .ok (.if_icmp .ne 7, 3) := by decide +kernel
theorem dX7_hasWeb_22 : decode cX7_hasWeb 22 = .ok (.iconst 1, 1) := by decide +kernel
theorem dX7_hasWeb_23 : decode cX7_hasWeb 23 = .ok (.goto 4, 3) := by decide +kernel
theorem dX7_hasWeb_26 : decode cX7_hasWeb 26 = .ok (.iconst 0, 1) := by decide +kernel
theorem dX7_hasWeb_27 : decode cX7_hasWeb 27 = .ok (.ireturn, 1) := by decide +kernel
def f_X7_hasWeb (S0 : Gr) (x1 : Int32) : Option (Int32) := if x1 < 0 then (some 0) else (if 8 ≤ x1 then (some 0) else (if (((S0.1 0) >>> (x1 &&& 31)) &&& 1) = 1 then (some 1) else (some 0)))
set_option maxHeartbeats 4000000 in
set_option maxRecDepth 100000 in
theorem c_X7_hasWeb (l : Launch) (E : Ec) (q0 : Nat → Nat) (sz : Nat) (S0 : Gr) (x1 : Int32) (Rv : Int32) (h : f_X7_hasWeb S0 x1 = some Rv) : Met l yX7_hasWeb (wsM (.code yX7_hasWeb cX7_hasWeb 2 (some .boolean))) ({ frames := 0, cells := 0, slots := 0, locals := 0 } : Room) (va_Pc [.ref (q0 0), .int x1] (ctP E (cw_X7 E q0 S0) sz)) (ctI E (cw_X7 E q0 S0) (cw_X7 E q0 S0) sz Rv) 0 0 (va_A (cw_X7 E q0 S0) sz) := by
  refine ct_metI (by decide) (Nat.le_of_ble_eq_true rfl) ?_
  intro p e s m ar below meth c A QM hx hb hml hown hg X hP hD hS RET ls hl
  have hown : s.vm.findClass RX7 = some m.cls := hown
  have hl : lv_has ls 2 [(0, .ref (q0 0)), (1, .int x1)] := hl
  have RT : ∀ (v : Int32) (H : Heap) (locs : List Loc) (ls : Array Slot) (pc : Nat), some v = some Rv → narrow .boolean (.int v) = .int v → va_P E.1 vwCl (cw_X7 E q0 S0) H → va_D A (cw_X7 E q0 S0) → va_S A s.heap H locs → decode cX7_hasWeb pc = .ok (.ireturn, 1) → W p l e ({ frames := 0, cells := 0, slots := 0, locals := 0 } : Room) s m ar below meth c H locs 0 0 QM (F0 m pc ls [.int v]) := by
    intro v H locs ls pc e hn hP hD hS d
    obtain rfl := sm_e e
    exact RET H locs pc ls hn hP hD hS d
  clear RET
  obtain ⟨H, eH⟩ : ∃ z, z = s.heap := ⟨_, rfl⟩
  rw [← eH]
  have hP : va_P E.1 vwCl (cw_X7 E q0 S0) H := by rw [eH]; exact hP
  have hS : va_S A s.heap H [] := by rw [eH]; exact hS
  clear eH
  obtain ⟨locs, el⟩ : ∃ z : List Loc, z = [] := ⟨_, rfl⟩
  rw [← el] at hS ⊢
  clear el
  refine lv_iload_n hx hb dX7_hasWeb_0 rfl (lv_at hl 1 rfl) ?_
  refine lv_if_lt (tgt := 26) hx hb dX7_hasWeb_1 (by decide) (fun c1 => ?_) (fun c1 => ?_)
  · have h := it_t h c1
    refine lv_iconst (v := 0) hx hb dX7_hasWeb_26 (by decide) ?_
    exact RT 0 _ _ _ _ h (by decide +kernel) hP hD hS dX7_hasWeb_27
  · have h := it_f h c1
    refine lv_iload_n hx hb dX7_hasWeb_4 rfl (lv_at hl 1 rfl) ?_
    refine lv_bipush (v := 8) hx hb dX7_hasWeb_5 (by decide) ?_
    refine lv_icmp_ge (tgt := 26) hx hb dX7_hasWeb_7 (by decide) (fun c2 => ?_) (fun c2 => ?_)
    · have h := it_t h c2
      refine lv_iconst (v := 0) hx hb dX7_hasWeb_26 (by decide) ?_
      exact RT 0 _ _ _ _ h (by decide +kernel) hP hD hS dX7_hasWeb_27
    · have h := it_f h c2
      refine lv_aload_n hx hb dX7_hasWeb_10 rfl (lv_at hl 0 rfl) ?_
      refine va_get (D := E.1) (ci := 6) (v := .int (S0.1 0)) (C := RX7) (T := TX7) (N := 11) hx hb hg in_X7 hown X.1 hP 0 rfl rfl 0 (by decide) (hg _ wf_X7_9) (fun _ h9 => h9) rfl dX7_hasWeb_11 ?_
      refine lv_iload_n hx hb dX7_hasWeb_14 rfl (lv_at hl 1 rfl) ?_
      refine lv_ishr hx hb dX7_hasWeb_15 ?_
      refine lv_iconst (v := 1) hx hb dX7_hasWeb_16 (by decide) ?_
      refine lv_iand hx hb dX7_hasWeb_17 ?_
      refine lv_iconst (v := 1) hx hb dX7_hasWeb_18 (by decide) ?_
      refine lv_icmp_ne (tgt := 26) hx hb dX7_hasWeb_19 (by decide) (fun c3 => ?_) (fun c3 => ?_)
      · have h := it_f h c3
        refine lv_iconst (v := 0) hx hb dX7_hasWeb_26 (by decide) ?_
        exact RT 0 _ _ _ _ h (by decide +kernel) hP hD hS dX7_hasWeb_27
      · have h := it_t h c3
        refine lv_iconst (v := 1) hx hb dX7_hasWeb_22 (by decide) ?_
        refine lv_goto (tgt := 27) hx hb dX7_hasWeb_23 (by decide) ?_
        exact RT 1 _ _ _ _ h (by decide +kernel) hP hD hS dX7_hasWeb_27
theorem dX7_hasFleet_0 : decode cX7_hasFleet 0 = .ok (.iload_n 1, 1) := by decide +kernel
theorem dX7_hasFleet_1 : decode cX7_hasFleet 1 = .ok (.ifCond .lt 25, 3) := by decide +kernel
theorem dX7_hasFleet_4 : decode cX7_hasFleet 4 = .ok (.iload_n 1, 1) := by decide +kernel
theorem dX7_hasFleet_5 : decode cX7_hasFleet 5 = .ok (.bipush 8, 2) := by decide +kernel
theorem dX7_hasFleet_7 : decode cX7_hasFleet 7 = .ok (.if_icmp .ge 19, 3) := by decide +kernel
theorem dX7_hasFleet_10 : decode cX7_hasFleet 10 = .ok (.aload_n 0, 1) := by decide +kernel
theorem dX7_hasFleet_11 : decode cX7_hasFleet 11 = .ok (.getfield 15, 3) := by decide +kernel
theorem dX7_hasFleet_14 : decode cX7_hasFleet 14 = .ok (.iload_n 1, 1) := by decide +kernel
theorem dX7_hasFleet_15 : decode cX7_hasFleet 15 = .ok (.ishr, 1) := by decide +kernel
theorem dX7_hasFleet_16 : decode cX7_hasFleet 16 = .ok (.iconst 1, 1) := by decide +kernel
theorem dX7_hasFleet_17 : decode cX7_hasFleet 17 = .ok (.iand, 1) := by decide +kernel
theorem dX7_hasFleet_18 : decode cX7_hasFleet 18 = .ok (.iconst 1, 1) := by decide +kernel
theorem dX7_hasFleet_19 : decode cX7_hasFleet 19 = .ok (.if_icmp .ne 7, 3) := by decide +kernel
theorem dX7_hasFleet_22 : decode cX7_hasFleet 22 = .ok (.iconst 1, 1) := by decide +kernel
theorem dX7_hasFleet_23 : decode cX7_hasFleet 23 = .ok (.goto 4, 3) := by decide +kernel
theorem dX7_hasFleet_26 : decode cX7_hasFleet 26 = .ok (.iconst 0, 1) := by decide +kernel
theorem dX7_hasFleet_27 : decode cX7_hasFleet 27 = .ok (.ireturn, 1) := by decide +kernel
def f_X7_hasFleet (S0 : Gr) (x1 : Int32) : Option (Int32) := if x1 < 0 then (some 0) else (if 8 ≤ x1 then (some 0) else (if (((S0.1 1) >>> (x1 &&& 31)) &&& 1) = 1 then (some 1) else (some 0)))
set_option maxHeartbeats 4000000 in
set_option maxRecDepth 100000 in
theorem c_X7_hasFleet (l : Launch) (E : Ec) (q0 : Nat → Nat) (sz : Nat) (S0 : Gr) (x1 : Int32) (Rv : Int32) (h : f_X7_hasFleet S0 x1 = some Rv) : Met l yX7_hasFleet (wsM (.code yX7_hasFleet cX7_hasFleet 2 (some .boolean))) ({ frames := 0, cells := 0, slots := 0, locals := 0 } : Room) (va_Pc [.ref (q0 0), .int x1] (ctP E (cw_X7 E q0 S0) sz)) (ctI E (cw_X7 E q0 S0) (cw_X7 E q0 S0) sz Rv) 0 0 (va_A (cw_X7 E q0 S0) sz) := by
  refine ct_metI (by decide) (Nat.le_of_ble_eq_true rfl) ?_
  intro p e s m ar below meth c A QM hx hb hml hown hg X hP hD hS RET ls hl
  have hown : s.vm.findClass RX7 = some m.cls := hown
  have hl : lv_has ls 2 [(0, .ref (q0 0)), (1, .int x1)] := hl
  have RT : ∀ (v : Int32) (H : Heap) (locs : List Loc) (ls : Array Slot) (pc : Nat), some v = some Rv → narrow .boolean (.int v) = .int v → va_P E.1 vwCl (cw_X7 E q0 S0) H → va_D A (cw_X7 E q0 S0) → va_S A s.heap H locs → decode cX7_hasFleet pc = .ok (.ireturn, 1) → W p l e ({ frames := 0, cells := 0, slots := 0, locals := 0 } : Room) s m ar below meth c H locs 0 0 QM (F0 m pc ls [.int v]) := by
    intro v H locs ls pc e hn hP hD hS d
    obtain rfl := sm_e e
    exact RET H locs pc ls hn hP hD hS d
  clear RET
  obtain ⟨H, eH⟩ : ∃ z, z = s.heap := ⟨_, rfl⟩
  rw [← eH]
  have hP : va_P E.1 vwCl (cw_X7 E q0 S0) H := by rw [eH]; exact hP
  have hS : va_S A s.heap H [] := by rw [eH]; exact hS
  clear eH
  obtain ⟨locs, el⟩ : ∃ z : List Loc, z = [] := ⟨_, rfl⟩
  rw [← el] at hS ⊢
  clear el
  refine lv_iload_n hx hb dX7_hasFleet_0 rfl (lv_at hl 1 rfl) ?_
  refine lv_if_lt (tgt := 26) hx hb dX7_hasFleet_1 (by decide) (fun c1 => ?_) (fun c1 => ?_)
  · have h := it_t h c1
    refine lv_iconst (v := 0) hx hb dX7_hasFleet_26 (by decide) ?_
    exact RT 0 _ _ _ _ h (by decide +kernel) hP hD hS dX7_hasFleet_27
  · have h := it_f h c1
    refine lv_iload_n hx hb dX7_hasFleet_4 rfl (lv_at hl 1 rfl) ?_
    refine lv_bipush (v := 8) hx hb dX7_hasFleet_5 (by decide) ?_
    refine lv_icmp_ge (tgt := 26) hx hb dX7_hasFleet_7 (by decide) (fun c2 => ?_) (fun c2 => ?_)
    · have h := it_t h c2
      refine lv_iconst (v := 0) hx hb dX7_hasFleet_26 (by decide) ?_
      exact RT 0 _ _ _ _ h (by decide +kernel) hP hD hS dX7_hasFleet_27
    · have h := it_f h c2
      refine lv_aload_n hx hb dX7_hasFleet_10 rfl (lv_at hl 0 rfl) ?_
      refine va_get (D := E.1) (ci := 6) (v := .int (S0.1 1)) (C := RX7) (T := TX7) (N := 11) hx hb hg in_X7 hown X.1 hP 0 rfl rfl 1 (by decide) (hg _ wf_X7_15) (fun _ h9 => h9) rfl dX7_hasFleet_11 ?_
      refine lv_iload_n hx hb dX7_hasFleet_14 rfl (lv_at hl 1 rfl) ?_
      refine lv_ishr hx hb dX7_hasFleet_15 ?_
      refine lv_iconst (v := 1) hx hb dX7_hasFleet_16 (by decide) ?_
      refine lv_iand hx hb dX7_hasFleet_17 ?_
      refine lv_iconst (v := 1) hx hb dX7_hasFleet_18 (by decide) ?_
      refine lv_icmp_ne (tgt := 26) hx hb dX7_hasFleet_19 (by decide) (fun c3 => ?_) (fun c3 => ?_)
      · have h := it_f h c3
        refine lv_iconst (v := 0) hx hb dX7_hasFleet_26 (by decide) ?_
        exact RT 0 _ _ _ _ h (by decide +kernel) hP hD hS dX7_hasFleet_27
      · have h := it_t h c3
        refine lv_iconst (v := 1) hx hb dX7_hasFleet_22 (by decide) ?_
        refine lv_goto (tgt := 27) hx hb dX7_hasFleet_23 (by decide) ?_
        exact RT 1 _ _ _ _ h (by decide +kernel) hP hD hS dX7_hasFleet_27
theorem dX7_tellFleet_0 : decode cX7_tellFleet 0 = .ok (.iload_n 1, 1) := by decide +kernel
theorem dX7_tellFleet_1 : decode cX7_tellFleet 1 = .ok (.iconst 0, 1) := by decide +kernel
theorem dX7_tellFleet_2 : decode cX7_tellFleet 2 = .ok (.bipush 7, 2) := by decide +kernel
theorem dX7_tellFleet_4 : decode cX7_tellFleet 4 = .ok (.invokestatic 46, 3) := by decide +kernel
theorem dX7_tellFleet_7 : decode cX7_tellFleet 7 = .ok (.ifCond .ne 4, 3) := by decide +kernel
theorem dX7_tellFleet_10 : decode cX7_tellFleet 10 = .ok (.return_, 1) := by decide +kernel
theorem dX7_tellFleet_11 : decode cX7_tellFleet 11 = .ok (.aload_n 0, 1) := by decide +kernel
theorem dX7_tellFleet_12 : decode cX7_tellFleet 12 = .ok (.dup, 1) := by decide +kernel
theorem dX7_tellFleet_13 : decode cX7_tellFleet 13 = .ok (.getfield 15, 3) := by decide +kernel
theorem dX7_tellFleet_16 : decode cX7_tellFleet 16 = .ok (.iconst 1, 1) := by decide +kernel
theorem dX7_tellFleet_17 : decode cX7_tellFleet 17 = .ok (.iload_n 1, 1) := by decide +kernel
theorem dX7_tellFleet_18 : decode cX7_tellFleet 18 = .ok (.ishl, 1) := by decide +kernel
theorem dX7_tellFleet_19 : decode cX7_tellFleet 19 = .ok (.ior, 1) := by decide +kernel
theorem dX7_tellFleet_20 : decode cX7_tellFleet 20 = .ok (.putfield 15, 3) := by decide +kernel
theorem dX7_tellFleet_23 : decode cX7_tellFleet 23 = .ok (.aload_n 0, 1) := by decide +kernel
theorem dX7_tellFleet_24 : decode cX7_tellFleet 24 = .ok (.getfield 28, 3) := by decide +kernel
theorem dX7_tellFleet_27 : decode cX7_tellFleet 27 = .ok (.iload_n 1, 1) := by decide +kernel
theorem dX7_tellFleet_28 : decode cX7_tellFleet 28 = .ok (.iload_n 2, 1) := by decide +kernel
theorem dX7_tellFleet_29 : decode cX7_tellFleet 29 = .ok (.iastore, 1) := by decide +kernel
theorem dX7_tellFleet_30 : decode cX7_tellFleet 30 = .ok (.aload_n 0, 1) := by decide +kernel
theorem dX7_tellFleet_31 : decode cX7_tellFleet 31 = .ok (.getfield 31, 3) := by decide +kernel
theorem dX7_tellFleet_34 : decode cX7_tellFleet 34 = .ok (.iload_n 1, 1) := by decide +kernel
theorem dX7_tellFleet_35 : decode cX7_tellFleet 35 = .ok (.iload_n 3, 1) := by decide +kernel
theorem dX7_tellFleet_36 : decode cX7_tellFleet 36 = .ok (.iastore, 1) := by decide +kernel
theorem dX7_tellFleet_37 : decode cX7_tellFleet 37 = .ok (.aload_n 0, 1) := by decide +kernel
theorem dX7_tellFleet_38 : decode cX7_tellFleet 38 = .ok (.getfield 34, 3) := by decide +kernel
theorem dX7_tellFleet_41 : decode cX7_tellFleet 41 = .ok (.iload_n 1, 1) := by decide +kernel
theorem dX7_tellFleet_42 : decode cX7_tellFleet 42 = .ok (.iload 4, 2) := by decide +kernel
theorem dX7_tellFleet_44 : decode cX7_tellFleet 44 = .ok (.iastore, 1) := by decide +kernel
theorem dX7_tellFleet_45 : decode cX7_tellFleet 45 = .ok (.aload_n 0, 1) := by decide +kernel
theorem dX7_tellFleet_46 : decode cX7_tellFleet 46 = .ok (.getfield 37, 3) := by decide +kernel
theorem dX7_tellFleet_49 : decode cX7_tellFleet 49 = .ok (.iload_n 1, 1) := by decide +kernel
theorem dX7_tellFleet_50 : decode cX7_tellFleet 50 = .ok (.iload 5, 2) := by decide +kernel
theorem dX7_tellFleet_52 : decode cX7_tellFleet 52 = .ok (.iastore, 1) := by decide +kernel
theorem dX7_tellFleet_53 : decode cX7_tellFleet 53 = .ok (.return_, 1) := by decide +kernel
def f_X7_tellFleet (S0 : Gr) (x1 : Int32) (x2 : Int32) (x3 : Int32) (x4 : Int32) (x5 : Int32) : Option (Gr) := (f_X11_within x1 0 7).bind fun u1 => if u1 = 0 then (some S0) else (lt' (sI S0 1 ((S0.1 1) ||| (1 <<< (x1 &&& 31)))) fun S0_3 => ck' 8 x1 (lt' (sA S0_3 5 (Int32.toNatClampNeg x1) x2) fun S0_4 => ck' 8 x1 (lt' (sA S0_4 6 (Int32.toNatClampNeg x1) x3) fun S0_5 => ck' 8 x1 (lt' (sA S0_5 7 (Int32.toNatClampNeg x1) x4) fun S0_6 => ck' 8 x1 (lt' (sA S0_6 8 (Int32.toNatClampNeg x1) x5) fun S0_7 => some S0_7)))))
set_option maxHeartbeats 4000000 in
set_option maxRecDepth 100000 in
theorem c_X7_tellFleet (l : Launch) (E : Ec) (q0 : Nat → Nat) (sz : Nat) (S0 : Gr) (x1 : Int32) (x2 : Int32) (x3 : Int32) (x4 : Int32) (x5 : Int32) (Rv : Gr) (h : f_X7_tellFleet S0 x1 x2 x3 x4 x5 = some Rv) : Met l yX7_tellFleet (wsM (.code yX7_tellFleet cX7_tellFleet 6 none)) ({ frames := 1, cells := 0, slots := 0, locals := 22 } : Room) (va_Pc [.ref (q0 0), .int x1, .int x2, .int x3, .int x4, .int x5] (ctP E (cw_X7 E q0 S0) sz)) (ctV E (cw_X7 E q0 S0) (cw_X7 E q0 Rv) sz) 0 0 (va_A (cw_X7 E q0 S0) sz) := by
  refine ct_metV (by decide) (Nat.le_of_ble_eq_true rfl) ?_
  intro p e s m ar below meth c A QM hx hb hml hown hg X hP hD hS RET ls hl
  have hown : s.vm.findClass RX7 = some m.cls := hown
  have hl : lv_has ls 6 [(0, .ref (q0 0)), (1, .int x1), (2, .int x2), (3, .int x3), (4, .int x4), (5, .int x5)] := hl
  have RT : ∀ (S0 : Gr) (H : Heap) (locs : List Loc) (ls : Array Slot) (pc : Nat), some S0 = some Rv → va_P E.1 vwCl (cw_X7 E q0 S0) H → va_D A (cw_X7 E q0 S0) → va_S A s.heap H locs → decode cX7_tellFleet pc = .ok (.return_, 1) → W p l e ({ frames := 1, cells := 0, slots := 0, locals := 22 } : Room) s m ar below meth c H locs 0 0 QM (F0 m pc ls []) := by
    intro S0 H locs ls pc e hP hD hS d
    obtain rfl := sm_e e
    exact RET H locs pc ls hP hD hS d
  clear RET
  obtain ⟨H, eH⟩ : ∃ z, z = s.heap := ⟨_, rfl⟩
  rw [← eH]
  have hP : va_P E.1 vwCl (cw_X7 E q0 S0) H := by rw [eH]; exact hP
  have hS : va_S A s.heap H [] := by rw [eH]; exact hS
  clear eH
  obtain ⟨locs, el⟩ : ∃ z : List Loc, z = [] := ⟨_, rfl⟩
  rw [← el] at hS ⊢
  clear el
  refine lv_iload_n hx hb dX7_tellFleet_0 rfl (lv_at hl 1 rfl) ?_
  refine lv_iconst (v := 0) hx hb dX7_tellFleet_1 (by decide) ?_
  refine lv_bipush (v := 7) hx hb dX7_tellFleet_2 (by decide) ?_
  obtain ⟨u1, hc, h⟩ := bd_el h
  refine ct_iN X hP hD hS (va_runSN (As := [.int x1, .int 0, .int 7]) (rest := []) ⟨hx, hb, hml, hown, hg⟩ (c_X11_within l E  H.size x1 0 7 u1 hc) ⟨va_cnB 3 hg (gw wco_X11_within) rfl rfl rfl (nm_X7_46 X.2.1) (hg _ wini_X11) (by decide +kernel) ⟨Nat.le_of_ble_eq_true rfl, Nat.le_of_ble_eq_true rfl⟩, hg _ wst_X11_within, trivial⟩ ⟨ct_blind, ct_preN X hS _⟩ rfl rfl hl.1 rfl (lv_room (Nat.le_of_ble_eq_true rfl)) dX7_tellFleet_4 ⟨Nat.zero_le _, Nat.zero_le _⟩) (fun H locs hP hD hS => ?_)
  refine lv_if_ne (tgt := 11) hx hb dX7_tellFleet_7 (by decide) (fun c2 => ?_) (fun c2 => ?_)
  · have h := it_f h c2
    refine lv_aload_n hx hb dX7_tellFleet_11 rfl (lv_at hl 0 rfl) ?_
    refine lv_dup hx hb dX7_tellFleet_12 rfl ?_
    refine va_get (D := E.1) (ci := 6) (v := .int (S0.1 1)) (C := RX7) (T := TX7) (N := 11) hx hb hg in_X7 hown X.1 hP 0 rfl rfl 1 (by decide) (hg _ wf_X7_15) (fun _ h9 => h9) rfl dX7_tellFleet_13 ?_
    refine lv_iconst (v := 1) hx hb dX7_tellFleet_16 (by decide) ?_
    refine lv_iload_n hx hb dX7_tellFleet_17 rfl (lv_at hl 1 rfl) ?_
    refine lv_ishl hx hb dX7_tellFleet_18 ?_
    refine lv_ior hx hb dX7_tellFleet_19 ?_
    obtain ⟨S0_3, eS, h⟩ := lt_el h
    refine va_put (D := E.1) (ci := 6) (v := .int ((S0.1 1) ||| (1 <<< (x1 &&& 31)))) (ty := .int) (C := RX7) (T := TX7) (N := 11) hx hb hg in_X7 tyX7 tyX7_ok nmX7 hown X.1 hP hD hS 0 rfl rfl 1 (by decide) (hg _ wf_X7_15) (fun _ h9 => h9) rfl (by decide +kernel) rfl rfl (Nat.le_of_ble_eq_true rfl) dX7_tellFleet_20 (fun H locs hP hD hS => ?_)
    have hP : va_P E.1 vwCl (cw_X7 E q0 S0_3) H := by rw [eS]; exact hP
    have hD : va_D A (cw_X7 E q0 S0_3) := by rw [eS]; exact hD
    clear eS
    refine lv_aload_n hx hb dX7_tellFleet_23 rfl (lv_at hl 0 rfl) ?_
    refine va_get (D := E.1) (ci := 6) (v := .ref (q0 4)) (C := RX7) (T := TX7) (N := 11) hx hb hg in_X7 hown X.1 hP 0 rfl rfl 5 (by decide) (hg _ wf_X7_28) (fun _ h9 => h9) rfl dX7_tellFleet_24 ?_
    refine lv_iload_n hx hb dX7_tellFleet_27 rfl (lv_at hl 1 rfl) ?_
    refine lv_iload_n hx hb dX7_tellFleet_28 rfl (lv_at hl 2 rfl) ?_
    obtain ⟨hi, h⟩ := ck_el h
    obtain ⟨S0_4, eS, h⟩ := lt_el h
    refine va_iast hx hb X.1 hP hD hS 4 0 rfl rfl hi dX7_tellFleet_29 (fun H locs hP hD hS => ?_)
    have hP : va_P E.1 vwCl (cw_X7 E q0 S0_4) H := by rw [eS]; exact hP
    have hD : va_D A (cw_X7 E q0 S0_4) := by rw [eS]; exact hD
    clear eS
    refine lv_aload_n hx hb dX7_tellFleet_30 rfl (lv_at hl 0 rfl) ?_
    refine va_get (D := E.1) (ci := 6) (v := .ref (q0 5)) (C := RX7) (T := TX7) (N := 11) hx hb hg in_X7 hown X.1 hP 0 rfl rfl 6 (by decide) (hg _ wf_X7_31) (fun _ h9 => h9) rfl dX7_tellFleet_31 ?_
    refine lv_iload_n hx hb dX7_tellFleet_34 rfl (lv_at hl 1 rfl) ?_
    refine lv_iload_n hx hb dX7_tellFleet_35 rfl (lv_at hl 3 rfl) ?_
    obtain ⟨hi, h⟩ := ck_el h
    obtain ⟨S0_5, eS, h⟩ := lt_el h
    refine va_iast hx hb X.1 hP hD hS 5 0 rfl rfl hi dX7_tellFleet_36 (fun H locs hP hD hS => ?_)
    have hP : va_P E.1 vwCl (cw_X7 E q0 S0_5) H := by rw [eS]; exact hP
    have hD : va_D A (cw_X7 E q0 S0_5) := by rw [eS]; exact hD
    clear eS
    refine lv_aload_n hx hb dX7_tellFleet_37 rfl (lv_at hl 0 rfl) ?_
    refine va_get (D := E.1) (ci := 6) (v := .ref (q0 6)) (C := RX7) (T := TX7) (N := 11) hx hb hg in_X7 hown X.1 hP 0 rfl rfl 7 (by decide) (hg _ wf_X7_34) (fun _ h9 => h9) rfl dX7_tellFleet_38 ?_
    refine lv_iload_n hx hb dX7_tellFleet_41 rfl (lv_at hl 1 rfl) ?_
    refine lv_iload hx hb dX7_tellFleet_42 (lv_at hl 4 rfl) ?_
    obtain ⟨hi, h⟩ := ck_el h
    obtain ⟨S0_6, eS, h⟩ := lt_el h
    refine va_iast hx hb X.1 hP hD hS 6 0 rfl rfl hi dX7_tellFleet_44 (fun H locs hP hD hS => ?_)
    have hP : va_P E.1 vwCl (cw_X7 E q0 S0_6) H := by rw [eS]; exact hP
    have hD : va_D A (cw_X7 E q0 S0_6) := by rw [eS]; exact hD
    clear eS
    refine lv_aload_n hx hb dX7_tellFleet_45 rfl (lv_at hl 0 rfl) ?_
    refine va_get (D := E.1) (ci := 6) (v := .ref (q0 7)) (C := RX7) (T := TX7) (N := 11) hx hb hg in_X7 hown X.1 hP 0 rfl rfl 8 (by decide) (hg _ wf_X7_37) (fun _ h9 => h9) rfl dX7_tellFleet_46 ?_
    refine lv_iload_n hx hb dX7_tellFleet_49 rfl (lv_at hl 1 rfl) ?_
    refine lv_iload hx hb dX7_tellFleet_50 (lv_at hl 5 rfl) ?_
    obtain ⟨hi, h⟩ := ck_el h
    obtain ⟨S0_7, eS, h⟩ := lt_el h
    refine va_iast hx hb X.1 hP hD hS 7 0 rfl rfl hi dX7_tellFleet_52 (fun H locs hP hD hS => ?_)
    have hP : va_P E.1 vwCl (cw_X7 E q0 S0_7) H := by rw [eS]; exact hP
    have hD : va_D A (cw_X7 E q0 S0_7) := by rw [eS]; exact hD
    clear eS
    exact RT S0_7 _ _ _ _ h hP hD hS dX7_tellFleet_53
  · have h := it_t h c2
    exact RT S0 _ _ _ _ h hP hD hS dX7_tellFleet_10
theorem dX7_tellWeb_0 : decode cX7_tellWeb 0 = .ok (.iload_n 1, 1) := by decide +kernel
theorem dX7_tellWeb_1 : decode cX7_tellWeb 1 = .ok (.iconst 0, 1) := by decide +kernel
theorem dX7_tellWeb_2 : decode cX7_tellWeb 2 = .ok (.bipush 7, 2) := by decide +kernel
theorem dX7_tellWeb_4 : decode cX7_tellWeb 4 = .ok (.invokestatic 46, 3) := by decide +kernel
theorem dX7_tellWeb_7 : decode cX7_tellWeb 7 = .ok (.ifCond .ne 4, 3) := by decide +kernel
theorem dX7_tellWeb_10 : decode cX7_tellWeb 10 = .ok (.return_, 1) := by decide +kernel
theorem dX7_tellWeb_11 : decode cX7_tellWeb 11 = .ok (.aload_n 0, 1) := by decide +kernel
theorem dX7_tellWeb_12 : decode cX7_tellWeb 12 = .ok (.dup, 1) := by decide +kernel
theorem dX7_tellWeb_13 : decode cX7_tellWeb 13 = .ok (.getfield 9, 3) := by decide +kernel
theorem dX7_tellWeb_16 : decode cX7_tellWeb 16 = .ok (.iconst 1, 1) := by decide +kernel
theorem dX7_tellWeb_17 : decode cX7_tellWeb 17 = .ok (.iload_n 1, 1) := by decide +kernel
theorem dX7_tellWeb_18 : decode cX7_tellWeb 18 = .ok (.ishl, 1) := by decide +kernel
theorem dX7_tellWeb_19 : decode cX7_tellWeb 19 = .ok (.ior, 1) := by decide +kernel
theorem dX7_tellWeb_20 : decode cX7_tellWeb 20 = .ok (.putfield 9, 3) := by decide +kernel
theorem dX7_tellWeb_23 : decode cX7_tellWeb 23 = .ok (.aload_n 0, 1) := by decide +kernel
theorem dX7_tellWeb_24 : decode cX7_tellWeb 24 = .ok (.getfield 18, 3) := by decide +kernel
theorem dX7_tellWeb_27 : decode cX7_tellWeb 27 = .ok (.iload_n 1, 1) := by decide +kernel
theorem dX7_tellWeb_28 : decode cX7_tellWeb 28 = .ok (.iload_n 2, 1) := by decide +kernel
theorem dX7_tellWeb_29 : decode cX7_tellWeb 29 = .ok (.iastore, 1) := by decide +kernel
theorem dX7_tellWeb_30 : decode cX7_tellWeb 30 = .ok (.aload_n 0, 1) := by decide +kernel
theorem dX7_tellWeb_31 : decode cX7_tellWeb 31 = .ok (.getfield 22, 3) := by decide +kernel
theorem dX7_tellWeb_34 : decode cX7_tellWeb 34 = .ok (.iload_n 1, 1) := by decide +kernel
theorem dX7_tellWeb_35 : decode cX7_tellWeb 35 = .ok (.iload_n 3, 1) := by decide +kernel
theorem dX7_tellWeb_36 : decode cX7_tellWeb 36 = .ok (.iastore, 1) := by decide +kernel
theorem dX7_tellWeb_37 : decode cX7_tellWeb 37 = .ok (.iconst 0, 1) := by decide +kernel
theorem dX7_tellWeb_38 : decode cX7_tellWeb 38 = .ok (.istore 4, 2) := by decide +kernel
theorem dX7_tellWeb_40 : decode cX7_tellWeb 40 = .ok (.iload 4, 2) := by decide +kernel
theorem dX7_tellWeb_42 : decode cX7_tellWeb 42 = .ok (.bipush 8, 2) := by decide +kernel
theorem dX7_tellWeb_44 : decode cX7_tellWeb 44 = .ok (.if_icmp .ge 23, 3) := by decide +kernel
theorem dX7_tellWeb_47 : decode cX7_tellWeb 47 = .ok (.aload_n 0, 1) := by decide +kernel
theorem dX7_tellWeb_48 : decode cX7_tellWeb 48 = .ok (.getfield 25, 3) := by decide +kernel
theorem dX7_tellWeb_51 : decode cX7_tellWeb 51 = .ok (.iload_n 1, 1) := by decide +kernel
theorem dX7_tellWeb_52 : decode cX7_tellWeb 52 = .ok (.bipush 8, 2) := by decide +kernel
theorem dX7_tellWeb_54 : decode cX7_tellWeb 54 = .ok (.imul, 1) := by decide +kernel
theorem dX7_tellWeb_55 : decode cX7_tellWeb 55 = .ok (.iload 4, 2) := by decide +kernel
theorem dX7_tellWeb_57 : decode cX7_tellWeb 57 = .ok (.iadd, 1) := by decide +kernel
theorem dX7_tellWeb_58 : decode cX7_tellWeb 58 = .ok (.bipush 99, 2) := by decide +kernel
theorem dX7_tellWeb_60 : decode cX7_tellWeb 60 = .ok (.iastore, 1) := by decide +kernel
theorem dX7_tellWeb_61 : decode cX7_tellWeb 61 = .ok (.iinc 4 1, 3) := by decide +kernel
theorem dX7_tellWeb_64 : decode cX7_tellWeb 64 = .ok (.goto (-24), 3) := by decide +kernel
theorem dX7_tellWeb_67 : decode cX7_tellWeb 67 = .ok (.return_, 1) := by decide +kernel
def f_X7_tellWeb_n40 (x1 : Int32) (x2 : Int32) (x3 : Int32) : Nat → Gr → Int32 → Option (Gr)
  | 0, _, _ => none
  | n + 1, S0, x4 => if 8 ≤ x4 then (some S0) else (ck' 64 ((x1 * 8) + x4) (lt' (sA S0 4 (Int32.toNatClampNeg ((x1 * 8) + x4)) 99) fun S0_7 => lt' (x4 + 1) fun v8 => f_X7_tellWeb_n40 x1 x2 x3 n S0_7 v8))
def f_X7_tellWeb (S0 : Gr) (x1 : Int32) (x2 : Int32) (x3 : Int32) : Option (Gr) := (f_X11_within x1 0 7).bind fun u1 => if u1 = 0 then (some S0) else (lt' (sI S0 0 ((S0.1 0) ||| (1 <<< (x1 &&& 31)))) fun S0_3 => ck' 8 x1 (lt' (sA S0_3 2 (Int32.toNatClampNeg x1) x2) fun S0_4 => ck' 8 x1 (lt' (sA S0_4 3 (Int32.toNatClampNeg x1) x3) fun S0_5 => f_X7_tellWeb_n40 x1 x2 x3 fu S0_5 0)))
set_option maxHeartbeats 4000000 in
set_option maxRecDepth 100000 in
theorem c_X7_tellWeb (l : Launch) (E : Ec) (q0 : Nat → Nat) (sz : Nat) (S0 : Gr) (x1 : Int32) (x2 : Int32) (x3 : Int32) (Rv : Gr) (h : f_X7_tellWeb S0 x1 x2 x3 = some Rv) : Met l yX7_tellWeb (wsM (.code yX7_tellWeb cX7_tellWeb 5 none)) ({ frames := 1, cells := 0, slots := 0, locals := 22 } : Room) (va_Pc [.ref (q0 0), .int x1, .int x2, .int x3] (ctP E (cw_X7 E q0 S0) sz)) (ctV E (cw_X7 E q0 S0) (cw_X7 E q0 Rv) sz) 0 0 (va_A (cw_X7 E q0 S0) sz) := by
  refine ct_metV (by decide) (Nat.le_of_ble_eq_true rfl) ?_
  intro p e s m ar below meth c A QM hx hb hml hown hg X hP hD hS RET ls hl
  have hown : s.vm.findClass RX7 = some m.cls := hown
  have hl : lv_has ls 5 [(0, .ref (q0 0)), (1, .int x1), (2, .int x2), (3, .int x3)] := hl
  have RT : ∀ (S0 : Gr) (H : Heap) (locs : List Loc) (ls : Array Slot) (pc : Nat), some S0 = some Rv → va_P E.1 vwCl (cw_X7 E q0 S0) H → va_D A (cw_X7 E q0 S0) → va_S A s.heap H locs → decode cX7_tellWeb pc = .ok (.return_, 1) → W p l e ({ frames := 1, cells := 0, slots := 0, locals := 22 } : Room) s m ar below meth c H locs 0 0 QM (F0 m pc ls []) := by
    intro S0 H locs ls pc e hP hD hS d
    obtain rfl := sm_e e
    exact RET H locs pc ls hP hD hS d
  clear RET
  have N40 : ∀ (n : Nat) (S0 : Gr) (x4 : Int32) (H : Heap) (locs : List Loc) (ls : Array Slot), f_X7_tellWeb_n40 x1 x2 x3 n S0 x4 = some Rv → va_P E.1 vwCl (cw_X7 E q0 S0) H → va_D A (cw_X7 E q0 S0) → va_S A s.heap H locs → lv_has ls 5 [(0, .ref (q0 0)), (1, .int x1), (4, .int x4)] → W p l e ({ frames := 1, cells := 0, slots := 0, locals := 22 } : Room) s m ar below meth c H locs 0 0 QM (F0 m 40 ls []) := by
    intro n
    induction n with
    | zero => intro S0 x4 H locs ls h; exact nn_el h
    | succ n ih =>
      intro S0 x4 H locs ls h hP hD hS hl
      refine lv_iload hx hb dX7_tellWeb_40 (lv_at hl 2 rfl) ?_
      refine lv_bipush (v := 8) hx hb dX7_tellWeb_42 (by decide) ?_
      refine lv_icmp_ge (tgt := 67) hx hb dX7_tellWeb_44 (by decide) (fun c6 => ?_) (fun c6 => ?_)
      · have h := it_t h c6
        exact RT S0 _ _ _ _ h hP hD hS dX7_tellWeb_67
      · have h := it_f h c6
        refine lv_aload_n hx hb dX7_tellWeb_47 rfl (lv_at hl 0 rfl) ?_
        refine va_get (D := E.1) (ci := 6) (v := .ref (q0 3)) (C := RX7) (T := TX7) (N := 11) hx hb hg in_X7 hown X.1 hP 0 rfl rfl 4 (by decide) (hg _ wf_X7_25) (fun _ h9 => h9) rfl dX7_tellWeb_48 ?_
        refine lv_iload_n hx hb dX7_tellWeb_51 rfl (lv_at hl 1 rfl) ?_
        refine lv_bipush (v := 8) hx hb dX7_tellWeb_52 (by decide) ?_
        refine lv_imul hx hb dX7_tellWeb_54 ?_
        refine lv_iload hx hb dX7_tellWeb_55 (lv_at hl 2 rfl) ?_
        refine lv_iadd hx hb dX7_tellWeb_57 ?_
        refine lv_bipush (v := 99) hx hb dX7_tellWeb_58 (by decide) ?_
        obtain ⟨hi, h⟩ := ck_el h
        obtain ⟨S0_7, eS, h⟩ := lt_el h
        refine va_iast hx hb X.1 hP hD hS 3 0 rfl rfl hi dX7_tellWeb_60 (fun H locs hP hD hS => ?_)
        have hP : va_P E.1 vwCl (cw_X7 E q0 S0_7) H := by rw [eS]; exact hP
        have hD : va_D A (cw_X7 E q0 S0_7) := by rw [eS]; exact hD
        clear eS
        obtain ⟨v8, ev8, h⟩ := lt_el h
        refine lv_iinc (v := v8) (lv' := [(4, .int v8), (0, .ref (q0 0)), (1, .int x1)]) hx hb dX7_tellWeb_61 hl (k := 2) rfl (by rw [ev8]; rfl) (by decide) rfl (fun ls hl => ?_)
        refine lv_goto (tgt := 40) hx hb dX7_tellWeb_64 (by decide) ?_
        exact ih S0_7 v8 _ _ _ h hP hD hS (lv_sub hl [1, 2, 0] rfl)
  obtain ⟨H, eH⟩ : ∃ z, z = s.heap := ⟨_, rfl⟩
  rw [← eH]
  have hP : va_P E.1 vwCl (cw_X7 E q0 S0) H := by rw [eH]; exact hP
  have hS : va_S A s.heap H [] := by rw [eH]; exact hS
  clear eH
  obtain ⟨locs, el⟩ : ∃ z : List Loc, z = [] := ⟨_, rfl⟩
  rw [← el] at hS ⊢
  clear el
  refine lv_iload_n hx hb dX7_tellWeb_0 rfl (lv_at hl 1 rfl) ?_
  refine lv_iconst (v := 0) hx hb dX7_tellWeb_1 (by decide) ?_
  refine lv_bipush (v := 7) hx hb dX7_tellWeb_2 (by decide) ?_
  obtain ⟨u1, hc, h⟩ := bd_el h
  refine ct_iN X hP hD hS (va_runSN (As := [.int x1, .int 0, .int 7]) (rest := []) ⟨hx, hb, hml, hown, hg⟩ (c_X11_within l E  H.size x1 0 7 u1 hc) ⟨va_cnB 3 hg (gw wco_X11_within) rfl rfl rfl (nm_X7_46 X.2.1) (hg _ wini_X11) (by decide +kernel) ⟨Nat.le_of_ble_eq_true rfl, Nat.le_of_ble_eq_true rfl⟩, hg _ wst_X11_within, trivial⟩ ⟨ct_blind, ct_preN X hS _⟩ rfl rfl hl.1 rfl (lv_room (Nat.le_of_ble_eq_true rfl)) dX7_tellWeb_4 ⟨Nat.zero_le _, Nat.zero_le _⟩) (fun H locs hP hD hS => ?_)
  refine lv_if_ne (tgt := 11) hx hb dX7_tellWeb_7 (by decide) (fun c2 => ?_) (fun c2 => ?_)
  · have h := it_f h c2
    refine lv_aload_n hx hb dX7_tellWeb_11 rfl (lv_at hl 0 rfl) ?_
    refine lv_dup hx hb dX7_tellWeb_12 rfl ?_
    refine va_get (D := E.1) (ci := 6) (v := .int (S0.1 0)) (C := RX7) (T := TX7) (N := 11) hx hb hg in_X7 hown X.1 hP 0 rfl rfl 0 (by decide) (hg _ wf_X7_9) (fun _ h9 => h9) rfl dX7_tellWeb_13 ?_
    refine lv_iconst (v := 1) hx hb dX7_tellWeb_16 (by decide) ?_
    refine lv_iload_n hx hb dX7_tellWeb_17 rfl (lv_at hl 1 rfl) ?_
    refine lv_ishl hx hb dX7_tellWeb_18 ?_
    refine lv_ior hx hb dX7_tellWeb_19 ?_
    obtain ⟨S0_3, eS, h⟩ := lt_el h
    refine va_put (D := E.1) (ci := 6) (v := .int ((S0.1 0) ||| (1 <<< (x1 &&& 31)))) (ty := .int) (C := RX7) (T := TX7) (N := 11) hx hb hg in_X7 tyX7 tyX7_ok nmX7 hown X.1 hP hD hS 0 rfl rfl 0 (by decide) (hg _ wf_X7_9) (fun _ h9 => h9) rfl (by decide +kernel) rfl rfl (Nat.le_of_ble_eq_true rfl) dX7_tellWeb_20 (fun H locs hP hD hS => ?_)
    have hP : va_P E.1 vwCl (cw_X7 E q0 S0_3) H := by rw [eS]; exact hP
    have hD : va_D A (cw_X7 E q0 S0_3) := by rw [eS]; exact hD
    clear eS
    refine lv_aload_n hx hb dX7_tellWeb_23 rfl (lv_at hl 0 rfl) ?_
    refine va_get (D := E.1) (ci := 6) (v := .ref (q0 1)) (C := RX7) (T := TX7) (N := 11) hx hb hg in_X7 hown X.1 hP 0 rfl rfl 2 (by decide) (hg _ wf_X7_18) (fun _ h9 => h9) rfl dX7_tellWeb_24 ?_
    refine lv_iload_n hx hb dX7_tellWeb_27 rfl (lv_at hl 1 rfl) ?_
    refine lv_iload_n hx hb dX7_tellWeb_28 rfl (lv_at hl 2 rfl) ?_
    obtain ⟨hi, h⟩ := ck_el h
    obtain ⟨S0_4, eS, h⟩ := lt_el h
    refine va_iast hx hb X.1 hP hD hS 1 0 rfl rfl hi dX7_tellWeb_29 (fun H locs hP hD hS => ?_)
    have hP : va_P E.1 vwCl (cw_X7 E q0 S0_4) H := by rw [eS]; exact hP
    have hD : va_D A (cw_X7 E q0 S0_4) := by rw [eS]; exact hD
    clear eS
    refine lv_aload_n hx hb dX7_tellWeb_30 rfl (lv_at hl 0 rfl) ?_
    refine va_get (D := E.1) (ci := 6) (v := .ref (q0 2)) (C := RX7) (T := TX7) (N := 11) hx hb hg in_X7 hown X.1 hP 0 rfl rfl 3 (by decide) (hg _ wf_X7_22) (fun _ h9 => h9) rfl dX7_tellWeb_31 ?_
    refine lv_iload_n hx hb dX7_tellWeb_34 rfl (lv_at hl 1 rfl) ?_
    refine lv_iload_n hx hb dX7_tellWeb_35 rfl (lv_at hl 3 rfl) ?_
    obtain ⟨hi, h⟩ := ck_el h
    obtain ⟨S0_5, eS, h⟩ := lt_el h
    refine va_iast hx hb X.1 hP hD hS 2 0 rfl rfl hi dX7_tellWeb_36 (fun H locs hP hD hS => ?_)
    have hP : va_P E.1 vwCl (cw_X7 E q0 S0_5) H := by rw [eS]; exact hP
    have hD : va_D A (cw_X7 E q0 S0_5) := by rw [eS]; exact hD
    clear eS
    refine lv_iconst (v := 0) hx hb dX7_tellWeb_37 (by decide) ?_
    refine lv_istore (lv' := [(4, .int 0), (0, .ref (q0 0)), (1, .int x1), (2, .int x2), (3, .int x3)]) hx hb dX7_tellWeb_38 hl (by decide) rfl (fun ls hl => ?_)
    exact N40 fu S0_5 0 _ _ _ h hP hD hS (lv_sub hl [1, 2, 0] rfl)
  · have h := it_t h c2
    exact RT S0 _ _ _ _ h hP hD hS dX7_tellWeb_10
theorem dX7_clearChart_0 : decode cX7_clearChart 0 = .ok (.aload_n 0, 1) := by decide +kernel
theorem dX7_clearChart_1 : decode cX7_clearChart 1 = .ok (.iconst 0, 1) := by decide +kernel
theorem dX7_clearChart_2 : decode cX7_clearChart 2 = .ok (.putfield 9, 3) := by decide +kernel
theorem dX7_clearChart_5 : decode cX7_clearChart 5 = .ok (.aload_n 0, 1) := by decide +kernel
theorem dX7_clearChart_6 : decode cX7_clearChart 6 = .ok (.iconst 0, 1) := by decide +kernel
theorem dX7_clearChart_7 : decode cX7_clearChart 7 = .ok (.putfield 15, 3) := by decide +kernel
theorem dX7_clearChart_10 : decode cX7_clearChart 10 = .ok (.return_, 1) := by decide +kernel
def f_X7_clearChart (S0 : Gr) : Option (Gr) := lt' (sI S0 0 0) fun S0_1 => lt' (sI S0_1 1 0) fun S0_2 => some S0_2
set_option maxHeartbeats 4000000 in
set_option maxRecDepth 100000 in
theorem c_X7_clearChart (l : Launch) (E : Ec) (q0 : Nat → Nat) (sz : Nat) (S0 : Gr) (Rv : Gr) (h : f_X7_clearChart S0 = some Rv) : Met l yX7_clearChart (wsM (.code yX7_clearChart cX7_clearChart 1 none)) ({ frames := 0, cells := 0, slots := 0, locals := 0 } : Room) (va_Pc [.ref (q0 0)] (ctP E (cw_X7 E q0 S0) sz)) (ctV E (cw_X7 E q0 S0) (cw_X7 E q0 Rv) sz) 0 0 (va_A (cw_X7 E q0 S0) sz) := by
  refine ct_metV (by decide) (Nat.le_of_ble_eq_true rfl) ?_
  intro p e s m ar below meth c A QM hx hb hml hown hg X hP hD hS RET ls hl
  have hown : s.vm.findClass RX7 = some m.cls := hown
  have hl : lv_has ls 1 [(0, .ref (q0 0))] := hl
  have RT : ∀ (S0 : Gr) (H : Heap) (locs : List Loc) (ls : Array Slot) (pc : Nat), some S0 = some Rv → va_P E.1 vwCl (cw_X7 E q0 S0) H → va_D A (cw_X7 E q0 S0) → va_S A s.heap H locs → decode cX7_clearChart pc = .ok (.return_, 1) → W p l e ({ frames := 0, cells := 0, slots := 0, locals := 0 } : Room) s m ar below meth c H locs 0 0 QM (F0 m pc ls []) := by
    intro S0 H locs ls pc e hP hD hS d
    obtain rfl := sm_e e
    exact RET H locs pc ls hP hD hS d
  clear RET
  obtain ⟨H, eH⟩ : ∃ z, z = s.heap := ⟨_, rfl⟩
  rw [← eH]
  have hP : va_P E.1 vwCl (cw_X7 E q0 S0) H := by rw [eH]; exact hP
  have hS : va_S A s.heap H [] := by rw [eH]; exact hS
  clear eH
  obtain ⟨locs, el⟩ : ∃ z : List Loc, z = [] := ⟨_, rfl⟩
  rw [← el] at hS ⊢
  clear el
  refine lv_aload_n hx hb dX7_clearChart_0 rfl (lv_at hl 0 rfl) ?_
  refine lv_iconst (v := 0) hx hb dX7_clearChart_1 (by decide) ?_
  obtain ⟨S0_1, eS, h⟩ := lt_el h
  refine va_put (D := E.1) (ci := 6) (v := .int 0) (ty := .int) (C := RX7) (T := TX7) (N := 11) hx hb hg in_X7 tyX7 tyX7_ok nmX7 hown X.1 hP hD hS 0 rfl rfl 0 (by decide) (hg _ wf_X7_9) (fun _ h9 => h9) rfl (by decide +kernel) rfl rfl (Nat.le_of_ble_eq_true rfl) dX7_clearChart_2 (fun H locs hP hD hS => ?_)
  have hP : va_P E.1 vwCl (cw_X7 E q0 S0_1) H := by rw [eS]; exact hP
  have hD : va_D A (cw_X7 E q0 S0_1) := by rw [eS]; exact hD
  clear eS
  refine lv_aload_n hx hb dX7_clearChart_5 rfl (lv_at hl 0 rfl) ?_
  refine lv_iconst (v := 0) hx hb dX7_clearChart_6 (by decide) ?_
  obtain ⟨S0_2, eS, h⟩ := lt_el h
  refine va_put (D := E.1) (ci := 6) (v := .int 0) (ty := .int) (C := RX7) (T := TX7) (N := 11) hx hb hg in_X7 tyX7 tyX7_ok nmX7 hown X.1 hP hD hS 0 rfl rfl 1 (by decide) (hg _ wf_X7_15) (fun _ h9 => h9) rfl (by decide +kernel) rfl rfl (Nat.le_of_ble_eq_true rfl) dX7_clearChart_7 (fun H locs hP hD hS => ?_)
  have hP : va_P E.1 vwCl (cw_X7 E q0 S0_2) H := by rw [eS]; exact hP
  have hD : va_D A (cw_X7 E q0 S0_2) := by rw [eS]; exact hD
  clear eS
  exact RT S0_2 _ _ _ _ h hP hD hS dX7_clearChart_10
theorem dX7_slackBits_0 : decode cX7_slackBits 0 = .ok (.iconst 0, 1) := by decide +kernel
theorem dX7_slackBits_1 : decode cX7_slackBits 1 = .ok (.istore_n 2, 1) := by decide +kernel
theorem dX7_slackBits_2 : decode cX7_slackBits 2 = .ok (.iconst 0, 1) := by decide +kernel
theorem dX7_slackBits_3 : decode cX7_slackBits 3 = .ok (.istore_n 3, 1) := by decide +kernel
theorem dX7_slackBits_4 : decode cX7_slackBits 4 = .ok (.iload_n 3, 1) := by decide +kernel
theorem dX7_slackBits_5 : decode cX7_slackBits 5 = .ok (.bipush 8, 2) := by decide +kernel
theorem dX7_slackBits_7 : decode cX7_slackBits 7 = .ok (.if_icmp .ge 37, 3) := by decide +kernel
theorem dX7_slackBits_10 : decode cX7_slackBits 10 = .ok (.aload_n 0, 1) := by decide +kernel
theorem dX7_slackBits_11 : decode cX7_slackBits 11 = .ok (.iload_n 1, 1) := by decide +kernel
theorem dX7_slackBits_12 : decode cX7_slackBits 12 = .ok (.invokevirtual 56, 3) := by decide +kernel
theorem dX7_slackBits_15 : decode cX7_slackBits 15 = .ok (.ifCond .eq 29, 3) := by decide +kernel
theorem dX7_slackBits_18 : decode cX7_slackBits 18 = .ok (.aload_n 0, 1) := by decide +kernel
theorem dX7_slackBits_19 : decode cX7_slackBits 19 = .ok (.getfield 25, 3) := by decide +kernel
theorem dX7_slackBits_22 : decode cX7_slackBits 22 = .ok (.iload_n 1, 1) := by decide +kernel
theorem dX7_slackBits_23 : decode cX7_slackBits 23 = .ok (.bipush 8, 2) := by decide +kernel
theorem dX7_slackBits_25 : decode cX7_slackBits 25 = .ok (.imul, 1) := by decide +kernel
theorem dX7_slackBits_26 : decode cX7_slackBits 26 = .ok (.iload_n 3, 1) := by decide +kernel
theorem dX7_slackBits_27 : decode cX7_slackBits 27 = .ok (.iadd, 1) := by decide +kernel
theorem dX7_slackBits_28 : decode cX7_slackBits 28 = .ok (.iaload, 1) := by decide +kernel
theorem dX7_slackBits_29 : decode cX7_slackBits 29 = .ok (.ifCond .ne 9, 3) := by decide +kernel
theorem dX7_slackBits_32 : decode cX7_slackBits 32 = .ok (.iload_n 2, 1) := by decide +kernel
theorem dX7_slackBits_33 : decode cX7_slackBits 33 = .ok (.iconst 1, 1) := by decide +kernel
theorem dX7_slackBits_34 : decode cX7_slackBits 34 = .ok (.iload_n 3, 1) := by decide +kernel
theorem dX7_slackBits_35 : decode cX7_slackBits 35 = .ok (.ishl, 1) := by decide +kernel
theorem dX7_slackBits_36 : decode cX7_slackBits 36 = .ok (.ior, 1) := by decide +kernel
theorem dX7_slackBits_37 : decode cX7_slackBits 37 = .ok (.istore_n 2, 1) := by decide +kernel
theorem dX7_slackBits_38 : decode cX7_slackBits 38 = .ok (.iinc 3 1, 3) := by decide +kernel
theorem dX7_slackBits_41 : decode cX7_slackBits 41 = .ok (.goto (-37), 3) := by decide +kernel
theorem dX7_slackBits_44 : decode cX7_slackBits 44 = .ok (.iload_n 2, 1) := by decide +kernel
theorem dX7_slackBits_45 : decode cX7_slackBits 45 = .ok (.ireturn, 1) := by decide +kernel
def f_X7_slackBits_n4 (S0 : Gr) (x1 : Int32) : Nat → Int32 → Int32 → Option (Int32)
  | 0, _, _ => none
  | n + 1, x2, x3 => if 8 ≤ x3 then (some x2) else ((f_X7_hasWeb S0 x1).bind fun u2 => if u2 = 0 then (some x2) else (rd' (S0.2 4) 64 ((x1 * 8) + x3) fun v4 => if v4 = 0 then (lt' ((x2 ||| (1 <<< (x3 &&& 31)))) fun v7 => lt' (x3 + 1) fun v8 => f_X7_slackBits_n4 S0 x1 n v7 v8) else (lt' (x3 + 1) fun v6 => f_X7_slackBits_n4 S0 x1 n x2 v6)))
def f_X7_slackBits (S0 : Gr) (x1 : Int32) : Option (Int32) := f_X7_slackBits_n4 S0 x1 fu 0 0
set_option maxHeartbeats 4000000 in
set_option maxRecDepth 100000 in
theorem c_X7_slackBits (l : Launch) (E : Ec) (q0 : Nat → Nat) (sz : Nat) (S0 : Gr) (x1 : Int32) (Rv : Int32) (h : f_X7_slackBits S0 x1 = some Rv) : Met l yX7_slackBits (wsM (.code yX7_slackBits cX7_slackBits 4 (some .int))) ({ frames := 1, cells := 0, slots := 0, locals := 21 } : Room) (va_Pc [.ref (q0 0), .int x1] (ctP E (cw_X7 E q0 S0) sz)) (ctI E (cw_X7 E q0 S0) (cw_X7 E q0 S0) sz Rv) 0 0 (va_A (cw_X7 E q0 S0) sz) := by
  refine ct_metI (by decide) (Nat.le_of_ble_eq_true rfl) ?_
  intro p e s m ar below meth c A QM hx hb hml hown hg X hP hD hS RET ls hl
  have hown : s.vm.findClass RX7 = some m.cls := hown
  have hl : lv_has ls 4 [(0, .ref (q0 0)), (1, .int x1)] := hl
  have RT : ∀ (v : Int32) (H : Heap) (locs : List Loc) (ls : Array Slot) (pc : Nat), some v = some Rv → narrow .int (.int v) = .int v → va_P E.1 vwCl (cw_X7 E q0 S0) H → va_D A (cw_X7 E q0 S0) → va_S A s.heap H locs → decode cX7_slackBits pc = .ok (.ireturn, 1) → W p l e ({ frames := 1, cells := 0, slots := 0, locals := 21 } : Room) s m ar below meth c H locs 0 0 QM (F0 m pc ls [.int v]) := by
    intro v H locs ls pc e hn hP hD hS d
    obtain rfl := sm_e e
    exact RET H locs pc ls hn hP hD hS d
  clear RET
  have N4 : ∀ (n : Nat) (x2 : Int32) (x3 : Int32) (H : Heap) (locs : List Loc) (ls : Array Slot), f_X7_slackBits_n4 S0 x1 n x2 x3 = some Rv → va_P E.1 vwCl (cw_X7 E q0 S0) H → va_D A (cw_X7 E q0 S0) → va_S A s.heap H locs → lv_has ls 4 [(0, .ref (q0 0)), (1, .int x1), (2, .int x2), (3, .int x3)] → W p l e ({ frames := 1, cells := 0, slots := 0, locals := 21 } : Room) s m ar below meth c H locs 0 0 QM (F0 m 4 ls []) := by
    intro n
    induction n with
    | zero => intro x2 x3 H locs ls h; exact nn_el h
    | succ n ih =>
      intro x2 x3 H locs ls h hP hD hS hl
      refine lv_iload_n hx hb dX7_slackBits_4 rfl (lv_at hl 3 rfl) ?_
      refine lv_bipush (v := 8) hx hb dX7_slackBits_5 (by decide) ?_
      refine lv_icmp_ge (tgt := 44) hx hb dX7_slackBits_7 (by decide) (fun c1 => ?_) (fun c1 => ?_)
      · have h := it_t h c1
        refine lv_iload_n hx hb dX7_slackBits_44 rfl (lv_at hl 2 rfl) ?_
        exact RT x2 _ _ _ _ h rfl hP hD hS dX7_slackBits_45
      · have h := it_f h c1
        refine lv_aload_n hx hb dX7_slackBits_10 rfl (lv_at hl 0 rfl) ?_
        refine lv_iload_n hx hb dX7_slackBits_11 rfl (lv_at hl 1 rfl) ?_
        obtain ⟨u2, hc, h⟩ := bd_el h
        refine ct_iA (w1 := cw_X7 E q0 S0) X hP hD hS (va_runV (C := RX7) (As := [.int x1]) (rest := []) ⟨hx, hb, hml, hown, hg⟩ (c_X7_hasWeb l E q0 H.size S0 x1 u2 hc) (cwV 1 hg (gwV wm_X7_56 wi_X7_hasWeb wsl_X7_hasWeb wini_X7 wco_X7_hasWeb) rfl rfl rfl (by decide +kernel) ⟨Nat.le_of_ble_eq_true rfl, Nat.le_of_ble_eq_true rfl⟩) ⟨ct_blind, ct_rv X.1 hP 0 rfl rfl, ct_preA X hP hD hS _⟩ rfl rfl hl.1 rfl (lv_room (Nat.le_of_ble_eq_true rfl)) dX7_slackBits_12 ⟨Nat.zero_le _, Nat.zero_le _⟩) (fun H locs hP hD hS => ?_)
        refine lv_if_eq (tgt := 44) hx hb dX7_slackBits_15 (by decide) (fun c3 => ?_) (fun c3 => ?_)
        · have h := it_t h c3
          refine lv_iload_n hx hb dX7_slackBits_44 rfl (lv_at hl 2 rfl) ?_
          exact RT x2 _ _ _ _ h rfl hP hD hS dX7_slackBits_45
        · have h := it_f h c3
          refine lv_aload_n hx hb dX7_slackBits_18 rfl (lv_at hl 0 rfl) ?_
          refine va_get (D := E.1) (ci := 6) (v := .ref (q0 3)) (C := RX7) (T := TX7) (N := 11) hx hb hg in_X7 hown X.1 hP 0 rfl rfl 4 (by decide) (hg _ wf_X7_25) (fun _ h9 => h9) rfl dX7_slackBits_19 ?_
          refine lv_iload_n hx hb dX7_slackBits_22 rfl (lv_at hl 1 rfl) ?_
          refine lv_bipush (v := 8) hx hb dX7_slackBits_23 (by decide) ?_
          refine lv_imul hx hb dX7_slackBits_25 ?_
          refine lv_iload_n hx hb dX7_slackBits_26 rfl (lv_at hl 3 rfl) ?_
          refine lv_iadd hx hb dX7_slackBits_27 ?_
          obtain ⟨hi, v4, ev4, h⟩ := rd_el h
          refine va_iald hx hb X.1 hP 3 0 rfl rfl hi dX7_slackBits_28 ?_
          refine lv_top' ev4 ?_
          refine lv_if_ne (tgt := 38) hx hb dX7_slackBits_29 (by decide) (fun c5 => ?_) (fun c5 => ?_)
          · have h := it_f h c5
            obtain ⟨v6, ev6, h⟩ := lt_el h
            refine lv_iinc (v := v6) (lv' := [(3, .int v6), (0, .ref (q0 0)), (1, .int x1), (2, .int x2)]) hx hb dX7_slackBits_38 hl (k := 3) rfl (by rw [ev6]; rfl) (by decide) rfl (fun ls hl => ?_)
            refine lv_goto (tgt := 4) hx hb dX7_slackBits_41 (by decide) ?_
            exact ih x2 v6 _ _ _ h hP hD hS (lv_sub hl [1, 2, 3, 0] rfl)
          · have h := it_t h c5
            refine lv_iload_n hx hb dX7_slackBits_32 rfl (lv_at hl 2 rfl) ?_
            refine lv_iconst (v := 1) hx hb dX7_slackBits_33 (by decide) ?_
            refine lv_iload_n hx hb dX7_slackBits_34 rfl (lv_at hl 3 rfl) ?_
            refine lv_ishl hx hb dX7_slackBits_35 ?_
            refine lv_ior hx hb dX7_slackBits_36 ?_
            obtain ⟨v7, ev7, h⟩ := lt_el h
            refine lv_top' ev7 ?_
            refine lv_istore_n (lv' := [(2, .int v7), (0, .ref (q0 0)), (1, .int x1), (3, .int x3)]) hx hb dX7_slackBits_37 rfl hl (by decide) rfl (fun ls hl => ?_)
            obtain ⟨v8, ev8, h⟩ := lt_el h
            refine lv_iinc (v := v8) (lv' := [(3, .int v8), (2, .int v7), (0, .ref (q0 0)), (1, .int x1)]) hx hb dX7_slackBits_38 hl (k := 3) rfl (by rw [ev8]; rfl) (by decide) rfl (fun ls hl => ?_)
            refine lv_goto (tgt := 4) hx hb dX7_slackBits_41 (by decide) ?_
            exact ih v7 v8 _ _ _ h hP hD hS (lv_sub hl [2, 3, 1, 0] rfl)
  obtain ⟨H, eH⟩ : ∃ z, z = s.heap := ⟨_, rfl⟩
  rw [← eH]
  have hP : va_P E.1 vwCl (cw_X7 E q0 S0) H := by rw [eH]; exact hP
  have hS : va_S A s.heap H [] := by rw [eH]; exact hS
  clear eH
  obtain ⟨locs, el⟩ : ∃ z : List Loc, z = [] := ⟨_, rfl⟩
  rw [← el] at hS ⊢
  clear el
  refine lv_iconst (v := 0) hx hb dX7_slackBits_0 (by decide) ?_
  refine lv_istore_n (lv' := [(2, .int 0), (0, .ref (q0 0)), (1, .int x1)]) hx hb dX7_slackBits_1 rfl hl (by decide) rfl (fun ls hl => ?_)
  refine lv_iconst (v := 0) hx hb dX7_slackBits_2 (by decide) ?_
  refine lv_istore_n (lv' := [(3, .int 0), (2, .int 0), (0, .ref (q0 0)), (1, .int x1)]) hx hb dX7_slackBits_3 rfl hl (by decide) rfl (fun ls hl => ?_)
  exact N4 fu 0 0 _ _ _ h hP hD hS (lv_sub hl [2, 3, 1, 0] rfl)
theorem dX7_slackSpokes_0 : decode cX7_slackSpokes 0 = .ok (.aload_n 0, 1) := by decide +kernel
theorem dX7_slackSpokes_1 : decode cX7_slackSpokes 1 = .ok (.iload_n 1, 1) := by decide +kernel
theorem dX7_slackSpokes_2 : decode cX7_slackSpokes 2 = .ok (.invokevirtual 69, 3) := by decide +kernel
theorem dX7_slackSpokes_5 : decode cX7_slackSpokes 5 = .ok (.invokestatic 73, 3) := by decide +kernel
theorem dX7_slackSpokes_8 : decode cX7_slackSpokes 8 = .ok (.ireturn, 1) := by decide +kernel
def f_X7_slackSpokes (S0 : Gr) (x1 : Int32) : Option (Int32) := (f_X7_slackBits S0 x1).bind fun u1 => (f_J6_bitCount_0f7a4 u1).bind fun u2 => some u2
set_option maxHeartbeats 4000000 in
set_option maxRecDepth 100000 in
theorem c_X7_slackSpokes (l : Launch) (E : Ec) (q0 : Nat → Nat) (sz : Nat) (S0 : Gr) (x1 : Int32) (Rv : Int32) (h : f_X7_slackSpokes S0 x1 = some Rv) : Met l yX7_slackSpokes (wsM (.code yX7_slackSpokes cX7_slackSpokes 2 (some .int))) ({ frames := 2, cells := 0, slots := 0, locals := 44 } : Room) (va_Pc [.ref (q0 0), .int x1] (ctP E (cw_X7 E q0 S0) sz)) (ctI E (cw_X7 E q0 S0) (cw_X7 E q0 S0) sz Rv) 0 0 (va_A (cw_X7 E q0 S0) sz) := by
  refine ct_metI (by decide) (Nat.le_of_ble_eq_true rfl) ?_
  intro p e s m ar below meth c A QM hx hb hml hown hg X hP hD hS RET ls hl
  have hown : s.vm.findClass RX7 = some m.cls := hown
  have hl : lv_has ls 2 [(0, .ref (q0 0)), (1, .int x1)] := hl
  have RT : ∀ (v : Int32) (H : Heap) (locs : List Loc) (ls : Array Slot) (pc : Nat), some v = some Rv → narrow .int (.int v) = .int v → va_P E.1 vwCl (cw_X7 E q0 S0) H → va_D A (cw_X7 E q0 S0) → va_S A s.heap H locs → decode cX7_slackSpokes pc = .ok (.ireturn, 1) → W p l e ({ frames := 2, cells := 0, slots := 0, locals := 44 } : Room) s m ar below meth c H locs 0 0 QM (F0 m pc ls [.int v]) := by
    intro v H locs ls pc e hn hP hD hS d
    obtain rfl := sm_e e
    exact RET H locs pc ls hn hP hD hS d
  clear RET
  obtain ⟨H, eH⟩ : ∃ z, z = s.heap := ⟨_, rfl⟩
  rw [← eH]
  have hP : va_P E.1 vwCl (cw_X7 E q0 S0) H := by rw [eH]; exact hP
  have hS : va_S A s.heap H [] := by rw [eH]; exact hS
  clear eH
  obtain ⟨locs, el⟩ : ∃ z : List Loc, z = [] := ⟨_, rfl⟩
  rw [← el] at hS ⊢
  clear el
  refine lv_aload_n hx hb dX7_slackSpokes_0 rfl (lv_at hl 0 rfl) ?_
  refine lv_iload_n hx hb dX7_slackSpokes_1 rfl (lv_at hl 1 rfl) ?_
  obtain ⟨u1, hc, h⟩ := bd_el h
  refine ct_iA (w1 := cw_X7 E q0 S0) X hP hD hS (va_runV (C := RX7) (As := [.int x1]) (rest := []) ⟨hx, hb, hml, hown, hg⟩ (c_X7_slackBits l E q0 H.size S0 x1 u1 hc) (cwV 1 hg (gwV wm_X7_69 wi_X7_slackBits wsl_X7_slackBits wini_X7 wco_X7_slackBits) rfl rfl rfl (by decide +kernel) ⟨Nat.le_of_ble_eq_true rfl, Nat.le_of_ble_eq_true rfl⟩) ⟨ct_blind, ct_rv X.1 hP 0 rfl rfl, ct_preA X hP hD hS _⟩ rfl rfl hl.1 rfl (lv_room (Nat.le_of_ble_eq_true rfl)) dX7_slackSpokes_2 ⟨Nat.zero_le _, Nat.zero_le _⟩) (fun H locs hP hD hS => ?_)
  obtain ⟨u2, hc, h⟩ := bd_el h
  refine ct_iN X hP hD hS (va_runS (As := [.int u1]) (rest := []) ⟨hx, hb, hml, hown, hg⟩ (c_J6_bitCount_0f7a4 l E  H.size u1 u2 hc) (va_cwS 1 hg (gwS wm_X7_73 wst_J6_bitCount_0f7a4 wini_J6 wco_J6_bitCount_0f7a4) rfl rfl rfl (by decide +kernel) ⟨Nat.le_of_ble_eq_true rfl, Nat.le_of_ble_eq_true rfl⟩) ⟨ct_blind, ct_preN X hS _⟩ rfl rfl hl.1 rfl (lv_room (Nat.le_of_ble_eq_true rfl)) dX7_slackSpokes_5 ⟨Nat.zero_le _, Nat.zero_le _⟩) (fun H locs hP hD hS => ?_)
  exact RT u2 _ _ _ _ h rfl hP hD hS dX7_slackSpokes_8
theorem dX7_tensionsOf_0 : decode cX7_tensionsOf 0 = .ok (.iconst 0, 1) := by decide +kernel
theorem dX7_tensionsOf_1 : decode cX7_tensionsOf 1 = .ok (.istore_n 2, 1) := by decide +kernel
theorem dX7_tensionsOf_2 : decode cX7_tensionsOf 2 = .ok (.iconst 0, 1) := by decide +kernel
theorem dX7_tensionsOf_3 : decode cX7_tensionsOf 3 = .ok (.istore_n 3, 1) := by decide +kernel
theorem dX7_tensionsOf_4 : decode cX7_tensionsOf 4 = .ok (.iload_n 3, 1) := by decide +kernel
theorem dX7_tensionsOf_5 : decode cX7_tensionsOf 5 = .ok (.bipush 8, 2) := by decide +kernel
theorem dX7_tensionsOf_7 : decode cX7_tensionsOf 7 = .ok (.if_icmp .ge 31, 3) := by decide +kernel
theorem dX7_tensionsOf_10 : decode cX7_tensionsOf 10 = .ok (.aload_n 0, 1) := by decide +kernel
theorem dX7_tensionsOf_11 : decode cX7_tensionsOf 11 = .ok (.iload_n 1, 1) := by decide +kernel
theorem dX7_tensionsOf_12 : decode cX7_tensionsOf 12 = .ok (.invokevirtual 56, 3) := by decide +kernel
theorem dX7_tensionsOf_15 : decode cX7_tensionsOf 15 = .ok (.ifCond .eq 23, 3) := by decide +kernel
theorem dX7_tensionsOf_18 : decode cX7_tensionsOf 18 = .ok (.iload_n 2, 1) := by decide +kernel
theorem dX7_tensionsOf_19 : decode cX7_tensionsOf 19 = .ok (.aload_n 0, 1) := by decide +kernel
theorem dX7_tensionsOf_20 : decode cX7_tensionsOf 20 = .ok (.getfield 25, 3) := by decide +kernel
theorem dX7_tensionsOf_23 : decode cX7_tensionsOf 23 = .ok (.iload_n 1, 1) := by decide +kernel
theorem dX7_tensionsOf_24 : decode cX7_tensionsOf 24 = .ok (.bipush 8, 2) := by decide +kernel
theorem dX7_tensionsOf_26 : decode cX7_tensionsOf 26 = .ok (.imul, 1) := by decide +kernel
theorem dX7_tensionsOf_27 : decode cX7_tensionsOf 27 = .ok (.iload_n 3, 1) := by decide +kernel
theorem dX7_tensionsOf_28 : decode cX7_tensionsOf 28 = .ok (.iadd, 1) := by decide +kernel
theorem dX7_tensionsOf_29 : decode cX7_tensionsOf 29 = .ok (.iaload, 1) := by decide +kernel
theorem dX7_tensionsOf_30 : decode cX7_tensionsOf 30 = .ok (.iadd, 1) := by decide +kernel
theorem dX7_tensionsOf_31 : decode cX7_tensionsOf 31 = .ok (.istore_n 2, 1) := by decide +kernel
theorem dX7_tensionsOf_32 : decode cX7_tensionsOf 32 = .ok (.iinc 3 1, 3) := by decide +kernel
theorem dX7_tensionsOf_35 : decode cX7_tensionsOf 35 = .ok (.goto (-31), 3) := by decide +kernel
theorem dX7_tensionsOf_38 : decode cX7_tensionsOf 38 = .ok (.iload_n 2, 1) := by decide +kernel
theorem dX7_tensionsOf_39 : decode cX7_tensionsOf 39 = .ok (.ireturn, 1) := by decide +kernel
def f_X7_tensionsOf_n4 (S0 : Gr) (x1 : Int32) : Nat → Int32 → Int32 → Option (Int32)
  | 0, _, _ => none
  | n + 1, x2, x3 => if 8 ≤ x3 then (some x2) else ((f_X7_hasWeb S0 x1).bind fun u2 => if u2 = 0 then (some x2) else (rd' (S0.2 4) 64 ((x1 * 8) + x3) fun v4 => lt' ((x2 + v4)) fun v5 => lt' (x3 + 1) fun v6 => f_X7_tensionsOf_n4 S0 x1 n v5 v6))
def f_X7_tensionsOf (S0 : Gr) (x1 : Int32) : Option (Int32) := f_X7_tensionsOf_n4 S0 x1 fu 0 0
set_option maxHeartbeats 4000000 in
set_option maxRecDepth 100000 in
theorem c_X7_tensionsOf (l : Launch) (E : Ec) (q0 : Nat → Nat) (sz : Nat) (S0 : Gr) (x1 : Int32) (Rv : Int32) (h : f_X7_tensionsOf S0 x1 = some Rv) : Met l yX7_tensionsOf (wsM (.code yX7_tensionsOf cX7_tensionsOf 4 (some .int))) ({ frames := 1, cells := 0, slots := 0, locals := 21 } : Room) (va_Pc [.ref (q0 0), .int x1] (ctP E (cw_X7 E q0 S0) sz)) (ctI E (cw_X7 E q0 S0) (cw_X7 E q0 S0) sz Rv) 0 0 (va_A (cw_X7 E q0 S0) sz) := by
  refine ct_metI (by decide) (Nat.le_of_ble_eq_true rfl) ?_
  intro p e s m ar below meth c A QM hx hb hml hown hg X hP hD hS RET ls hl
  have hown : s.vm.findClass RX7 = some m.cls := hown
  have hl : lv_has ls 4 [(0, .ref (q0 0)), (1, .int x1)] := hl
  have RT : ∀ (v : Int32) (H : Heap) (locs : List Loc) (ls : Array Slot) (pc : Nat), some v = some Rv → narrow .int (.int v) = .int v → va_P E.1 vwCl (cw_X7 E q0 S0) H → va_D A (cw_X7 E q0 S0) → va_S A s.heap H locs → decode cX7_tensionsOf pc = .ok (.ireturn, 1) → W p l e ({ frames := 1, cells := 0, slots := 0, locals := 21 } : Room) s m ar below meth c H locs 0 0 QM (F0 m pc ls [.int v]) := by
    intro v H locs ls pc e hn hP hD hS d
    obtain rfl := sm_e e
    exact RET H locs pc ls hn hP hD hS d
  clear RET
  have N4 : ∀ (n : Nat) (x2 : Int32) (x3 : Int32) (H : Heap) (locs : List Loc) (ls : Array Slot), f_X7_tensionsOf_n4 S0 x1 n x2 x3 = some Rv → va_P E.1 vwCl (cw_X7 E q0 S0) H → va_D A (cw_X7 E q0 S0) → va_S A s.heap H locs → lv_has ls 4 [(0, .ref (q0 0)), (1, .int x1), (2, .int x2), (3, .int x3)] → W p l e ({ frames := 1, cells := 0, slots := 0, locals := 21 } : Room) s m ar below meth c H locs 0 0 QM (F0 m 4 ls []) := by
    intro n
    induction n with
    | zero => intro x2 x3 H locs ls h; exact nn_el h
    | succ n ih =>
      intro x2 x3 H locs ls h hP hD hS hl
      refine lv_iload_n hx hb dX7_tensionsOf_4 rfl (lv_at hl 3 rfl) ?_
      refine lv_bipush (v := 8) hx hb dX7_tensionsOf_5 (by decide) ?_
      refine lv_icmp_ge (tgt := 38) hx hb dX7_tensionsOf_7 (by decide) (fun c1 => ?_) (fun c1 => ?_)
      · have h := it_t h c1
        refine lv_iload_n hx hb dX7_tensionsOf_38 rfl (lv_at hl 2 rfl) ?_
        exact RT x2 _ _ _ _ h rfl hP hD hS dX7_tensionsOf_39
      · have h := it_f h c1
        refine lv_aload_n hx hb dX7_tensionsOf_10 rfl (lv_at hl 0 rfl) ?_
        refine lv_iload_n hx hb dX7_tensionsOf_11 rfl (lv_at hl 1 rfl) ?_
        obtain ⟨u2, hc, h⟩ := bd_el h
        refine ct_iA (w1 := cw_X7 E q0 S0) X hP hD hS (va_runV (C := RX7) (As := [.int x1]) (rest := []) ⟨hx, hb, hml, hown, hg⟩ (c_X7_hasWeb l E q0 H.size S0 x1 u2 hc) (cwV 1 hg (gwV wm_X7_56 wi_X7_hasWeb wsl_X7_hasWeb wini_X7 wco_X7_hasWeb) rfl rfl rfl (by decide +kernel) ⟨Nat.le_of_ble_eq_true rfl, Nat.le_of_ble_eq_true rfl⟩) ⟨ct_blind, ct_rv X.1 hP 0 rfl rfl, ct_preA X hP hD hS _⟩ rfl rfl hl.1 rfl (lv_room (Nat.le_of_ble_eq_true rfl)) dX7_tensionsOf_12 ⟨Nat.zero_le _, Nat.zero_le _⟩) (fun H locs hP hD hS => ?_)
        refine lv_if_eq (tgt := 38) hx hb dX7_tensionsOf_15 (by decide) (fun c3 => ?_) (fun c3 => ?_)
        · have h := it_t h c3
          refine lv_iload_n hx hb dX7_tensionsOf_38 rfl (lv_at hl 2 rfl) ?_
          exact RT x2 _ _ _ _ h rfl hP hD hS dX7_tensionsOf_39
        · have h := it_f h c3
          refine lv_iload_n hx hb dX7_tensionsOf_18 rfl (lv_at hl 2 rfl) ?_
          refine lv_aload_n hx hb dX7_tensionsOf_19 rfl (lv_at hl 0 rfl) ?_
          refine va_get (D := E.1) (ci := 6) (v := .ref (q0 3)) (C := RX7) (T := TX7) (N := 11) hx hb hg in_X7 hown X.1 hP 0 rfl rfl 4 (by decide) (hg _ wf_X7_25) (fun _ h9 => h9) rfl dX7_tensionsOf_20 ?_
          refine lv_iload_n hx hb dX7_tensionsOf_23 rfl (lv_at hl 1 rfl) ?_
          refine lv_bipush (v := 8) hx hb dX7_tensionsOf_24 (by decide) ?_
          refine lv_imul hx hb dX7_tensionsOf_26 ?_
          refine lv_iload_n hx hb dX7_tensionsOf_27 rfl (lv_at hl 3 rfl) ?_
          refine lv_iadd hx hb dX7_tensionsOf_28 ?_
          obtain ⟨hi, v4, ev4, h⟩ := rd_el h
          refine va_iald hx hb X.1 hP 3 0 rfl rfl hi dX7_tensionsOf_29 ?_
          refine lv_top' ev4 ?_
          refine lv_iadd hx hb dX7_tensionsOf_30 ?_
          obtain ⟨v5, ev5, h⟩ := lt_el h
          refine lv_top' ev5 ?_
          refine lv_istore_n (lv' := [(2, .int v5), (0, .ref (q0 0)), (1, .int x1), (3, .int x3)]) hx hb dX7_tensionsOf_31 rfl hl (by decide) rfl (fun ls hl => ?_)
          obtain ⟨v6, ev6, h⟩ := lt_el h
          refine lv_iinc (v := v6) (lv' := [(3, .int v6), (2, .int v5), (0, .ref (q0 0)), (1, .int x1)]) hx hb dX7_tensionsOf_32 hl (k := 3) rfl (by rw [ev6]; rfl) (by decide) rfl (fun ls hl => ?_)
          refine lv_goto (tgt := 4) hx hb dX7_tensionsOf_35 (by decide) ?_
          exact ih v5 v6 _ _ _ h hP hD hS (lv_sub hl [2, 3, 1, 0] rfl)
  obtain ⟨H, eH⟩ : ∃ z, z = s.heap := ⟨_, rfl⟩
  rw [← eH]
  have hP : va_P E.1 vwCl (cw_X7 E q0 S0) H := by rw [eH]; exact hP
  have hS : va_S A s.heap H [] := by rw [eH]; exact hS
  clear eH
  obtain ⟨locs, el⟩ : ∃ z : List Loc, z = [] := ⟨_, rfl⟩
  rw [← el] at hS ⊢
  clear el
  refine lv_iconst (v := 0) hx hb dX7_tensionsOf_0 (by decide) ?_
  refine lv_istore_n (lv' := [(2, .int 0), (0, .ref (q0 0)), (1, .int x1)]) hx hb dX7_tensionsOf_1 rfl hl (by decide) rfl (fun ls hl => ?_)
  refine lv_iconst (v := 0) hx hb dX7_tensionsOf_2 (by decide) ?_
  refine lv_istore_n (lv' := [(3, .int 0), (2, .int 0), (0, .ref (q0 0)), (1, .int x1)]) hx hb dX7_tensionsOf_3 rfl hl (by decide) rfl (fun ls hl => ?_)
  exact N4 fu 0 0 _ _ _ h hP hD hS (lv_sub hl [2, 3, 1, 0] rfl)
theorem dX7_allTensions_0 : decode cX7_allTensions 0 = .ok (.iconst 0, 1) := by decide +kernel
theorem dX7_allTensions_1 : decode cX7_allTensions 1 = .ok (.istore_n 1, 1) := by decide +kernel
theorem dX7_allTensions_2 : decode cX7_allTensions 2 = .ok (.iconst 0, 1) := by decide +kernel
theorem dX7_allTensions_3 : decode cX7_allTensions 3 = .ok (.istore_n 2, 1) := by decide +kernel
theorem dX7_allTensions_4 : decode cX7_allTensions 4 = .ok (.iload_n 2, 1) := by decide +kernel
theorem dX7_allTensions_5 : decode cX7_allTensions 5 = .ok (.bipush 8, 2) := by decide +kernel
theorem dX7_allTensions_7 : decode cX7_allTensions 7 = .ok (.if_icmp .ge 17, 3) := by decide +kernel
theorem dX7_allTensions_10 : decode cX7_allTensions 10 = .ok (.iload_n 1, 1) := by decide +kernel
theorem dX7_allTensions_11 : decode cX7_allTensions 11 = .ok (.aload_n 0, 1) := by decide +kernel
theorem dX7_allTensions_12 : decode cX7_allTensions 12 = .ok (.iload_n 2, 1) := by decide +kernel
theorem dX7_allTensions_13 : decode cX7_allTensions 13 = .ok (.invokevirtual 81, 3) := by decide +kernel
theorem dX7_allTensions_16 : decode cX7_allTensions 16 = .ok (.iadd, 1) := by decide +kernel
theorem dX7_allTensions_17 : decode cX7_allTensions 17 = .ok (.istore_n 1, 1) := by decide +kernel
theorem dX7_allTensions_18 : decode cX7_allTensions 18 = .ok (.iinc 2 1, 3) := by decide +kernel
theorem dX7_allTensions_21 : decode cX7_allTensions 21 = .ok (.goto (-17), 3) := by decide +kernel
theorem dX7_allTensions_24 : decode cX7_allTensions 24 = .ok (.iload_n 1, 1) := by decide +kernel
theorem dX7_allTensions_25 : decode cX7_allTensions 25 = .ok (.ireturn, 1) := by decide +kernel
def f_X7_allTensions_n4 (S0 : Gr) : Nat → Int32 → Int32 → Option (Int32)
  | 0, _, _ => none
  | n + 1, x1, x2 => if 8 ≤ x2 then (some x1) else ((f_X7_tensionsOf S0 x2).bind fun u2 => lt' ((x1 + u2)) fun v3 => lt' (x2 + 1) fun v4 => f_X7_allTensions_n4 S0 n v3 v4)
def f_X7_allTensions (S0 : Gr) : Option (Int32) := f_X7_allTensions_n4 S0 fu 0 0
set_option maxHeartbeats 4000000 in
set_option maxRecDepth 100000 in
theorem c_X7_allTensions (l : Launch) (E : Ec) (q0 : Nat → Nat) (sz : Nat) (S0 : Gr) (Rv : Int32) (h : f_X7_allTensions S0 = some Rv) : Met l yX7_allTensions (wsM (.code yX7_allTensions cX7_allTensions 3 (some .int))) ({ frames := 2, cells := 0, slots := 0, locals := 44 } : Room) (va_Pc [.ref (q0 0)] (ctP E (cw_X7 E q0 S0) sz)) (ctI E (cw_X7 E q0 S0) (cw_X7 E q0 S0) sz Rv) 0 0 (va_A (cw_X7 E q0 S0) sz) := by
  refine ct_metI (by decide) (Nat.le_of_ble_eq_true rfl) ?_
  intro p e s m ar below meth c A QM hx hb hml hown hg X hP hD hS RET ls hl
  have hown : s.vm.findClass RX7 = some m.cls := hown
  have hl : lv_has ls 3 [(0, .ref (q0 0))] := hl
  have RT : ∀ (v : Int32) (H : Heap) (locs : List Loc) (ls : Array Slot) (pc : Nat), some v = some Rv → narrow .int (.int v) = .int v → va_P E.1 vwCl (cw_X7 E q0 S0) H → va_D A (cw_X7 E q0 S0) → va_S A s.heap H locs → decode cX7_allTensions pc = .ok (.ireturn, 1) → W p l e ({ frames := 2, cells := 0, slots := 0, locals := 44 } : Room) s m ar below meth c H locs 0 0 QM (F0 m pc ls [.int v]) := by
    intro v H locs ls pc e hn hP hD hS d
    obtain rfl := sm_e e
    exact RET H locs pc ls hn hP hD hS d
  clear RET
  have N4 : ∀ (n : Nat) (x1 : Int32) (x2 : Int32) (H : Heap) (locs : List Loc) (ls : Array Slot), f_X7_allTensions_n4 S0 n x1 x2 = some Rv → va_P E.1 vwCl (cw_X7 E q0 S0) H → va_D A (cw_X7 E q0 S0) → va_S A s.heap H locs → lv_has ls 3 [(0, .ref (q0 0)), (1, .int x1), (2, .int x2)] → W p l e ({ frames := 2, cells := 0, slots := 0, locals := 44 } : Room) s m ar below meth c H locs 0 0 QM (F0 m 4 ls []) := by
    intro n
    induction n with
    | zero => intro x1 x2 H locs ls h; exact nn_el h
    | succ n ih =>
      intro x1 x2 H locs ls h hP hD hS hl
      refine lv_iload_n hx hb dX7_allTensions_4 rfl (lv_at hl 2 rfl) ?_
      refine lv_bipush (v := 8) hx hb dX7_allTensions_5 (by decide) ?_
      refine lv_icmp_ge (tgt := 24) hx hb dX7_allTensions_7 (by decide) (fun c1 => ?_) (fun c1 => ?_)
      · have h := it_t h c1
        refine lv_iload_n hx hb dX7_allTensions_24 rfl (lv_at hl 1 rfl) ?_
        exact RT x1 _ _ _ _ h rfl hP hD hS dX7_allTensions_25
      · have h := it_f h c1
        refine lv_iload_n hx hb dX7_allTensions_10 rfl (lv_at hl 1 rfl) ?_
        refine lv_aload_n hx hb dX7_allTensions_11 rfl (lv_at hl 0 rfl) ?_
        refine lv_iload_n hx hb dX7_allTensions_12 rfl (lv_at hl 2 rfl) ?_
        obtain ⟨u2, hc, h⟩ := bd_el h
        refine ct_iA (w1 := cw_X7 E q0 S0) X hP hD hS (va_runV (C := RX7) (As := [.int x2]) (rest := [.int x1]) ⟨hx, hb, hml, hown, hg⟩ (c_X7_tensionsOf l E q0 H.size S0 x2 u2 hc) (cwV 1 hg (gwV wm_X7_81 wi_X7_tensionsOf wsl_X7_tensionsOf wini_X7 wco_X7_tensionsOf) rfl rfl rfl (by decide +kernel) ⟨Nat.le_of_ble_eq_true rfl, Nat.le_of_ble_eq_true rfl⟩) ⟨ct_blind, ct_rv X.1 hP 0 rfl rfl, ct_preA X hP hD hS _⟩ rfl rfl hl.1 rfl (lv_room (Nat.le_of_ble_eq_true rfl)) dX7_allTensions_13 ⟨Nat.zero_le _, Nat.zero_le _⟩) (fun H locs hP hD hS => ?_)
        refine lv_iadd hx hb dX7_allTensions_16 ?_
        obtain ⟨v3, ev3, h⟩ := lt_el h
        refine lv_top' ev3 ?_
        refine lv_istore_n (lv' := [(1, .int v3), (0, .ref (q0 0)), (2, .int x2)]) hx hb dX7_allTensions_17 rfl hl (by decide) rfl (fun ls hl => ?_)
        obtain ⟨v4, ev4, h⟩ := lt_el h
        refine lv_iinc (v := v4) (lv' := [(2, .int v4), (1, .int v3), (0, .ref (q0 0))]) hx hb dX7_allTensions_18 hl (k := 2) rfl (by rw [ev4]; rfl) (by decide) rfl (fun ls hl => ?_)
        refine lv_goto (tgt := 4) hx hb dX7_allTensions_21 (by decide) ?_
        exact ih v3 v4 _ _ _ h hP hD hS (lv_sub hl [2, 1, 0] rfl)
  obtain ⟨H, eH⟩ : ∃ z, z = s.heap := ⟨_, rfl⟩
  rw [← eH]
  have hP : va_P E.1 vwCl (cw_X7 E q0 S0) H := by rw [eH]; exact hP
  have hS : va_S A s.heap H [] := by rw [eH]; exact hS
  clear eH
  obtain ⟨locs, el⟩ : ∃ z : List Loc, z = [] := ⟨_, rfl⟩
  rw [← el] at hS ⊢
  clear el
  refine lv_iconst (v := 0) hx hb dX7_allTensions_0 (by decide) ?_
  refine lv_istore_n (lv' := [(1, .int 0), (0, .ref (q0 0))]) hx hb dX7_allTensions_1 rfl hl (by decide) rfl (fun ls hl => ?_)
  refine lv_iconst (v := 0) hx hb dX7_allTensions_2 (by decide) ?_
  refine lv_istore_n (lv' := [(2, .int 0), (1, .int 0), (0, .ref (q0 0))]) hx hb dX7_allTensions_3 rfl hl (by decide) rfl (fun ls hl => ?_)
  exact N4 fu 0 0 _ _ _ h hP hD hS (lv_sub hl [2, 1, 0] rfl)
theorem dX7_distanceTo_0 : decode cX7_distanceTo 0 = .ok (.aload_n 0, 1) := by decide +kernel
theorem dX7_distanceTo_1 : decode cX7_distanceTo 1 = .ok (.getfield 28, 3) := by decide +kernel
theorem dX7_distanceTo_4 : decode cX7_distanceTo 4 = .ok (.iload_n 2, 1) := by decide +kernel
theorem dX7_distanceTo_5 : decode cX7_distanceTo 5 = .ok (.iaload, 1) := by decide +kernel
theorem dX7_distanceTo_6 : decode cX7_distanceTo 6 = .ok (.aload_n 0, 1) := by decide +kernel
theorem dX7_distanceTo_7 : decode cX7_distanceTo 7 = .ok (.getfield 18, 3) := by decide +kernel
theorem dX7_distanceTo_10 : decode cX7_distanceTo 10 = .ok (.iload_n 1, 1) := by decide +kernel
theorem dX7_distanceTo_11 : decode cX7_distanceTo 11 = .ok (.iaload, 1) := by decide +kernel
theorem dX7_distanceTo_12 : decode cX7_distanceTo 12 = .ok (.isub, 1) := by decide +kernel
theorem dX7_distanceTo_13 : decode cX7_distanceTo 13 = .ok (.aload_n 0, 1) := by decide +kernel
theorem dX7_distanceTo_14 : decode cX7_distanceTo 14 = .ok (.getfield 31, 3) := by decide +kernel
theorem dX7_distanceTo_17 : decode cX7_distanceTo 17 = .ok (.iload_n 2, 1) := by decide +kernel
theorem dX7_distanceTo_18 : decode cX7_distanceTo 18 = .ok (.iaload, 1) := by decide +kernel
theorem dX7_distanceTo_19 : decode cX7_distanceTo 19 = .ok (.aload_n 0, 1) := by decide +kernel
theorem dX7_distanceTo_20 : decode cX7_distanceTo 20 = .ok (.getfield 22, 3) := by decide +kernel
theorem dX7_distanceTo_23 : decode cX7_distanceTo 23 = .ok (.iload_n 1, 1) := by decide +kernel
theorem dX7_distanceTo_24 : decode cX7_distanceTo 24 = .ok (.iaload, 1) := by decide +kernel
theorem dX7_distanceTo_25 : decode cX7_distanceTo 25 = .ok (.isub, 1) := by decide +kernel
theorem dX7_distanceTo_26 : decode cX7_distanceTo 26 = .ok (.invokestatic 84, 3) := by decide +kernel
theorem dX7_distanceTo_29 : decode cX7_distanceTo 29 = .ok (.ireturn, 1) := by decide +kernel
def f_X7_distanceTo (S0 : Gr) (x1 : Int32) (x2 : Int32) : Option (Int32) := rd' (S0.2 5) 8 x2 fun v1 => rd' (S0.2 2) 8 x1 fun v2 => rd' (S0.2 6) 8 x2 fun v3 => rd' (S0.2 3) 8 x1 fun v4 => (f_X1_distance (v1 - v2) (v3 - v4)).bind fun u5 => some u5
set_option maxHeartbeats 4000000 in
set_option maxRecDepth 100000 in
theorem c_X7_distanceTo (l : Launch) (E : Ec) (q0 : Nat → Nat) (sz : Nat) (S0 : Gr) (x1 : Int32) (x2 : Int32) (Rv : Int32) (h : f_X7_distanceTo S0 x1 x2 = some Rv) : Met l yX7_distanceTo (wsM (.code yX7_distanceTo cX7_distanceTo 3 (some .int))) ({ frames := 2, cells := 0, slots := 0, locals := 51 } : Room) (va_Pc [.ref (q0 0), .int x1, .int x2] (ctP E (cw_X7 E q0 S0) sz)) (ctI E (cw_X7 E q0 S0) (cw_X7 E q0 S0) sz Rv) 0 0 (va_A (cw_X7 E q0 S0) sz) := by
  refine ct_metI (by decide) (Nat.le_of_ble_eq_true rfl) ?_
  intro p e s m ar below meth c A QM hx hb hml hown hg X hP hD hS RET ls hl
  have hown : s.vm.findClass RX7 = some m.cls := hown
  have hl : lv_has ls 3 [(0, .ref (q0 0)), (1, .int x1), (2, .int x2)] := hl
  have RT : ∀ (v : Int32) (H : Heap) (locs : List Loc) (ls : Array Slot) (pc : Nat), some v = some Rv → narrow .int (.int v) = .int v → va_P E.1 vwCl (cw_X7 E q0 S0) H → va_D A (cw_X7 E q0 S0) → va_S A s.heap H locs → decode cX7_distanceTo pc = .ok (.ireturn, 1) → W p l e ({ frames := 2, cells := 0, slots := 0, locals := 51 } : Room) s m ar below meth c H locs 0 0 QM (F0 m pc ls [.int v]) := by
    intro v H locs ls pc e hn hP hD hS d
    obtain rfl := sm_e e
    exact RET H locs pc ls hn hP hD hS d
  clear RET
  obtain ⟨H, eH⟩ : ∃ z, z = s.heap := ⟨_, rfl⟩
  rw [← eH]
  have hP : va_P E.1 vwCl (cw_X7 E q0 S0) H := by rw [eH]; exact hP
  have hS : va_S A s.heap H [] := by rw [eH]; exact hS
  clear eH
  obtain ⟨locs, el⟩ : ∃ z : List Loc, z = [] := ⟨_, rfl⟩
  rw [← el] at hS ⊢
  clear el
  refine lv_aload_n hx hb dX7_distanceTo_0 rfl (lv_at hl 0 rfl) ?_
  refine va_get (D := E.1) (ci := 6) (v := .ref (q0 4)) (C := RX7) (T := TX7) (N := 11) hx hb hg in_X7 hown X.1 hP 0 rfl rfl 5 (by decide) (hg _ wf_X7_28) (fun _ h9 => h9) rfl dX7_distanceTo_1 ?_
  refine lv_iload_n hx hb dX7_distanceTo_4 rfl (lv_at hl 2 rfl) ?_
  obtain ⟨hi, v1, ev1, h⟩ := rd_el h
  refine va_iald hx hb X.1 hP 4 0 rfl rfl hi dX7_distanceTo_5 ?_
  refine lv_top' ev1 ?_
  refine lv_aload_n hx hb dX7_distanceTo_6 rfl (lv_at hl 0 rfl) ?_
  refine va_get (D := E.1) (ci := 6) (v := .ref (q0 1)) (C := RX7) (T := TX7) (N := 11) hx hb hg in_X7 hown X.1 hP 0 rfl rfl 2 (by decide) (hg _ wf_X7_18) (fun _ h9 => h9) rfl dX7_distanceTo_7 ?_
  refine lv_iload_n hx hb dX7_distanceTo_10 rfl (lv_at hl 1 rfl) ?_
  obtain ⟨hi, v2, ev2, h⟩ := rd_el h
  refine va_iald hx hb X.1 hP 1 0 rfl rfl hi dX7_distanceTo_11 ?_
  refine lv_top' ev2 ?_
  refine lv_isub hx hb dX7_distanceTo_12 ?_
  refine lv_aload_n hx hb dX7_distanceTo_13 rfl (lv_at hl 0 rfl) ?_
  refine va_get (D := E.1) (ci := 6) (v := .ref (q0 5)) (C := RX7) (T := TX7) (N := 11) hx hb hg in_X7 hown X.1 hP 0 rfl rfl 6 (by decide) (hg _ wf_X7_31) (fun _ h9 => h9) rfl dX7_distanceTo_14 ?_
  refine lv_iload_n hx hb dX7_distanceTo_17 rfl (lv_at hl 2 rfl) ?_
  obtain ⟨hi, v3, ev3, h⟩ := rd_el h
  refine va_iald hx hb X.1 hP 5 0 rfl rfl hi dX7_distanceTo_18 ?_
  refine lv_top' ev3 ?_
  refine lv_aload_n hx hb dX7_distanceTo_19 rfl (lv_at hl 0 rfl) ?_
  refine va_get (D := E.1) (ci := 6) (v := .ref (q0 2)) (C := RX7) (T := TX7) (N := 11) hx hb hg in_X7 hown X.1 hP 0 rfl rfl 3 (by decide) (hg _ wf_X7_22) (fun _ h9 => h9) rfl dX7_distanceTo_20 ?_
  refine lv_iload_n hx hb dX7_distanceTo_23 rfl (lv_at hl 1 rfl) ?_
  obtain ⟨hi, v4, ev4, h⟩ := rd_el h
  refine va_iald hx hb X.1 hP 2 0 rfl rfl hi dX7_distanceTo_24 ?_
  refine lv_top' ev4 ?_
  refine lv_isub hx hb dX7_distanceTo_25 ?_
  obtain ⟨u5, hc, h⟩ := bd_el h
  refine ct_iN X hP hD hS (va_runS (As := [.int (v1 - v2), .int (v3 - v4)]) (rest := []) ⟨hx, hb, hml, hown, hg⟩ (c_X1_distance l E  H.size (v1 - v2) (v3 - v4) u5 hc) (va_cwS 2 hg (gwS wm_X7_84 wst_X1_distance wini_X1 wco_X1_distance) rfl rfl rfl (by decide +kernel) ⟨Nat.le_of_ble_eq_true rfl, Nat.le_of_ble_eq_true rfl⟩) ⟨ct_blind, ct_preN X hS _⟩ rfl rfl hl.1 rfl (lv_room (Nat.le_of_ble_eq_true rfl)) dX7_distanceTo_26 ⟨Nat.zero_le _, Nat.zero_le _⟩) (fun H locs hP hD hS => ?_)
  exact RT u5 _ _ _ _ h rfl hP hD hS dX7_distanceTo_29
theorem dX7_felt_0 : decode cX7_felt 0 = .ok (.aload_n 0, 1) := by decide +kernel
theorem dX7_felt_1 : decode cX7_felt 1 = .ok (.getfield 34, 3) := by decide +kernel
theorem dX7_felt_4 : decode cX7_felt 4 = .ok (.iload_n 2, 1) := by decide +kernel
theorem dX7_felt_5 : decode cX7_felt 5 = .ok (.iaload, 1) := by decide +kernel
theorem dX7_felt_6 : decode cX7_felt 6 = .ok (.aload_n 0, 1) := by decide +kernel
theorem dX7_felt_7 : decode cX7_felt 7 = .ok (.iload_n 1, 1) := by decide +kernel
theorem dX7_felt_8 : decode cX7_felt 8 = .ok (.iload_n 2, 1) := by decide +kernel
theorem dX7_felt_9 : decode cX7_felt 9 = .ok (.invokevirtual 90, 3) := by decide +kernel
theorem dX7_felt_12 : decode cX7_felt 12 = .ok (.isub, 1) := by decide +kernel
theorem dX7_felt_13 : decode cX7_felt 13 = .ok (.ireturn, 1) := by decide +kernel
def f_X7_felt (S0 : Gr) (x1 : Int32) (x2 : Int32) : Option (Int32) := rd' (S0.2 7) 8 x2 fun v1 => (f_X7_distanceTo S0 x1 x2).bind fun u2 => some (v1 - u2)
set_option maxHeartbeats 4000000 in
set_option maxRecDepth 100000 in
theorem c_X7_felt (l : Launch) (E : Ec) (q0 : Nat → Nat) (sz : Nat) (S0 : Gr) (x1 : Int32) (x2 : Int32) (Rv : Int32) (h : f_X7_felt S0 x1 x2 = some Rv) : Met l yX7_felt (wsM (.code yX7_felt cX7_felt 3 (some .int))) ({ frames := 3, cells := 0, slots := 0, locals := 73 } : Room) (va_Pc [.ref (q0 0), .int x1, .int x2] (ctP E (cw_X7 E q0 S0) sz)) (ctI E (cw_X7 E q0 S0) (cw_X7 E q0 S0) sz Rv) 0 0 (va_A (cw_X7 E q0 S0) sz) := by
  refine ct_metI (by decide) (Nat.le_of_ble_eq_true rfl) ?_
  intro p e s m ar below meth c A QM hx hb hml hown hg X hP hD hS RET ls hl
  have hown : s.vm.findClass RX7 = some m.cls := hown
  have hl : lv_has ls 3 [(0, .ref (q0 0)), (1, .int x1), (2, .int x2)] := hl
  have RT : ∀ (v : Int32) (H : Heap) (locs : List Loc) (ls : Array Slot) (pc : Nat), some v = some Rv → narrow .int (.int v) = .int v → va_P E.1 vwCl (cw_X7 E q0 S0) H → va_D A (cw_X7 E q0 S0) → va_S A s.heap H locs → decode cX7_felt pc = .ok (.ireturn, 1) → W p l e ({ frames := 3, cells := 0, slots := 0, locals := 73 } : Room) s m ar below meth c H locs 0 0 QM (F0 m pc ls [.int v]) := by
    intro v H locs ls pc e hn hP hD hS d
    obtain rfl := sm_e e
    exact RET H locs pc ls hn hP hD hS d
  clear RET
  obtain ⟨H, eH⟩ : ∃ z, z = s.heap := ⟨_, rfl⟩
  rw [← eH]
  have hP : va_P E.1 vwCl (cw_X7 E q0 S0) H := by rw [eH]; exact hP
  have hS : va_S A s.heap H [] := by rw [eH]; exact hS
  clear eH
  obtain ⟨locs, el⟩ : ∃ z : List Loc, z = [] := ⟨_, rfl⟩
  rw [← el] at hS ⊢
  clear el
  refine lv_aload_n hx hb dX7_felt_0 rfl (lv_at hl 0 rfl) ?_
  refine va_get (D := E.1) (ci := 6) (v := .ref (q0 6)) (C := RX7) (T := TX7) (N := 11) hx hb hg in_X7 hown X.1 hP 0 rfl rfl 7 (by decide) (hg _ wf_X7_34) (fun _ h9 => h9) rfl dX7_felt_1 ?_
  refine lv_iload_n hx hb dX7_felt_4 rfl (lv_at hl 2 rfl) ?_
  obtain ⟨hi, v1, ev1, h⟩ := rd_el h
  refine va_iald hx hb X.1 hP 6 0 rfl rfl hi dX7_felt_5 ?_
  refine lv_top' ev1 ?_
  refine lv_aload_n hx hb dX7_felt_6 rfl (lv_at hl 0 rfl) ?_
  refine lv_iload_n hx hb dX7_felt_7 rfl (lv_at hl 1 rfl) ?_
  refine lv_iload_n hx hb dX7_felt_8 rfl (lv_at hl 2 rfl) ?_
  obtain ⟨u2, hc, h⟩ := bd_el h
  refine ct_iA (w1 := cw_X7 E q0 S0) X hP hD hS (va_runV (C := RX7) (As := [.int x1, .int x2]) (rest := [.int v1]) ⟨hx, hb, hml, hown, hg⟩ (c_X7_distanceTo l E q0 H.size S0 x1 x2 u2 hc) (cwV 2 hg (gwV wm_X7_90 wi_X7_distanceTo wsl_X7_distanceTo wini_X7 wco_X7_distanceTo) rfl rfl rfl (by decide +kernel) ⟨Nat.le_of_ble_eq_true rfl, Nat.le_of_ble_eq_true rfl⟩) ⟨ct_blind, ct_rv X.1 hP 0 rfl rfl, ct_preA X hP hD hS _⟩ rfl rfl hl.1 rfl (lv_room (Nat.le_of_ble_eq_true rfl)) dX7_felt_9 ⟨Nat.zero_le _, Nat.zero_le _⟩) (fun H locs hP hD hS => ?_)
  refine lv_isub hx hb dX7_felt_12 ?_
  exact RT (v1 - u2) _ _ _ _ h rfl hP hD hS dX7_felt_13
theorem dX7_spokeTo_0 : decode cX7_spokeTo 0 = .ok (.aload_n 0, 1) := by decide +kernel
theorem dX7_spokeTo_1 : decode cX7_spokeTo 1 = .ok (.getfield 28, 3) := by decide +kernel
theorem dX7_spokeTo_4 : decode cX7_spokeTo 4 = .ok (.iload_n 2, 1) := by decide +kernel
theorem dX7_spokeTo_5 : decode cX7_spokeTo 5 = .ok (.iaload, 1) := by decide +kernel
theorem dX7_spokeTo_6 : decode cX7_spokeTo 6 = .ok (.aload_n 0, 1) := by decide +kernel
theorem dX7_spokeTo_7 : decode cX7_spokeTo 7 = .ok (.getfield 18, 3) := by decide +kernel
theorem dX7_spokeTo_10 : decode cX7_spokeTo 10 = .ok (.iload_n 1, 1) := by decide +kernel
theorem dX7_spokeTo_11 : decode cX7_spokeTo 11 = .ok (.iaload, 1) := by decide +kernel
theorem dX7_spokeTo_12 : decode cX7_spokeTo 12 = .ok (.isub, 1) := by decide +kernel
theorem dX7_spokeTo_13 : decode cX7_spokeTo 13 = .ok (.aload_n 0, 1) := by decide +kernel
theorem dX7_spokeTo_14 : decode cX7_spokeTo 14 = .ok (.getfield 31, 3) := by decide +kernel
theorem dX7_spokeTo_17 : decode cX7_spokeTo 17 = .ok (.iload_n 2, 1) := by decide +kernel
theorem dX7_spokeTo_18 : decode cX7_spokeTo 18 = .ok (.iaload, 1) := by decide +kernel
theorem dX7_spokeTo_19 : decode cX7_spokeTo 19 = .ok (.aload_n 0, 1) := by decide +kernel
theorem dX7_spokeTo_20 : decode cX7_spokeTo 20 = .ok (.getfield 22, 3) := by decide +kernel
theorem dX7_spokeTo_23 : decode cX7_spokeTo 23 = .ok (.iload_n 1, 1) := by decide +kernel
theorem dX7_spokeTo_24 : decode cX7_spokeTo 24 = .ok (.iaload, 1) := by decide +kernel
theorem dX7_spokeTo_25 : decode cX7_spokeTo 25 = .ok (.isub, 1) := by decide +kernel
theorem dX7_spokeTo_26 : decode cX7_spokeTo 26 = .ok (.invokestatic 87, 3) := by decide +kernel
theorem dX7_spokeTo_29 : decode cX7_spokeTo 29 = .ok (.ireturn, 1) := by decide +kernel
def f_X7_spokeTo (S0 : Gr) (x1 : Int32) (x2 : Int32) : Option (Int32) := rd' (S0.2 5) 8 x2 fun v1 => rd' (S0.2 2) 8 x1 fun v2 => rd' (S0.2 6) 8 x2 fun v3 => rd' (S0.2 3) 8 x1 fun v4 => (f_X1_spokeTowards (v1 - v2) (v3 - v4)).bind fun u5 => some u5
set_option maxHeartbeats 4000000 in
set_option maxRecDepth 100000 in
theorem c_X7_spokeTo (l : Launch) (E : Ec) (q0 : Nat → Nat) (sz : Nat) (S0 : Gr) (x1 : Int32) (x2 : Int32) (Rv : Int32) (h : f_X7_spokeTo S0 x1 x2 = some Rv) : Met l yX7_spokeTo (wsM (.code yX7_spokeTo cX7_spokeTo 3 (some .int))) ({ frames := 2, cells := 0, slots := 0, locals := 53 } : Room) (va_Pc [.ref (q0 0), .int x1, .int x2] (ctP E (cw_X7 E q0 S0) sz)) (ctI E (cw_X7 E q0 S0) (cw_X7 E q0 S0) sz Rv) 0 0 (va_A (cw_X7 E q0 S0) sz) := by
  refine ct_metI (by decide) (Nat.le_of_ble_eq_true rfl) ?_
  intro p e s m ar below meth c A QM hx hb hml hown hg X hP hD hS RET ls hl
  have hown : s.vm.findClass RX7 = some m.cls := hown
  have hl : lv_has ls 3 [(0, .ref (q0 0)), (1, .int x1), (2, .int x2)] := hl
  have RT : ∀ (v : Int32) (H : Heap) (locs : List Loc) (ls : Array Slot) (pc : Nat), some v = some Rv → narrow .int (.int v) = .int v → va_P E.1 vwCl (cw_X7 E q0 S0) H → va_D A (cw_X7 E q0 S0) → va_S A s.heap H locs → decode cX7_spokeTo pc = .ok (.ireturn, 1) → W p l e ({ frames := 2, cells := 0, slots := 0, locals := 53 } : Room) s m ar below meth c H locs 0 0 QM (F0 m pc ls [.int v]) := by
    intro v H locs ls pc e hn hP hD hS d
    obtain rfl := sm_e e
    exact RET H locs pc ls hn hP hD hS d
  clear RET
  obtain ⟨H, eH⟩ : ∃ z, z = s.heap := ⟨_, rfl⟩
  rw [← eH]
  have hP : va_P E.1 vwCl (cw_X7 E q0 S0) H := by rw [eH]; exact hP
  have hS : va_S A s.heap H [] := by rw [eH]; exact hS
  clear eH
  obtain ⟨locs, el⟩ : ∃ z : List Loc, z = [] := ⟨_, rfl⟩
  rw [← el] at hS ⊢
  clear el
  refine lv_aload_n hx hb dX7_spokeTo_0 rfl (lv_at hl 0 rfl) ?_
  refine va_get (D := E.1) (ci := 6) (v := .ref (q0 4)) (C := RX7) (T := TX7) (N := 11) hx hb hg in_X7 hown X.1 hP 0 rfl rfl 5 (by decide) (hg _ wf_X7_28) (fun _ h9 => h9) rfl dX7_spokeTo_1 ?_
  refine lv_iload_n hx hb dX7_spokeTo_4 rfl (lv_at hl 2 rfl) ?_
  obtain ⟨hi, v1, ev1, h⟩ := rd_el h
  refine va_iald hx hb X.1 hP 4 0 rfl rfl hi dX7_spokeTo_5 ?_
  refine lv_top' ev1 ?_
  refine lv_aload_n hx hb dX7_spokeTo_6 rfl (lv_at hl 0 rfl) ?_
  refine va_get (D := E.1) (ci := 6) (v := .ref (q0 1)) (C := RX7) (T := TX7) (N := 11) hx hb hg in_X7 hown X.1 hP 0 rfl rfl 2 (by decide) (hg _ wf_X7_18) (fun _ h9 => h9) rfl dX7_spokeTo_7 ?_
  refine lv_iload_n hx hb dX7_spokeTo_10 rfl (lv_at hl 1 rfl) ?_
  obtain ⟨hi, v2, ev2, h⟩ := rd_el h
  refine va_iald hx hb X.1 hP 1 0 rfl rfl hi dX7_spokeTo_11 ?_
  refine lv_top' ev2 ?_
  refine lv_isub hx hb dX7_spokeTo_12 ?_
  refine lv_aload_n hx hb dX7_spokeTo_13 rfl (lv_at hl 0 rfl) ?_
  refine va_get (D := E.1) (ci := 6) (v := .ref (q0 5)) (C := RX7) (T := TX7) (N := 11) hx hb hg in_X7 hown X.1 hP 0 rfl rfl 6 (by decide) (hg _ wf_X7_31) (fun _ h9 => h9) rfl dX7_spokeTo_14 ?_
  refine lv_iload_n hx hb dX7_spokeTo_17 rfl (lv_at hl 2 rfl) ?_
  obtain ⟨hi, v3, ev3, h⟩ := rd_el h
  refine va_iald hx hb X.1 hP 5 0 rfl rfl hi dX7_spokeTo_18 ?_
  refine lv_top' ev3 ?_
  refine lv_aload_n hx hb dX7_spokeTo_19 rfl (lv_at hl 0 rfl) ?_
  refine va_get (D := E.1) (ci := 6) (v := .ref (q0 2)) (C := RX7) (T := TX7) (N := 11) hx hb hg in_X7 hown X.1 hP 0 rfl rfl 3 (by decide) (hg _ wf_X7_22) (fun _ h9 => h9) rfl dX7_spokeTo_20 ?_
  refine lv_iload_n hx hb dX7_spokeTo_23 rfl (lv_at hl 1 rfl) ?_
  obtain ⟨hi, v4, ev4, h⟩ := rd_el h
  refine va_iald hx hb X.1 hP 2 0 rfl rfl hi dX7_spokeTo_24 ?_
  refine lv_top' ev4 ?_
  refine lv_isub hx hb dX7_spokeTo_25 ?_
  obtain ⟨u5, hc, h⟩ := bd_el h
  refine ct_iN X hP hD hS (va_runS (As := [.int (v1 - v2), .int (v3 - v4)]) (rest := []) ⟨hx, hb, hml, hown, hg⟩ (c_X1_spokeTowards l E  H.size (v1 - v2) (v3 - v4) u5 hc) (va_cwS 2 hg (gwS wm_X7_87 wst_X1_spokeTowards wini_X1 wco_X1_spokeTowards) rfl rfl rfl (by decide +kernel) ⟨Nat.le_of_ble_eq_true rfl, Nat.le_of_ble_eq_true rfl⟩) ⟨ct_blind, ct_preN X hS _⟩ rfl rfl hl.1 rfl (lv_room (Nat.le_of_ble_eq_true rfl)) dX7_spokeTo_26 ⟨Nat.zero_le _, Nat.zero_le _⟩) (fun H locs hP hD hS => ?_)
  exact RT u5 _ _ _ _ h rfl hP hD hS dX7_spokeTo_29
theorem dX7_strongestFleet_0 : decode cX7_strongestFleet 0 = .ok (.bipush (-2), 2) := by decide +kernel
theorem dX7_strongestFleet_2 : decode cX7_strongestFleet 2 = .ok (.istore_n 2, 1) := by decide +kernel
theorem dX7_strongestFleet_3 : decode cX7_strongestFleet 3 = .ok (.iconst 0, 1) := by decide +kernel
theorem dX7_strongestFleet_4 : decode cX7_strongestFleet 4 = .ok (.istore_n 3, 1) := by decide +kernel
theorem dX7_strongestFleet_5 : decode cX7_strongestFleet 5 = .ok (.iconst 0, 1) := by decide +kernel
theorem dX7_strongestFleet_6 : decode cX7_strongestFleet 6 = .ok (.istore 4, 2) := by decide +kernel
theorem dX7_strongestFleet_8 : decode cX7_strongestFleet 8 = .ok (.iload 4, 2) := by decide +kernel
theorem dX7_strongestFleet_10 : decode cX7_strongestFleet 10 = .ok (.bipush 8, 2) := by decide +kernel
theorem dX7_strongestFleet_12 : decode cX7_strongestFleet 12 = .ok (.if_icmp .ge 40, 3) := by decide +kernel
theorem dX7_strongestFleet_15 : decode cX7_strongestFleet 15 = .ok (.aload_n 0, 1) := by decide +kernel
theorem dX7_strongestFleet_16 : decode cX7_strongestFleet 16 = .ok (.iload 4, 2) := by decide +kernel
theorem dX7_strongestFleet_18 : decode cX7_strongestFleet 18 = .ok (.invokevirtual 60, 3) := by decide +kernel
theorem dX7_strongestFleet_21 : decode cX7_strongestFleet 21 = .ok (.ifCond .eq 25, 3) := by decide +kernel
theorem dX7_strongestFleet_24 : decode cX7_strongestFleet 24 = .ok (.aload_n 0, 1) := by decide +kernel
theorem dX7_strongestFleet_25 : decode cX7_strongestFleet 25 = .ok (.iload_n 1, 1) := by decide +kernel
theorem dX7_strongestFleet_26 : decode cX7_strongestFleet 26 = .ok (.iload 4, 2) := by decide +kernel
theorem dX7_strongestFleet_28 : decode cX7_strongestFleet 28 = .ok (.invokevirtual 93, 3) := by decide +kernel
theorem dX7_strongestFleet_31 : decode cX7_strongestFleet 31 = .ok (.iload_n 3, 1) := by decide +kernel
theorem dX7_strongestFleet_32 : decode cX7_strongestFleet 32 = .ok (.if_icmp .le 14, 3) := by decide +kernel
theorem dX7_strongestFleet_35 : decode cX7_strongestFleet 35 = .ok (.aload_n 0, 1) := by decide +kernel
theorem dX7_strongestFleet_36 : decode cX7_strongestFleet 36 = .ok (.iload_n 1, 1) := by decide +kernel
theorem dX7_strongestFleet_37 : decode cX7_strongestFleet 37 = .ok (.iload 4, 2) := by decide +kernel
theorem dX7_strongestFleet_39 : decode cX7_strongestFleet 39 = .ok (.invokevirtual 93, 3) := by decide +kernel
theorem dX7_strongestFleet_42 : decode cX7_strongestFleet 42 = .ok (.istore_n 3, 1) := by decide +kernel
theorem dX7_strongestFleet_43 : decode cX7_strongestFleet 43 = .ok (.iload 4, 2) := by decide +kernel
theorem dX7_strongestFleet_45 : decode cX7_strongestFleet 45 = .ok (.istore_n 2, 1) := by decide +kernel
theorem dX7_strongestFleet_46 : decode cX7_strongestFleet 46 = .ok (.iinc 4 1, 3) := by decide +kernel
theorem dX7_strongestFleet_49 : decode cX7_strongestFleet 49 = .ok (.goto (-41), 3) := by decide +kernel
theorem dX7_strongestFleet_52 : decode cX7_strongestFleet 52 = .ok (.iload_n 2, 1) := by decide +kernel
theorem dX7_strongestFleet_53 : decode cX7_strongestFleet 53 = .ok (.ireturn, 1) := by decide +kernel
def f_X7_strongestFleet_n8 (S0 : Gr) (x1 : Int32) : Nat → Int32 → Int32 → Int32 → Option (Int32)
  | 0, _, _, _ => none
  | n + 1, x2, x3, x4 => if 8 ≤ x4 then (some x2) else ((f_X7_hasFleet S0 x4).bind fun u2 => if u2 = 0 then (lt' (x4 + 1) fun v4 => f_X7_strongestFleet_n8 S0 x1 n x2 x3 v4) else ((f_X7_felt S0 x1 x4).bind fun u5 => if u5 ≤ x3 then (lt' (x4 + 1) fun v7 => f_X7_strongestFleet_n8 S0 x1 n x2 x3 v7) else ((f_X7_felt S0 x1 x4).bind fun u8 => lt' (x4 + 1) fun v9 => f_X7_strongestFleet_n8 S0 x1 n x4 u8 v9)))
def f_X7_strongestFleet (S0 : Gr) (x1 : Int32) : Option (Int32) := f_X7_strongestFleet_n8 S0 x1 fu (-2) 0 0
set_option maxHeartbeats 4000000 in
set_option maxRecDepth 100000 in
theorem c_X7_strongestFleet (l : Launch) (E : Ec) (q0 : Nat → Nat) (sz : Nat) (S0 : Gr) (x1 : Int32) (Rv : Int32) (h : f_X7_strongestFleet S0 x1 = some Rv) : Met l yX7_strongestFleet (wsM (.code yX7_strongestFleet cX7_strongestFleet 5 (some .int))) ({ frames := 4, cells := 0, slots := 0, locals := 95 } : Room) (va_Pc [.ref (q0 0), .int x1] (ctP E (cw_X7 E q0 S0) sz)) (ctI E (cw_X7 E q0 S0) (cw_X7 E q0 S0) sz Rv) 0 0 (va_A (cw_X7 E q0 S0) sz) := by
  refine ct_metI (by decide) (Nat.le_of_ble_eq_true rfl) ?_
  intro p e s m ar below meth c A QM hx hb hml hown hg X hP hD hS RET ls hl
  have hown : s.vm.findClass RX7 = some m.cls := hown
  have hl : lv_has ls 5 [(0, .ref (q0 0)), (1, .int x1)] := hl
  have RT : ∀ (v : Int32) (H : Heap) (locs : List Loc) (ls : Array Slot) (pc : Nat), some v = some Rv → narrow .int (.int v) = .int v → va_P E.1 vwCl (cw_X7 E q0 S0) H → va_D A (cw_X7 E q0 S0) → va_S A s.heap H locs → decode cX7_strongestFleet pc = .ok (.ireturn, 1) → W p l e ({ frames := 4, cells := 0, slots := 0, locals := 95 } : Room) s m ar below meth c H locs 0 0 QM (F0 m pc ls [.int v]) := by
    intro v H locs ls pc e hn hP hD hS d
    obtain rfl := sm_e e
    exact RET H locs pc ls hn hP hD hS d
  clear RET
  have N8 : ∀ (n : Nat) (x2 : Int32) (x3 : Int32) (x4 : Int32) (H : Heap) (locs : List Loc) (ls : Array Slot), f_X7_strongestFleet_n8 S0 x1 n x2 x3 x4 = some Rv → va_P E.1 vwCl (cw_X7 E q0 S0) H → va_D A (cw_X7 E q0 S0) → va_S A s.heap H locs → lv_has ls 5 [(0, .ref (q0 0)), (1, .int x1), (2, .int x2), (3, .int x3), (4, .int x4)] → W p l e ({ frames := 4, cells := 0, slots := 0, locals := 95 } : Room) s m ar below meth c H locs 0 0 QM (F0 m 8 ls []) := by
    intro n
    induction n with
    | zero => intro x2 x3 x4 H locs ls h; exact nn_el h
    | succ n ih =>
      intro x2 x3 x4 H locs ls h hP hD hS hl
      refine lv_iload hx hb dX7_strongestFleet_8 (lv_at hl 4 rfl) ?_
      refine lv_bipush (v := 8) hx hb dX7_strongestFleet_10 (by decide) ?_
      refine lv_icmp_ge (tgt := 52) hx hb dX7_strongestFleet_12 (by decide) (fun c1 => ?_) (fun c1 => ?_)
      · have h := it_t h c1
        refine lv_iload_n hx hb dX7_strongestFleet_52 rfl (lv_at hl 2 rfl) ?_
        exact RT x2 _ _ _ _ h rfl hP hD hS dX7_strongestFleet_53
      · have h := it_f h c1
        refine lv_aload_n hx hb dX7_strongestFleet_15 rfl (lv_at hl 0 rfl) ?_
        refine lv_iload hx hb dX7_strongestFleet_16 (lv_at hl 4 rfl) ?_
        obtain ⟨u2, hc, h⟩ := bd_el h
        refine ct_iA (w1 := cw_X7 E q0 S0) X hP hD hS (va_runV (C := RX7) (As := [.int x4]) (rest := []) ⟨hx, hb, hml, hown, hg⟩ (c_X7_hasFleet l E q0 H.size S0 x4 u2 hc) (cwV 1 hg (gwV wm_X7_60 wi_X7_hasFleet wsl_X7_hasFleet wini_X7 wco_X7_hasFleet) rfl rfl rfl (by decide +kernel) ⟨Nat.le_of_ble_eq_true rfl, Nat.le_of_ble_eq_true rfl⟩) ⟨ct_blind, ct_rv X.1 hP 0 rfl rfl, ct_preA X hP hD hS _⟩ rfl rfl hl.1 rfl (lv_room (Nat.le_of_ble_eq_true rfl)) dX7_strongestFleet_18 ⟨Nat.zero_le _, Nat.zero_le _⟩) (fun H locs hP hD hS => ?_)
        refine lv_if_eq (tgt := 46) hx hb dX7_strongestFleet_21 (by decide) (fun c3 => ?_) (fun c3 => ?_)
        · have h := it_t h c3
          obtain ⟨v4, ev4, h⟩ := lt_el h
          refine lv_iinc (v := v4) (lv' := [(4, .int v4), (0, .ref (q0 0)), (1, .int x1), (2, .int x2), (3, .int x3)]) hx hb dX7_strongestFleet_46 hl (k := 4) rfl (by rw [ev4]; rfl) (by decide) rfl (fun ls hl => ?_)
          refine lv_goto (tgt := 8) hx hb dX7_strongestFleet_49 (by decide) ?_
          exact ih x2 x3 v4 _ _ _ h hP hD hS (lv_sub hl [1, 2, 3, 4, 0] rfl)
        · have h := it_f h c3
          refine lv_aload_n hx hb dX7_strongestFleet_24 rfl (lv_at hl 0 rfl) ?_
          refine lv_iload_n hx hb dX7_strongestFleet_25 rfl (lv_at hl 1 rfl) ?_
          refine lv_iload hx hb dX7_strongestFleet_26 (lv_at hl 4 rfl) ?_
          obtain ⟨u5, hc, h⟩ := bd_el h
          refine ct_iA (w1 := cw_X7 E q0 S0) X hP hD hS (va_runV (C := RX7) (As := [.int x1, .int x4]) (rest := []) ⟨hx, hb, hml, hown, hg⟩ (c_X7_felt l E q0 H.size S0 x1 x4 u5 hc) (cwV 2 hg (gwV wm_X7_93 wi_X7_felt wsl_X7_felt wini_X7 wco_X7_felt) rfl rfl rfl (by decide +kernel) ⟨Nat.le_of_ble_eq_true rfl, Nat.le_of_ble_eq_true rfl⟩) ⟨ct_blind, ct_rv X.1 hP 0 rfl rfl, ct_preA X hP hD hS _⟩ rfl rfl hl.1 rfl (lv_room (Nat.le_of_ble_eq_true rfl)) dX7_strongestFleet_28 ⟨Nat.zero_le _, Nat.zero_le _⟩) (fun H locs hP hD hS => ?_)
          refine lv_iload_n hx hb dX7_strongestFleet_31 rfl (lv_at hl 3 rfl) ?_
          refine lv_icmp_le (tgt := 46) hx hb dX7_strongestFleet_32 (by decide) (fun c6 => ?_) (fun c6 => ?_)
          · have h := it_t h c6
            obtain ⟨v7, ev7, h⟩ := lt_el h
            refine lv_iinc (v := v7) (lv' := [(4, .int v7), (0, .ref (q0 0)), (1, .int x1), (2, .int x2), (3, .int x3)]) hx hb dX7_strongestFleet_46 hl (k := 4) rfl (by rw [ev7]; rfl) (by decide) rfl (fun ls hl => ?_)
            refine lv_goto (tgt := 8) hx hb dX7_strongestFleet_49 (by decide) ?_
            exact ih x2 x3 v7 _ _ _ h hP hD hS (lv_sub hl [1, 2, 3, 4, 0] rfl)
          · have h := it_f h c6
            refine lv_aload_n hx hb dX7_strongestFleet_35 rfl (lv_at hl 0 rfl) ?_
            refine lv_iload_n hx hb dX7_strongestFleet_36 rfl (lv_at hl 1 rfl) ?_
            refine lv_iload hx hb dX7_strongestFleet_37 (lv_at hl 4 rfl) ?_
            obtain ⟨u8, hc, h⟩ := bd_el h
            refine ct_iA (w1 := cw_X7 E q0 S0) X hP hD hS (va_runV (C := RX7) (As := [.int x1, .int x4]) (rest := []) ⟨hx, hb, hml, hown, hg⟩ (c_X7_felt l E q0 H.size S0 x1 x4 u8 hc) (cwV 2 hg (gwV wm_X7_93 wi_X7_felt wsl_X7_felt wini_X7 wco_X7_felt) rfl rfl rfl (by decide +kernel) ⟨Nat.le_of_ble_eq_true rfl, Nat.le_of_ble_eq_true rfl⟩) ⟨ct_blind, ct_rv X.1 hP 0 rfl rfl, ct_preA X hP hD hS _⟩ rfl rfl hl.1 rfl (lv_room (Nat.le_of_ble_eq_true rfl)) dX7_strongestFleet_39 ⟨Nat.zero_le _, Nat.zero_le _⟩) (fun H locs hP hD hS => ?_)
            refine lv_istore_n (lv' := [(3, .int u8), (0, .ref (q0 0)), (1, .int x1), (2, .int x2), (4, .int x4)]) hx hb dX7_strongestFleet_42 rfl hl (by decide) rfl (fun ls hl => ?_)
            refine lv_iload hx hb dX7_strongestFleet_43 (lv_at hl 4 rfl) ?_
            refine lv_istore_n (lv' := [(2, .int x4), (3, .int u8), (0, .ref (q0 0)), (1, .int x1), (4, .int x4)]) hx hb dX7_strongestFleet_45 rfl hl (by decide) rfl (fun ls hl => ?_)
            obtain ⟨v9, ev9, h⟩ := lt_el h
            refine lv_iinc (v := v9) (lv' := [(4, .int v9), (2, .int x4), (3, .int u8), (0, .ref (q0 0)), (1, .int x1)]) hx hb dX7_strongestFleet_46 hl (k := 4) rfl (by rw [ev9]; rfl) (by decide) rfl (fun ls hl => ?_)
            refine lv_goto (tgt := 8) hx hb dX7_strongestFleet_49 (by decide) ?_
            exact ih x4 u8 v9 _ _ _ h hP hD hS (lv_sub hl [3, 4, 1, 2, 0] rfl)
  obtain ⟨H, eH⟩ : ∃ z, z = s.heap := ⟨_, rfl⟩
  rw [← eH]
  have hP : va_P E.1 vwCl (cw_X7 E q0 S0) H := by rw [eH]; exact hP
  have hS : va_S A s.heap H [] := by rw [eH]; exact hS
  clear eH
  obtain ⟨locs, el⟩ : ∃ z : List Loc, z = [] := ⟨_, rfl⟩
  rw [← el] at hS ⊢
  clear el
  refine lv_bipush (v := (-2)) hx hb dX7_strongestFleet_0 (by decide) ?_
  refine lv_istore_n (lv' := [(2, .int (-2)), (0, .ref (q0 0)), (1, .int x1)]) hx hb dX7_strongestFleet_2 rfl hl (by decide) rfl (fun ls hl => ?_)
  refine lv_iconst (v := 0) hx hb dX7_strongestFleet_3 (by decide) ?_
  refine lv_istore_n (lv' := [(3, .int 0), (2, .int (-2)), (0, .ref (q0 0)), (1, .int x1)]) hx hb dX7_strongestFleet_4 rfl hl (by decide) rfl (fun ls hl => ?_)
  refine lv_iconst (v := 0) hx hb dX7_strongestFleet_5 (by decide) ?_
  refine lv_istore (lv' := [(4, .int 0), (3, .int 0), (2, .int (-2)), (0, .ref (q0 0)), (1, .int x1)]) hx hb dX7_strongestFleet_6 hl (by decide) rfl (fun ls hl => ?_)
  exact N8 fu (-2) 0 0 _ _ _ h hP hD hS (lv_sub hl [3, 4, 2, 1, 0] rfl)
theorem dX7_placeOfFleet_0 : decode cX7_placeOfFleet 0 = .ok (.aload_n 0, 1) := by decide +kernel
theorem dX7_placeOfFleet_1 : decode cX7_placeOfFleet 1 = .ok (.iload_n 1, 1) := by decide +kernel
theorem dX7_placeOfFleet_2 : decode cX7_placeOfFleet 2 = .ok (.invokevirtual 60, 3) := by decide +kernel
theorem dX7_placeOfFleet_5 : decode cX7_placeOfFleet 5 = .ok (.ifCond .eq 21, 3) := by decide +kernel
theorem dX7_placeOfFleet_8 : decode cX7_placeOfFleet 8 = .ok (.aload_n 0, 1) := by decide +kernel
theorem dX7_placeOfFleet_9 : decode cX7_placeOfFleet 9 = .ok (.getfield 28, 3) := by decide +kernel
theorem dX7_placeOfFleet_12 : decode cX7_placeOfFleet 12 = .ok (.iload_n 1, 1) := by decide +kernel
theorem dX7_placeOfFleet_13 : decode cX7_placeOfFleet 13 = .ok (.iaload, 1) := by decide +kernel
theorem dX7_placeOfFleet_14 : decode cX7_placeOfFleet 14 = .ok (.aload_n 0, 1) := by decide +kernel
theorem dX7_placeOfFleet_15 : decode cX7_placeOfFleet 15 = .ok (.getfield 31, 3) := by decide +kernel
theorem dX7_placeOfFleet_18 : decode cX7_placeOfFleet 18 = .ok (.iload_n 1, 1) := by decide +kernel
theorem dX7_placeOfFleet_19 : decode cX7_placeOfFleet 19 = .ok (.iaload, 1) := by decide +kernel
theorem dX7_placeOfFleet_20 : decode cX7_placeOfFleet 20 = .ok (.invokestatic 63, 3) := by decide +kernel
theorem dX7_placeOfFleet_23 : decode cX7_placeOfFleet 23 = .ok (.goto 4, 3) := by decide +kernel
theorem dX7_placeOfFleet_26 : decode cX7_placeOfFleet 26 = .ok (.iconst (-1), 1) := by decide +kernel
theorem dX7_placeOfFleet_27 : decode cX7_placeOfFleet 27 = .ok (.ireturn, 1) := by decide +kernel
def f_X7_placeOfFleet (S0 : Gr) (x1 : Int32) : Option (Int32) := (f_X7_hasFleet S0 x1).bind fun u1 => if u1 = 0 then (some (-1)) else (rd' (S0.2 5) 8 x1 fun v3 => rd' (S0.2 6) 8 x1 fun v4 => (f_X1_place v3 v4).bind fun u5 => some u5)
set_option maxHeartbeats 4000000 in
set_option maxRecDepth 100000 in
theorem c_X7_placeOfFleet (l : Launch) (E : Ec) (q0 : Nat → Nat) (sz : Nat) (S0 : Gr) (x1 : Int32) (Rv : Int32) (h : f_X7_placeOfFleet S0 x1 = some Rv) : Met l yX7_placeOfFleet (wsM (.code yX7_placeOfFleet cX7_placeOfFleet 2 (some .int))) ({ frames := 1, cells := 0, slots := 0, locals := 21 } : Room) (va_Pc [.ref (q0 0), .int x1] (ctP E (cw_X7 E q0 S0) sz)) (ctI E (cw_X7 E q0 S0) (cw_X7 E q0 S0) sz Rv) 0 0 (va_A (cw_X7 E q0 S0) sz) := by
  refine ct_metI (by decide) (Nat.le_of_ble_eq_true rfl) ?_
  intro p e s m ar below meth c A QM hx hb hml hown hg X hP hD hS RET ls hl
  have hown : s.vm.findClass RX7 = some m.cls := hown
  have hl : lv_has ls 2 [(0, .ref (q0 0)), (1, .int x1)] := hl
  have RT : ∀ (v : Int32) (H : Heap) (locs : List Loc) (ls : Array Slot) (pc : Nat), some v = some Rv → narrow .int (.int v) = .int v → va_P E.1 vwCl (cw_X7 E q0 S0) H → va_D A (cw_X7 E q0 S0) → va_S A s.heap H locs → decode cX7_placeOfFleet pc = .ok (.ireturn, 1) → W p l e ({ frames := 1, cells := 0, slots := 0, locals := 21 } : Room) s m ar below meth c H locs 0 0 QM (F0 m pc ls [.int v]) := by
    intro v H locs ls pc e hn hP hD hS d
    obtain rfl := sm_e e
    exact RET H locs pc ls hn hP hD hS d
  clear RET
  obtain ⟨H, eH⟩ : ∃ z, z = s.heap := ⟨_, rfl⟩
  rw [← eH]
  have hP : va_P E.1 vwCl (cw_X7 E q0 S0) H := by rw [eH]; exact hP
  have hS : va_S A s.heap H [] := by rw [eH]; exact hS
  clear eH
  obtain ⟨locs, el⟩ : ∃ z : List Loc, z = [] := ⟨_, rfl⟩
  rw [← el] at hS ⊢
  clear el
  refine lv_aload_n hx hb dX7_placeOfFleet_0 rfl (lv_at hl 0 rfl) ?_
  refine lv_iload_n hx hb dX7_placeOfFleet_1 rfl (lv_at hl 1 rfl) ?_
  obtain ⟨u1, hc, h⟩ := bd_el h
  refine ct_iA (w1 := cw_X7 E q0 S0) X hP hD hS (va_runV (C := RX7) (As := [.int x1]) (rest := []) ⟨hx, hb, hml, hown, hg⟩ (c_X7_hasFleet l E q0 H.size S0 x1 u1 hc) (cwV 1 hg (gwV wm_X7_60 wi_X7_hasFleet wsl_X7_hasFleet wini_X7 wco_X7_hasFleet) rfl rfl rfl (by decide +kernel) ⟨Nat.le_of_ble_eq_true rfl, Nat.le_of_ble_eq_true rfl⟩) ⟨ct_blind, ct_rv X.1 hP 0 rfl rfl, ct_preA X hP hD hS _⟩ rfl rfl hl.1 rfl (lv_room (Nat.le_of_ble_eq_true rfl)) dX7_placeOfFleet_2 ⟨Nat.zero_le _, Nat.zero_le _⟩) (fun H locs hP hD hS => ?_)
  refine lv_if_eq (tgt := 26) hx hb dX7_placeOfFleet_5 (by decide) (fun c2 => ?_) (fun c2 => ?_)
  · have h := it_t h c2
    refine lv_iconst (v := (-1)) hx hb dX7_placeOfFleet_26 (by decide) ?_
    exact RT (-1) _ _ _ _ h rfl hP hD hS dX7_placeOfFleet_27
  · have h := it_f h c2
    refine lv_aload_n hx hb dX7_placeOfFleet_8 rfl (lv_at hl 0 rfl) ?_
    refine va_get (D := E.1) (ci := 6) (v := .ref (q0 4)) (C := RX7) (T := TX7) (N := 11) hx hb hg in_X7 hown X.1 hP 0 rfl rfl 5 (by decide) (hg _ wf_X7_28) (fun _ h9 => h9) rfl dX7_placeOfFleet_9 ?_
    refine lv_iload_n hx hb dX7_placeOfFleet_12 rfl (lv_at hl 1 rfl) ?_
    obtain ⟨hi, v3, ev3, h⟩ := rd_el h
    refine va_iald hx hb X.1 hP 4 0 rfl rfl hi dX7_placeOfFleet_13 ?_
    refine lv_top' ev3 ?_
    refine lv_aload_n hx hb dX7_placeOfFleet_14 rfl (lv_at hl 0 rfl) ?_
    refine va_get (D := E.1) (ci := 6) (v := .ref (q0 5)) (C := RX7) (T := TX7) (N := 11) hx hb hg in_X7 hown X.1 hP 0 rfl rfl 6 (by decide) (hg _ wf_X7_31) (fun _ h9 => h9) rfl dX7_placeOfFleet_15 ?_
    refine lv_iload_n hx hb dX7_placeOfFleet_18 rfl (lv_at hl 1 rfl) ?_
    obtain ⟨hi, v4, ev4, h⟩ := rd_el h
    refine va_iald hx hb X.1 hP 5 0 rfl rfl hi dX7_placeOfFleet_19 ?_
    refine lv_top' ev4 ?_
    obtain ⟨u5, hc, h⟩ := bd_el h
    refine ct_iN X hP hD hS (va_runS (As := [.int v3, .int v4]) (rest := []) ⟨hx, hb, hml, hown, hg⟩ (c_X1_place l E  H.size v3 v4 u5 hc) (va_cwS 2 hg (gwS wm_X7_63 wst_X1_place wini_X1 wco_X1_place) rfl rfl rfl (by decide +kernel) ⟨Nat.le_of_ble_eq_true rfl, Nat.le_of_ble_eq_true rfl⟩) ⟨ct_blind, ct_preN X hS _⟩ rfl rfl hl.1 rfl (lv_room (Nat.le_of_ble_eq_true rfl)) dX7_placeOfFleet_20 ⟨Nat.zero_le _, Nat.zero_le _⟩) (fun H locs hP hD hS => ?_)
    refine lv_goto (tgt := 27) hx hb dX7_placeOfFleet_23 (by decide) ?_
    exact RT u5 _ _ _ _ h rfl hP hD hS dX7_placeOfFleet_27
theorem dX7_toldCourse_0 : decode cX7_toldCourse 0 = .ok (.aload_n 0, 1) := by decide +kernel
theorem dX7_toldCourse_1 : decode cX7_toldCourse 1 = .ok (.iload_n 1, 1) := by decide +kernel
theorem dX7_toldCourse_2 : decode cX7_toldCourse 2 = .ok (.invokevirtual 60, 3) := by decide +kernel
theorem dX7_toldCourse_5 : decode cX7_toldCourse 5 = .ok (.ifCond .ne 5, 3) := by decide +kernel
theorem dX7_toldCourse_8 : decode cX7_toldCourse 8 = .ok (.iconst (-1), 1) := by decide +kernel
theorem dX7_toldCourse_9 : decode cX7_toldCourse 9 = .ok (.ireturn, 1) := by decide +kernel
theorem dX7_toldCourse_10 : decode cX7_toldCourse 10 = .ok (.aload_n 0, 1) := by decide +kernel
theorem dX7_toldCourse_11 : decode cX7_toldCourse 11 = .ok (.getfield 37, 3) := by decide +kernel
theorem dX7_toldCourse_14 : decode cX7_toldCourse 14 = .ok (.iload_n 1, 1) := by decide +kernel
theorem dX7_toldCourse_15 : decode cX7_toldCourse 15 = .ok (.iaload, 1) := by decide +kernel
theorem dX7_toldCourse_16 : decode cX7_toldCourse 16 = .ok (.bipush 8, 2) := by decide +kernel
theorem dX7_toldCourse_18 : decode cX7_toldCourse 18 = .ok (.if_icmp .ne 8, 3) := by decide +kernel
theorem dX7_toldCourse_21 : decode cX7_toldCourse 21 = .ok (.bipush (-2), 2) := by decide +kernel
theorem dX7_toldCourse_23 : decode cX7_toldCourse 23 = .ok (.goto 9, 3) := by decide +kernel
theorem dX7_toldCourse_26 : decode cX7_toldCourse 26 = .ok (.aload_n 0, 1) := by decide +kernel
theorem dX7_toldCourse_27 : decode cX7_toldCourse 27 = .ok (.getfield 37, 3) := by decide +kernel
theorem dX7_toldCourse_30 : decode cX7_toldCourse 30 = .ok (.iload_n 1, 1) := by decide +kernel
theorem dX7_toldCourse_31 : decode cX7_toldCourse 31 = .ok (.iaload, 1) := by decide +kernel
theorem dX7_toldCourse_32 : decode cX7_toldCourse 32 = .ok (.ireturn, 1) := by decide +kernel
def f_X7_toldCourse (S0 : Gr) (x1 : Int32) : Option (Int32) := (f_X7_hasFleet S0 x1).bind fun u1 => if u1 = 0 then (some (-1)) else (rd' (S0.2 8) 8 x1 fun v3 => if v3 = 8 then (some (-2)) else (rd' (S0.2 8) 8 x1 fun v5 => some v5))
set_option maxHeartbeats 4000000 in
set_option maxRecDepth 100000 in
theorem c_X7_toldCourse (l : Launch) (E : Ec) (q0 : Nat → Nat) (sz : Nat) (S0 : Gr) (x1 : Int32) (Rv : Int32) (h : f_X7_toldCourse S0 x1 = some Rv) : Met l yX7_toldCourse (wsM (.code yX7_toldCourse cX7_toldCourse 2 (some .int))) ({ frames := 1, cells := 0, slots := 0, locals := 21 } : Room) (va_Pc [.ref (q0 0), .int x1] (ctP E (cw_X7 E q0 S0) sz)) (ctI E (cw_X7 E q0 S0) (cw_X7 E q0 S0) sz Rv) 0 0 (va_A (cw_X7 E q0 S0) sz) := by
  refine ct_metI (by decide) (Nat.le_of_ble_eq_true rfl) ?_
  intro p e s m ar below meth c A QM hx hb hml hown hg X hP hD hS RET ls hl
  have hown : s.vm.findClass RX7 = some m.cls := hown
  have hl : lv_has ls 2 [(0, .ref (q0 0)), (1, .int x1)] := hl
  have RT : ∀ (v : Int32) (H : Heap) (locs : List Loc) (ls : Array Slot) (pc : Nat), some v = some Rv → narrow .int (.int v) = .int v → va_P E.1 vwCl (cw_X7 E q0 S0) H → va_D A (cw_X7 E q0 S0) → va_S A s.heap H locs → decode cX7_toldCourse pc = .ok (.ireturn, 1) → W p l e ({ frames := 1, cells := 0, slots := 0, locals := 21 } : Room) s m ar below meth c H locs 0 0 QM (F0 m pc ls [.int v]) := by
    intro v H locs ls pc e hn hP hD hS d
    obtain rfl := sm_e e
    exact RET H locs pc ls hn hP hD hS d
  clear RET
  obtain ⟨H, eH⟩ : ∃ z, z = s.heap := ⟨_, rfl⟩
  rw [← eH]
  have hP : va_P E.1 vwCl (cw_X7 E q0 S0) H := by rw [eH]; exact hP
  have hS : va_S A s.heap H [] := by rw [eH]; exact hS
  clear eH
  obtain ⟨locs, el⟩ : ∃ z : List Loc, z = [] := ⟨_, rfl⟩
  rw [← el] at hS ⊢
  clear el
  refine lv_aload_n hx hb dX7_toldCourse_0 rfl (lv_at hl 0 rfl) ?_
  refine lv_iload_n hx hb dX7_toldCourse_1 rfl (lv_at hl 1 rfl) ?_
  obtain ⟨u1, hc, h⟩ := bd_el h
  refine ct_iA (w1 := cw_X7 E q0 S0) X hP hD hS (va_runV (C := RX7) (As := [.int x1]) (rest := []) ⟨hx, hb, hml, hown, hg⟩ (c_X7_hasFleet l E q0 H.size S0 x1 u1 hc) (cwV 1 hg (gwV wm_X7_60 wi_X7_hasFleet wsl_X7_hasFleet wini_X7 wco_X7_hasFleet) rfl rfl rfl (by decide +kernel) ⟨Nat.le_of_ble_eq_true rfl, Nat.le_of_ble_eq_true rfl⟩) ⟨ct_blind, ct_rv X.1 hP 0 rfl rfl, ct_preA X hP hD hS _⟩ rfl rfl hl.1 rfl (lv_room (Nat.le_of_ble_eq_true rfl)) dX7_toldCourse_2 ⟨Nat.zero_le _, Nat.zero_le _⟩) (fun H locs hP hD hS => ?_)
  refine lv_if_ne (tgt := 10) hx hb dX7_toldCourse_5 (by decide) (fun c2 => ?_) (fun c2 => ?_)
  · have h := it_f h c2
    refine lv_aload_n hx hb dX7_toldCourse_10 rfl (lv_at hl 0 rfl) ?_
    refine va_get (D := E.1) (ci := 6) (v := .ref (q0 7)) (C := RX7) (T := TX7) (N := 11) hx hb hg in_X7 hown X.1 hP 0 rfl rfl 8 (by decide) (hg _ wf_X7_37) (fun _ h9 => h9) rfl dX7_toldCourse_11 ?_
    refine lv_iload_n hx hb dX7_toldCourse_14 rfl (lv_at hl 1 rfl) ?_
    obtain ⟨hi, v3, ev3, h⟩ := rd_el h
    refine va_iald hx hb X.1 hP 7 0 rfl rfl hi dX7_toldCourse_15 ?_
    refine lv_top' ev3 ?_
    refine lv_bipush (v := 8) hx hb dX7_toldCourse_16 (by decide) ?_
    refine lv_icmp_ne (tgt := 26) hx hb dX7_toldCourse_18 (by decide) (fun c4 => ?_) (fun c4 => ?_)
    · have h := it_f h c4
      refine lv_aload_n hx hb dX7_toldCourse_26 rfl (lv_at hl 0 rfl) ?_
      refine va_get (D := E.1) (ci := 6) (v := .ref (q0 7)) (C := RX7) (T := TX7) (N := 11) hx hb hg in_X7 hown X.1 hP 0 rfl rfl 8 (by decide) (hg _ wf_X7_37) (fun _ h9 => h9) rfl dX7_toldCourse_27 ?_
      refine lv_iload_n hx hb dX7_toldCourse_30 rfl (lv_at hl 1 rfl) ?_
      obtain ⟨hi, v5, ev5, h⟩ := rd_el h
      refine va_iald hx hb X.1 hP 7 0 rfl rfl hi dX7_toldCourse_31 ?_
      refine lv_top' ev5 ?_
      exact RT v5 _ _ _ _ h rfl hP hD hS dX7_toldCourse_32
    · have h := it_t h c4
      refine lv_bipush (v := (-2)) hx hb dX7_toldCourse_21 (by decide) ?_
      refine lv_goto (tgt := 32) hx hb dX7_toldCourse_23 (by decide) ?_
      exact RT (-2) _ _ _ _ h rfl hP hD hS dX7_toldCourse_32
  · have h := it_t h c2
    refine lv_iconst (v := (-1)) hx hb dX7_toldCourse_8 (by decide) ?_
    exact RT (-1) _ _ _ _ h rfl hP hD hS dX7_toldCourse_9
theorem dX7_moveFleet_0 : decode cX7_moveFleet 0 = .ok (.aload_n 0, 1) := by decide +kernel
theorem dX7_moveFleet_1 : decode cX7_moveFleet 1 = .ok (.iload_n 1, 1) := by decide +kernel
theorem dX7_moveFleet_2 : decode cX7_moveFleet 2 = .ok (.invokevirtual 60, 3) := by decide +kernel
theorem dX7_moveFleet_5 : decode cX7_moveFleet 5 = .ok (.ifCond .eq 14, 3) := by decide +kernel
theorem dX7_moveFleet_8 : decode cX7_moveFleet 8 = .ok (.aload_n 0, 1) := by decide +kernel
theorem dX7_moveFleet_9 : decode cX7_moveFleet 9 = .ok (.getfield 37, 3) := by decide +kernel
theorem dX7_moveFleet_12 : decode cX7_moveFleet 12 = .ok (.iload_n 1, 1) := by decide +kernel
theorem dX7_moveFleet_13 : decode cX7_moveFleet 13 = .ok (.iaload, 1) := by decide +kernel
theorem dX7_moveFleet_14 : decode cX7_moveFleet 14 = .ok (.bipush 8, 2) := by decide +kernel
theorem dX7_moveFleet_16 : decode cX7_moveFleet 16 = .ok (.if_icmp .ne 4, 3) := by decide +kernel
theorem dX7_moveFleet_19 : decode cX7_moveFleet 19 = .ok (.return_, 1) := by decide +kernel
theorem dX7_moveFleet_20 : decode cX7_moveFleet 20 = .ok (.aload_n 0, 1) := by decide +kernel
theorem dX7_moveFleet_21 : decode cX7_moveFleet 21 = .ok (.getfield 28, 3) := by decide +kernel
theorem dX7_moveFleet_24 : decode cX7_moveFleet 24 = .ok (.iload_n 1, 1) := by decide +kernel
theorem dX7_moveFleet_25 : decode cX7_moveFleet 25 = .ok (.iaload, 1) := by decide +kernel
theorem dX7_moveFleet_26 : decode cX7_moveFleet 26 = .ok (.aload_n 0, 1) := by decide +kernel
theorem dX7_moveFleet_27 : decode cX7_moveFleet 27 = .ok (.getfield 37, 3) := by decide +kernel
theorem dX7_moveFleet_30 : decode cX7_moveFleet 30 = .ok (.iload_n 1, 1) := by decide +kernel
theorem dX7_moveFleet_31 : decode cX7_moveFleet 31 = .ok (.iaload, 1) := by decide +kernel
theorem dX7_moveFleet_32 : decode cX7_moveFleet 32 = .ok (.invokestatic 104, 3) := by decide +kernel
theorem dX7_moveFleet_35 : decode cX7_moveFleet 35 = .ok (.iadd, 1) := by decide +kernel
theorem dX7_moveFleet_36 : decode cX7_moveFleet 36 = .ok (.istore_n 2, 1) := by decide +kernel
theorem dX7_moveFleet_37 : decode cX7_moveFleet 37 = .ok (.aload_n 0, 1) := by decide +kernel
theorem dX7_moveFleet_38 : decode cX7_moveFleet 38 = .ok (.getfield 31, 3) := by decide +kernel
theorem dX7_moveFleet_41 : decode cX7_moveFleet 41 = .ok (.iload_n 1, 1) := by decide +kernel
theorem dX7_moveFleet_42 : decode cX7_moveFleet 42 = .ok (.iaload, 1) := by decide +kernel
theorem dX7_moveFleet_43 : decode cX7_moveFleet 43 = .ok (.aload_n 0, 1) := by decide +kernel
theorem dX7_moveFleet_44 : decode cX7_moveFleet 44 = .ok (.getfield 37, 3) := by decide +kernel
theorem dX7_moveFleet_47 : decode cX7_moveFleet 47 = .ok (.iload_n 1, 1) := by decide +kernel
theorem dX7_moveFleet_48 : decode cX7_moveFleet 48 = .ok (.iaload, 1) := by decide +kernel
theorem dX7_moveFleet_49 : decode cX7_moveFleet 49 = .ok (.invokestatic 107, 3) := by decide +kernel
theorem dX7_moveFleet_52 : decode cX7_moveFleet 52 = .ok (.iadd, 1) := by decide +kernel
theorem dX7_moveFleet_53 : decode cX7_moveFleet 53 = .ok (.istore_n 3, 1) := by decide +kernel
theorem dX7_moveFleet_54 : decode cX7_moveFleet 54 = .ok (.iload_n 2, 1) := by decide +kernel
theorem dX7_moveFleet_55 : decode cX7_moveFleet 55 = .ok (.iload_n 3, 1) := by decide +kernel
theorem dX7_moveFleet_56 : decode cX7_moveFleet 56 = .ok (.invokestatic 110, 3) := by decide +kernel
theorem dX7_moveFleet_59 : decode cX7_moveFleet 59 = .ok (.ifCond .eq 20, 3) := by decide +kernel
theorem dX7_moveFleet_62 : decode cX7_moveFleet 62 = .ok (.aload_n 0, 1) := by decide +kernel
theorem dX7_moveFleet_63 : decode cX7_moveFleet 63 = .ok (.getfield 28, 3) := by decide +kernel
theorem dX7_moveFleet_66 : decode cX7_moveFleet 66 = .ok (.iload_n 1, 1) := by decide +kernel
theorem dX7_moveFleet_67 : decode cX7_moveFleet 67 = .ok (.iload_n 2, 1) := by decide +kernel
theorem dX7_moveFleet_68 : decode cX7_moveFleet 68 = .ok (.iastore, 1) := by decide +kernel
theorem dX7_moveFleet_69 : decode cX7_moveFleet 69 = .ok (.aload_n 0, 1) := by decide +kernel
theorem dX7_moveFleet_70 : decode cX7_moveFleet 70 = .ok (.getfield 31, 3) := by decide +kernel
theorem dX7_moveFleet_73 : decode cX7_moveFleet 73 = .ok (.iload_n 1, 1) := by decide +kernel
theorem dX7_moveFleet_74 : decode cX7_moveFleet 74 = .ok (.iload_n 3, 1) := by decide +kernel
theorem dX7_moveFleet_75 : decode cX7_moveFleet 75 = .ok (.iastore, 1) := by decide +kernel
theorem dX7_moveFleet_76 : decode cX7_moveFleet 76 = .ok (.goto 20, 3) := by decide +kernel
theorem dX7_moveFleet_79 : decode cX7_moveFleet 79 = .ok (.aload_n 0, 1) := by decide +kernel
theorem dX7_moveFleet_80 : decode cX7_moveFleet 80 = .ok (.getfield 37, 3) := by decide +kernel
theorem dX7_moveFleet_83 : decode cX7_moveFleet 83 = .ok (.iload_n 1, 1) := by decide +kernel
theorem dX7_moveFleet_84 : decode cX7_moveFleet 84 = .ok (.aload_n 0, 1) := by decide +kernel
theorem dX7_moveFleet_85 : decode cX7_moveFleet 85 = .ok (.getfield 37, 3) := by decide +kernel
theorem dX7_moveFleet_88 : decode cX7_moveFleet 88 = .ok (.iload_n 1, 1) := by decide +kernel
theorem dX7_moveFleet_89 : decode cX7_moveFleet 89 = .ok (.iaload, 1) := by decide +kernel
theorem dX7_moveFleet_90 : decode cX7_moveFleet 90 = .ok (.iconst 4, 1) := by decide +kernel
theorem dX7_moveFleet_91 : decode cX7_moveFleet 91 = .ok (.iadd, 1) := by decide +kernel
theorem dX7_moveFleet_92 : decode cX7_moveFleet 92 = .ok (.bipush 8, 2) := by decide +kernel
theorem dX7_moveFleet_94 : decode cX7_moveFleet 94 = .ok (.irem, 1) := by decide +kernel
theorem dX7_moveFleet_95 : decode cX7_moveFleet 95 = .ok (.iastore, 1) := by decide +kernel
theorem dX7_moveFleet_96 : decode cX7_moveFleet 96 = .ok (.return_, 1) := by decide +kernel
def f_X7_moveFleet (S0 : Gr) (x1 : Int32) : Option (Gr) := (f_X7_hasFleet S0 x1).bind fun u1 => if u1 = 0 then (some S0) else (rd' (S0.2 8) 8 x1 fun v3 => if v3 = 8 then (some S0) else (rd' (S0.2 5) 8 x1 fun v5 => rd' (S0.2 8) 8 x1 fun v6 => (f_X1_stepAcross v6).bind fun u7 => lt' ((v5 + u7)) fun v8 => rd' (S0.2 6) 8 x1 fun v9 => rd' (S0.2 8) 8 x1 fun v10 => (f_X1_stepAlong v10).bind fun u11 => lt' ((v9 + u11)) fun v12 => (f_X1_onChart v8 v12).bind fun u13 => if u13 = 0 then (rd' (S0.2 8) 8 x1 fun v15 => lt' ((v15 + 4) - (v15 + 4) / 8 * 8) fun v16 => ck' 8 x1 (lt' (sA S0 8 (Int32.toNatClampNeg x1) v16) fun S0_17 => some S0_17)) else (ck' 8 x1 (lt' (sA S0 5 (Int32.toNatClampNeg x1) v8) fun S0_18 => ck' 8 x1 (lt' (sA S0_18 6 (Int32.toNatClampNeg x1) v12) fun S0_19 => some S0_19)))))
set_option maxHeartbeats 4000000 in
set_option maxRecDepth 100000 in
theorem c_X7_moveFleet (l : Launch) (E : Ec) (q0 : Nat → Nat) (sz : Nat) (S0 : Gr) (x1 : Int32) (Rv : Gr) (h : f_X7_moveFleet S0 x1 = some Rv) : Met l yX7_moveFleet (wsM (.code yX7_moveFleet cX7_moveFleet 4 none)) ({ frames := 2, cells := 0, slots := 0, locals := 43 } : Room) (va_Pc [.ref (q0 0), .int x1] (ctP E (cw_X7 E q0 S0) sz)) (ctV E (cw_X7 E q0 S0) (cw_X7 E q0 Rv) sz) 0 0 (va_A (cw_X7 E q0 S0) sz) := by
  refine ct_metV (by decide) (Nat.le_of_ble_eq_true rfl) ?_
  intro p e s m ar below meth c A QM hx hb hml hown hg X hP hD hS RET ls hl
  have hown : s.vm.findClass RX7 = some m.cls := hown
  have hl : lv_has ls 4 [(0, .ref (q0 0)), (1, .int x1)] := hl
  have RT : ∀ (S0 : Gr) (H : Heap) (locs : List Loc) (ls : Array Slot) (pc : Nat), some S0 = some Rv → va_P E.1 vwCl (cw_X7 E q0 S0) H → va_D A (cw_X7 E q0 S0) → va_S A s.heap H locs → decode cX7_moveFleet pc = .ok (.return_, 1) → W p l e ({ frames := 2, cells := 0, slots := 0, locals := 43 } : Room) s m ar below meth c H locs 0 0 QM (F0 m pc ls []) := by
    intro S0 H locs ls pc e hP hD hS d
    obtain rfl := sm_e e
    exact RET H locs pc ls hP hD hS d
  clear RET
  obtain ⟨H, eH⟩ : ∃ z, z = s.heap := ⟨_, rfl⟩
  rw [← eH]
  have hP : va_P E.1 vwCl (cw_X7 E q0 S0) H := by rw [eH]; exact hP
  have hS : va_S A s.heap H [] := by rw [eH]; exact hS
  clear eH
  obtain ⟨locs, el⟩ : ∃ z : List Loc, z = [] := ⟨_, rfl⟩
  rw [← el] at hS ⊢
  clear el
  refine lv_aload_n hx hb dX7_moveFleet_0 rfl (lv_at hl 0 rfl) ?_
  refine lv_iload_n hx hb dX7_moveFleet_1 rfl (lv_at hl 1 rfl) ?_
  obtain ⟨u1, hc, h⟩ := bd_el h
  refine ct_iA (w1 := cw_X7 E q0 S0) X hP hD hS (va_runV (C := RX7) (As := [.int x1]) (rest := []) ⟨hx, hb, hml, hown, hg⟩ (c_X7_hasFleet l E q0 H.size S0 x1 u1 hc) (cwV 1 hg (gwV wm_X7_60 wi_X7_hasFleet wsl_X7_hasFleet wini_X7 wco_X7_hasFleet) rfl rfl rfl (by decide +kernel) ⟨Nat.le_of_ble_eq_true rfl, Nat.le_of_ble_eq_true rfl⟩) ⟨ct_blind, ct_rv X.1 hP 0 rfl rfl, ct_preA X hP hD hS _⟩ rfl rfl hl.1 rfl (lv_room (Nat.le_of_ble_eq_true rfl)) dX7_moveFleet_2 ⟨Nat.zero_le _, Nat.zero_le _⟩) (fun H locs hP hD hS => ?_)
  refine lv_if_eq (tgt := 19) hx hb dX7_moveFleet_5 (by decide) (fun c2 => ?_) (fun c2 => ?_)
  · have h := it_t h c2
    exact RT S0 _ _ _ _ h hP hD hS dX7_moveFleet_19
  · have h := it_f h c2
    refine lv_aload_n hx hb dX7_moveFleet_8 rfl (lv_at hl 0 rfl) ?_
    refine va_get (D := E.1) (ci := 6) (v := .ref (q0 7)) (C := RX7) (T := TX7) (N := 11) hx hb hg in_X7 hown X.1 hP 0 rfl rfl 8 (by decide) (hg _ wf_X7_37) (fun _ h9 => h9) rfl dX7_moveFleet_9 ?_
    refine lv_iload_n hx hb dX7_moveFleet_12 rfl (lv_at hl 1 rfl) ?_
    obtain ⟨hi, v3, ev3, h⟩ := rd_el h
    refine va_iald hx hb X.1 hP 7 0 rfl rfl hi dX7_moveFleet_13 ?_
    refine lv_top' ev3 ?_
    refine lv_bipush (v := 8) hx hb dX7_moveFleet_14 (by decide) ?_
    refine lv_icmp_ne (tgt := 20) hx hb dX7_moveFleet_16 (by decide) (fun c4 => ?_) (fun c4 => ?_)
    · have h := it_f h c4
      refine lv_aload_n hx hb dX7_moveFleet_20 rfl (lv_at hl 0 rfl) ?_
      refine va_get (D := E.1) (ci := 6) (v := .ref (q0 4)) (C := RX7) (T := TX7) (N := 11) hx hb hg in_X7 hown X.1 hP 0 rfl rfl 5 (by decide) (hg _ wf_X7_28) (fun _ h9 => h9) rfl dX7_moveFleet_21 ?_
      refine lv_iload_n hx hb dX7_moveFleet_24 rfl (lv_at hl 1 rfl) ?_
      obtain ⟨hi, v5, ev5, h⟩ := rd_el h
      refine va_iald hx hb X.1 hP 4 0 rfl rfl hi dX7_moveFleet_25 ?_
      refine lv_top' ev5 ?_
      refine lv_aload_n hx hb dX7_moveFleet_26 rfl (lv_at hl 0 rfl) ?_
      refine va_get (D := E.1) (ci := 6) (v := .ref (q0 7)) (C := RX7) (T := TX7) (N := 11) hx hb hg in_X7 hown X.1 hP 0 rfl rfl 8 (by decide) (hg _ wf_X7_37) (fun _ h9 => h9) rfl dX7_moveFleet_27 ?_
      refine lv_iload_n hx hb dX7_moveFleet_30 rfl (lv_at hl 1 rfl) ?_
      obtain ⟨hi, v6, ev6, h⟩ := rd_el h
      refine va_iald hx hb X.1 hP 7 0 rfl rfl hi dX7_moveFleet_31 ?_
      refine lv_top' ev6 ?_
      obtain ⟨u7, hc, h⟩ := bd_el h
      refine ct_iN X hP hD hS (va_runS (As := [.int v6]) (rest := [.int v5]) ⟨hx, hb, hml, hown, hg⟩ (c_X1_stepAcross l E  H.size v6 u7 hc) (va_cwS 1 hg (gwS wm_X7_104 wst_X1_stepAcross wini_X1 wco_X1_stepAcross) rfl rfl rfl (by decide +kernel) ⟨Nat.le_of_ble_eq_true rfl, Nat.le_of_ble_eq_true rfl⟩) ⟨ct_blind, ct_preN X hS _⟩ rfl rfl hl.1 rfl (lv_room (Nat.le_of_ble_eq_true rfl)) dX7_moveFleet_32 ⟨Nat.zero_le _, Nat.zero_le _⟩) (fun H locs hP hD hS => ?_)
      refine lv_iadd hx hb dX7_moveFleet_35 ?_
      obtain ⟨v8, ev8, h⟩ := lt_el h
      refine lv_top' ev8 ?_
      refine lv_istore_n (lv' := [(2, .int v8), (0, .ref (q0 0)), (1, .int x1)]) hx hb dX7_moveFleet_36 rfl hl (by decide) rfl (fun ls hl => ?_)
      refine lv_aload_n hx hb dX7_moveFleet_37 rfl (lv_at hl 1 rfl) ?_
      refine va_get (D := E.1) (ci := 6) (v := .ref (q0 5)) (C := RX7) (T := TX7) (N := 11) hx hb hg in_X7 hown X.1 hP 0 rfl rfl 6 (by decide) (hg _ wf_X7_31) (fun _ h9 => h9) rfl dX7_moveFleet_38 ?_
      refine lv_iload_n hx hb dX7_moveFleet_41 rfl (lv_at hl 2 rfl) ?_
      obtain ⟨hi, v9, ev9, h⟩ := rd_el h
      refine va_iald hx hb X.1 hP 5 0 rfl rfl hi dX7_moveFleet_42 ?_
      refine lv_top' ev9 ?_
      refine lv_aload_n hx hb dX7_moveFleet_43 rfl (lv_at hl 1 rfl) ?_
      refine va_get (D := E.1) (ci := 6) (v := .ref (q0 7)) (C := RX7) (T := TX7) (N := 11) hx hb hg in_X7 hown X.1 hP 0 rfl rfl 8 (by decide) (hg _ wf_X7_37) (fun _ h9 => h9) rfl dX7_moveFleet_44 ?_
      refine lv_iload_n hx hb dX7_moveFleet_47 rfl (lv_at hl 2 rfl) ?_
      obtain ⟨hi, v10, ev10, h⟩ := rd_el h
      refine va_iald hx hb X.1 hP 7 0 rfl rfl hi dX7_moveFleet_48 ?_
      refine lv_top' ev10 ?_
      obtain ⟨u11, hc, h⟩ := bd_el h
      refine ct_iN X hP hD hS (va_runS (As := [.int v10]) (rest := [.int v9]) ⟨hx, hb, hml, hown, hg⟩ (c_X1_stepAlong l E  H.size v10 u11 hc) (va_cwS 1 hg (gwS wm_X7_107 wst_X1_stepAlong wini_X1 wco_X1_stepAlong) rfl rfl rfl (by decide +kernel) ⟨Nat.le_of_ble_eq_true rfl, Nat.le_of_ble_eq_true rfl⟩) ⟨ct_blind, ct_preN X hS _⟩ rfl rfl hl.1 rfl (lv_room (Nat.le_of_ble_eq_true rfl)) dX7_moveFleet_49 ⟨Nat.zero_le _, Nat.zero_le _⟩) (fun H locs hP hD hS => ?_)
      refine lv_iadd hx hb dX7_moveFleet_52 ?_
      obtain ⟨v12, ev12, h⟩ := lt_el h
      refine lv_top' ev12 ?_
      refine lv_istore_n (lv' := [(3, .int v12), (2, .int v8), (0, .ref (q0 0)), (1, .int x1)]) hx hb dX7_moveFleet_53 rfl hl (by decide) rfl (fun ls hl => ?_)
      refine lv_iload_n hx hb dX7_moveFleet_54 rfl (lv_at hl 1 rfl) ?_
      refine lv_iload_n hx hb dX7_moveFleet_55 rfl (lv_at hl 0 rfl) ?_
      obtain ⟨u13, hc, h⟩ := bd_el h
      refine ct_iN X hP hD hS (va_runS (As := [.int v8, .int v12]) (rest := []) ⟨hx, hb, hml, hown, hg⟩ (c_X1_onChart l E  H.size v8 v12 u13 hc) (va_cwS 2 hg (gwS wm_X7_110 wst_X1_onChart wini_X1 wco_X1_onChart) rfl rfl rfl (by decide +kernel) ⟨Nat.le_of_ble_eq_true rfl, Nat.le_of_ble_eq_true rfl⟩) ⟨ct_blind, ct_preN X hS _⟩ rfl rfl hl.1 rfl (lv_room (Nat.le_of_ble_eq_true rfl)) dX7_moveFleet_56 ⟨Nat.zero_le _, Nat.zero_le _⟩) (fun H locs hP hD hS => ?_)
      refine lv_if_eq (tgt := 79) hx hb dX7_moveFleet_59 (by decide) (fun c14 => ?_) (fun c14 => ?_)
      · have h := it_t h c14
        refine lv_aload_n hx hb dX7_moveFleet_79 rfl (lv_at hl 2 rfl) ?_
        refine va_get (D := E.1) (ci := 6) (v := .ref (q0 7)) (C := RX7) (T := TX7) (N := 11) hx hb hg in_X7 hown X.1 hP 0 rfl rfl 8 (by decide) (hg _ wf_X7_37) (fun _ h9 => h9) rfl dX7_moveFleet_80 ?_
        refine lv_iload_n hx hb dX7_moveFleet_83 rfl (lv_at hl 3 rfl) ?_
        refine lv_aload_n hx hb dX7_moveFleet_84 rfl (lv_at hl 2 rfl) ?_
        refine va_get (D := E.1) (ci := 6) (v := .ref (q0 7)) (C := RX7) (T := TX7) (N := 11) hx hb hg in_X7 hown X.1 hP 0 rfl rfl 8 (by decide) (hg _ wf_X7_37) (fun _ h9 => h9) rfl dX7_moveFleet_85 ?_
        refine lv_iload_n hx hb dX7_moveFleet_88 rfl (lv_at hl 3 rfl) ?_
        obtain ⟨hi, v15, ev15, h⟩ := rd_el h
        refine va_iald hx hb X.1 hP 7 0 rfl rfl hi dX7_moveFleet_89 ?_
        refine lv_top' ev15 ?_
        refine lv_iconst (v := 4) hx hb dX7_moveFleet_90 (by decide) ?_
        refine lv_iadd hx hb dX7_moveFleet_91 ?_
        refine lv_bipush (v := 8) hx hb dX7_moveFleet_92 (by decide) ?_
        refine lv_irem hx hb dX7_moveFleet_94 (by decide) ?_
        obtain ⟨v16, ev16, h⟩ := lt_el h
        refine lv_top' ev16 ?_
        obtain ⟨hi, h⟩ := ck_el h
        obtain ⟨S0_17, eS, h⟩ := lt_el h
        refine va_iast hx hb X.1 hP hD hS 7 0 rfl rfl hi dX7_moveFleet_95 (fun H locs hP hD hS => ?_)
        have hP : va_P E.1 vwCl (cw_X7 E q0 S0_17) H := by rw [eS]; exact hP
        have hD : va_D A (cw_X7 E q0 S0_17) := by rw [eS]; exact hD
        clear eS
        exact RT S0_17 _ _ _ _ h hP hD hS dX7_moveFleet_96
      · have h := it_f h c14
        refine lv_aload_n hx hb dX7_moveFleet_62 rfl (lv_at hl 2 rfl) ?_
        refine va_get (D := E.1) (ci := 6) (v := .ref (q0 4)) (C := RX7) (T := TX7) (N := 11) hx hb hg in_X7 hown X.1 hP 0 rfl rfl 5 (by decide) (hg _ wf_X7_28) (fun _ h9 => h9) rfl dX7_moveFleet_63 ?_
        refine lv_iload_n hx hb dX7_moveFleet_66 rfl (lv_at hl 3 rfl) ?_
        refine lv_iload_n hx hb dX7_moveFleet_67 rfl (lv_at hl 1 rfl) ?_
        obtain ⟨hi, h⟩ := ck_el h
        obtain ⟨S0_18, eS, h⟩ := lt_el h
        refine va_iast hx hb X.1 hP hD hS 4 0 rfl rfl hi dX7_moveFleet_68 (fun H locs hP hD hS => ?_)
        have hP : va_P E.1 vwCl (cw_X7 E q0 S0_18) H := by rw [eS]; exact hP
        have hD : va_D A (cw_X7 E q0 S0_18) := by rw [eS]; exact hD
        clear eS
        refine lv_aload_n hx hb dX7_moveFleet_69 rfl (lv_at hl 2 rfl) ?_
        refine va_get (D := E.1) (ci := 6) (v := .ref (q0 5)) (C := RX7) (T := TX7) (N := 11) hx hb hg in_X7 hown X.1 hP 0 rfl rfl 6 (by decide) (hg _ wf_X7_31) (fun _ h9 => h9) rfl dX7_moveFleet_70 ?_
        refine lv_iload_n hx hb dX7_moveFleet_73 rfl (lv_at hl 3 rfl) ?_
        refine lv_iload_n hx hb dX7_moveFleet_74 rfl (lv_at hl 0 rfl) ?_
        obtain ⟨hi, h⟩ := ck_el h
        obtain ⟨S0_19, eS, h⟩ := lt_el h
        refine va_iast hx hb X.1 hP hD hS 5 0 rfl rfl hi dX7_moveFleet_75 (fun H locs hP hD hS => ?_)
        have hP : va_P E.1 vwCl (cw_X7 E q0 S0_19) H := by rw [eS]; exact hP
        have hD : va_D A (cw_X7 E q0 S0_19) := by rw [eS]; exact hD
        clear eS
        refine lv_goto (tgt := 96) hx hb dX7_moveFleet_76 (by decide) ?_
        exact RT S0_19 _ _ _ _ h hP hD hS dX7_moveFleet_96
    · have h := it_t h c4
      exact RT S0 _ _ _ _ h hP hD hS dX7_moveFleet_19
theorem dX7_mend_0 : decode cX7_mend 0 = .ok (.iconst 0, 1) := by decide +kernel
theorem dX7_mend_1 : decode cX7_mend 1 = .ok (.istore 4, 2) := by decide +kernel
theorem dX7_mend_3 : decode cX7_mend 3 = .ok (.iload 4, 2) := by decide +kernel
theorem dX7_mend_5 : decode cX7_mend 5 = .ok (.bipush 8, 2) := by decide +kernel
theorem dX7_mend_7 : decode cX7_mend 7 = .ok (.if_icmp .ge 87, 3) := by decide +kernel
theorem dX7_mend_10 : decode cX7_mend 10 = .ok (.iload_n 3, 1) := by decide +kernel
theorem dX7_mend_11 : decode cX7_mend 11 = .ok (.iload 4, 2) := by decide +kernel
theorem dX7_mend_13 : decode cX7_mend 13 = .ok (.ishr, 1) := by decide +kernel
theorem dX7_mend_14 : decode cX7_mend 14 = .ok (.iconst 1, 1) := by decide +kernel
theorem dX7_mend_15 : decode cX7_mend 15 = .ok (.iand, 1) := by decide +kernel
theorem dX7_mend_16 : decode cX7_mend 16 = .ok (.ifCond .ne 72, 3) := by decide +kernel
theorem dX7_mend_19 : decode cX7_mend 19 = .ok (.iload_n 2, 1) := by decide +kernel
theorem dX7_mend_20 : decode cX7_mend 20 = .ok (.bipush 8, 2) := by decide +kernel
theorem dX7_mend_22 : decode cX7_mend 22 = .ok (.imul, 1) := by decide +kernel
theorem dX7_mend_23 : decode cX7_mend 23 = .ok (.iload 4, 2) := by decide +kernel
theorem dX7_mend_25 : decode cX7_mend 25 = .ok (.iadd, 1) := by decide +kernel
theorem dX7_mend_26 : decode cX7_mend 26 = .ok (.istore 5, 2) := by decide +kernel
theorem dX7_mend_28 : decode cX7_mend 28 = .ok (.aload_n 1, 1) := by decide +kernel
theorem dX7_mend_29 : decode cX7_mend 29 = .ok (.iload_n 2, 1) := by decide +kernel
theorem dX7_mend_30 : decode cX7_mend 30 = .ok (.iload 4, 2) := by decide +kernel
theorem dX7_mend_32 : decode cX7_mend 32 = .ok (.aload_n 0, 1) := by decide +kernel
theorem dX7_mend_33 : decode cX7_mend 33 = .ok (.getfield 25, 3) := by decide +kernel
theorem dX7_mend_36 : decode cX7_mend 36 = .ok (.iload 5, 2) := by decide +kernel
theorem dX7_mend_38 : decode cX7_mend 38 = .ok (.iaload, 1) := by decide +kernel
theorem dX7_mend_39 : decode cX7_mend 39 = .ok (.aload_n 0, 1) := by decide +kernel
theorem dX7_mend_40 : decode cX7_mend 40 = .ok (.iload_n 2, 1) := by decide +kernel
theorem dX7_mend_41 : decode cX7_mend 41 = .ok (.invokevirtual 78, 3) := by decide +kernel
theorem dX7_mend_44 : decode cX7_mend 44 = .ok (.aload_n 0, 1) := by decide +kernel
theorem dX7_mend_45 : decode cX7_mend 45 = .ok (.getfield 40, 3) := by decide +kernel
theorem dX7_mend_48 : decode cX7_mend 48 = .ok (.bipush 24, 2) := by decide +kernel
theorem dX7_mend_50 : decode cX7_mend 50 = .ok (.irem, 1) := by decide +kernel
theorem dX7_mend_51 : decode cX7_mend 51 = .ok (.invokevirtual 126, 3) := by decide +kernel
theorem dX7_mend_54 : decode cX7_mend 54 = .ok (.aload_n 1, 1) := by decide +kernel
theorem dX7_mend_55 : decode cX7_mend 55 = .ok (.invokevirtual 146, 3) := by decide +kernel
theorem dX7_mend_58 : decode cX7_mend 58 = .ok (.aload_n 0, 1) := by decide +kernel
theorem dX7_mend_59 : decode cX7_mend 59 = .ok (.getfield 25, 3) := by decide +kernel
theorem dX7_mend_62 : decode cX7_mend 62 = .ok (.iload 5, 2) := by decide +kernel
theorem dX7_mend_64 : decode cX7_mend 64 = .ok (.bipush 99, 2) := by decide +kernel
theorem dX7_mend_66 : decode cX7_mend 66 = .ok (.aload_n 0, 1) := by decide +kernel
theorem dX7_mend_67 : decode cX7_mend 67 = .ok (.getfield 25, 3) := by decide +kernel
theorem dX7_mend_70 : decode cX7_mend 70 = .ok (.iload 5, 2) := by decide +kernel
theorem dX7_mend_72 : decode cX7_mend 72 = .ok (.iaload, 1) := by decide +kernel
theorem dX7_mend_73 : decode cX7_mend 73 = .ok (.aload_n 1, 1) := by decide +kernel
theorem dX7_mend_74 : decode cX7_mend 74 = .ok (.aload_n 1, 1) := by decide +kernel
theorem dX7_mend_75 : decode cX7_mend 75 = .ok (.bipush 109, 2) := by decide +kernel
theorem dX7_mend_77 : decode cX7_mend 77 = .ok (.invokevirtual 135, 3) := by decide +kernel
theorem dX7_mend_80 : decode cX7_mend 80 = .ok (.invokevirtual 138, 3) := by decide +kernel
theorem dX7_mend_83 : decode cX7_mend 83 = .ok (.iadd, 1) := by decide +kernel
theorem dX7_mend_84 : decode cX7_mend 84 = .ok (.invokestatic 149, 3) := by decide +kernel
theorem dX7_mend_87 : decode cX7_mend 87 = .ok (.iastore, 1) := by decide +kernel
theorem dX7_mend_88 : decode cX7_mend 88 = .ok (.iinc 4 1, 3) := by decide +kernel
theorem dX7_mend_91 : decode cX7_mend 91 = .ok (.goto (-88), 3) := by decide +kernel
theorem dX7_mend_94 : decode cX7_mend 94 = .ok (.return_, 1) := by decide +kernel
def f_X7_mend_n3 (x2 : Int32) (x3 : Int32) : Nat → Gr → Gr → Int32 → Option (Gr × Gr)
  | 0, _, _, _ => none
  | n + 1, S0, S1, x4 => if 8 ≤ x4 then (some (S0, S1)) else (if ((x3 >>> (x4 &&& 31)) &&& 1) = 0 then (lt' (((x2 * 8) + x4)) fun v4 => rd' (S0.2 4) 64 v4 fun v5 => (f_X7_slackSpokes S0 x2).bind fun u6 => lt' ((S0.1 9) - (S0.1 9) / 24 * 24) fun v7 => (f_X3_seeWeb S1 x2 x4 v5 u6 v7).bind fun u8 => (f_X3_seeNoFleet u8).bind fun u9 => rd' (S0.2 4) 64 v4 fun v10 => (f_X3_firstRule u9 109).bind fun u11 => (f_X3_worthOf u11.2 u11.1).bind fun u12 => lt' (mn' 99 (v10 + u12.1)) fun v13 => ck' 64 v4 (lt' (sA S0 4 (Int32.toNatClampNeg v4) v13) fun S0_14 => lt' (x4 + 1) fun v15 => f_X7_mend_n3 x2 x3 n S0_14 u12.2 v15)) else (lt' (x4 + 1) fun v3 => f_X7_mend_n3 x2 x3 n S0 S1 v3))
def f_X7_mend (S0 : Gr) (S1 : Gr) (x2 : Int32) (x3 : Int32) : Option (Gr × Gr) := f_X7_mend_n3 x2 x3 fu S0 S1 0
set_option maxHeartbeats 4000000 in
set_option maxRecDepth 100000 in
theorem c_X7_mend (l : Launch) (E : Ec) (q0 q1 : Nat → Nat) (sz : Nat) (S0 : Gr) (S1 : Gr) (x2 : Int32) (x3 : Int32) (Rv : Gr × Gr) (h : f_X7_mend S0 S1 x2 x3 = some Rv) : Met l yX7_mend (wsM (.code yX7_mend cX7_mend 6 none)) ({ frames := 3, cells := 0, slots := 0, locals := 70 } : Room) (va_Pc [.ref (q0 0), .ref (q1 0), .int x2, .int x3] (ctP E (cw_X7 E q0 S0 ++ (cw_X3 E q1 S1)) sz)) (ctV E (cw_X7 E q0 S0 ++ (cw_X3 E q1 S1)) (cw_X7 E q0 Rv.1 ++ (cw_X3 E q1 Rv.2)) sz) 0 0 (va_A (cw_X7 E q0 S0 ++ (cw_X3 E q1 S1)) sz) := by
  refine ct_metV (by decide) (Nat.le_of_ble_eq_true rfl) ?_
  intro p e s m ar below meth c A QM hx hb hml hown hg X hP hD hS RET ls hl
  have hown : s.vm.findClass RX7 = some m.cls := hown
  have hl : lv_has ls 6 [(0, .ref (q0 0)), (1, .ref (q1 0)), (2, .int x2), (3, .int x3)] := hl
  have RT : ∀ (S0 : Gr) (S1 : Gr) (H : Heap) (locs : List Loc) (ls : Array Slot) (pc : Nat), some (S0, S1) = some Rv → va_P E.1 vwCl (cw_X7 E q0 S0 ++ (cw_X3 E q1 S1)) H → va_D A (cw_X7 E q0 S0 ++ (cw_X3 E q1 S1)) → va_S A s.heap H locs → decode cX7_mend pc = .ok (.return_, 1) → W p l e ({ frames := 3, cells := 0, slots := 0, locals := 70 } : Room) s m ar below meth c H locs 0 0 QM (F0 m pc ls []) := by
    intro S0 S1 H locs ls pc e hP hD hS d
    obtain rfl := sm_e e
    exact RET H locs pc ls hP hD hS d
  clear RET
  have N3 : ∀ (n : Nat) (S0 : Gr) (S1 : Gr) (x4 : Int32) (H : Heap) (locs : List Loc) (ls : Array Slot), f_X7_mend_n3 x2 x3 n S0 S1 x4 = some Rv → va_P E.1 vwCl (cw_X7 E q0 S0 ++ (cw_X3 E q1 S1)) H → va_D A (cw_X7 E q0 S0 ++ (cw_X3 E q1 S1)) → va_S A s.heap H locs → lv_has ls 6 [(0, .ref (q0 0)), (1, .ref (q1 0)), (2, .int x2), (3, .int x3), (4, .int x4)] → W p l e ({ frames := 3, cells := 0, slots := 0, locals := 70 } : Room) s m ar below meth c H locs 0 0 QM (F0 m 3 ls []) := by
    intro n
    induction n with
    | zero => intro S0 S1 x4 H locs ls h; exact nn_el h
    | succ n ih =>
      intro S0 S1 x4 H locs ls h hP hD hS hl
      refine lv_iload hx hb dX7_mend_3 (lv_at hl 4 rfl) ?_
      refine lv_bipush (v := 8) hx hb dX7_mend_5 (by decide) ?_
      refine lv_icmp_ge (tgt := 94) hx hb dX7_mend_7 (by decide) (fun c1 => ?_) (fun c1 => ?_)
      · have h := it_t h c1
        exact RT S0 S1 _ _ _ _ h hP hD hS dX7_mend_94
      · have h := it_f h c1
        refine lv_iload_n hx hb dX7_mend_10 rfl (lv_at hl 3 rfl) ?_
        refine lv_iload hx hb dX7_mend_11 (lv_at hl 4 rfl) ?_
        refine lv_ishr hx hb dX7_mend_13 ?_
        refine lv_iconst (v := 1) hx hb dX7_mend_14 (by decide) ?_
        refine lv_iand hx hb dX7_mend_15 ?_
        refine lv_if_ne (tgt := 88) hx hb dX7_mend_16 (by decide) (fun c2 => ?_) (fun c2 => ?_)
        · have h := it_f h c2
          obtain ⟨v3, ev3, h⟩ := lt_el h
          refine lv_iinc (v := v3) (lv' := [(4, .int v3), (0, .ref (q0 0)), (1, .ref (q1 0)), (2, .int x2), (3, .int x3)]) hx hb dX7_mend_88 hl (k := 4) rfl (by rw [ev3]; rfl) (by decide) rfl (fun ls hl => ?_)
          refine lv_goto (tgt := 3) hx hb dX7_mend_91 (by decide) ?_
          exact ih S0 S1 v3 _ _ _ h hP hD hS (lv_sub hl [1, 2, 3, 4, 0] rfl)
        · have h := it_t h c2
          refine lv_iload_n hx hb dX7_mend_19 rfl (lv_at hl 2 rfl) ?_
          refine lv_bipush (v := 8) hx hb dX7_mend_20 (by decide) ?_
          refine lv_imul hx hb dX7_mend_22 ?_
          refine lv_iload hx hb dX7_mend_23 (lv_at hl 4 rfl) ?_
          refine lv_iadd hx hb dX7_mend_25 ?_
          obtain ⟨v4, ev4, h⟩ := lt_el h
          refine lv_top' ev4 ?_
          refine lv_istore (lv' := [(5, .int v4), (0, .ref (q0 0)), (1, .ref (q1 0)), (2, .int x2), (3, .int x3), (4, .int x4)]) hx hb dX7_mend_26 hl (by decide) rfl (fun ls hl => ?_)
          refine lv_aload_n hx hb dX7_mend_28 rfl (lv_at hl 2 rfl) ?_
          refine lv_iload_n hx hb dX7_mend_29 rfl (lv_at hl 3 rfl) ?_
          refine lv_iload hx hb dX7_mend_30 (lv_at hl 5 rfl) ?_
          refine lv_aload_n hx hb dX7_mend_32 rfl (lv_at hl 1 rfl) ?_
          refine va_get (D := E.1) (ci := 6) (v := .ref (q0 3)) (C := RX7) (T := TX7) (N := 11) hx hb hg in_X7 hown X.1 hP 0 rfl rfl 4 (by decide) (hg _ wf_X7_25) (fun _ h9 => h9) rfl dX7_mend_33 ?_
          refine lv_iload hx hb dX7_mend_36 (lv_at hl 0 rfl) ?_
          obtain ⟨hi, v5, ev5, h⟩ := rd_el h
          refine va_iald hx hb X.1 hP 3 0 rfl rfl hi dX7_mend_38 ?_
          refine lv_top' ev5 ?_
          refine lv_aload_n hx hb dX7_mend_39 rfl (lv_at hl 1 rfl) ?_
          refine lv_iload_n hx hb dX7_mend_40 rfl (lv_at hl 3 rfl) ?_
          obtain ⟨u6, hc, h⟩ := bd_el h
          have hC : ([0, 1, 2, 3, 4, 5, 6, 7] : List Nat).map (fun i => (cw_X7 E q0 S0 ++ (cw_X3 E q1 S1))[i]?) = (cw_X7 E q0 S0).map some := rfl
          refine ct_iR X hP hD hS [0, 1, 2, 3, 4, 5, 6, 7] hC (va_runV (C := RX7) (As := [.int x2]) (rest := [.int v5, .int x4, .int x2, .ref (q1 0)]) ⟨hx, hb, hml, hown, hg⟩ (c_X7_slackSpokes l E q0 H.size S0 x2 u6 hc) (cwV 1 hg (gwV wm_X7_78 wi_X7_slackSpokes wsl_X7_slackSpokes wini_X7 wco_X7_slackSpokes) rfl rfl rfl (by decide +kernel) ⟨Nat.le_of_ble_eq_true rfl, Nat.le_of_ble_eq_true rfl⟩) ⟨ct_blind, ct_rv X.1 hP 0 rfl rfl, ct_pre X hP hD hS [0, 1, 2, 3, 4, 5, 6, 7] (by decide) hC _⟩ rfl rfl hl.1 rfl (lv_room (Nat.le_of_ble_eq_true rfl)) dX7_mend_41 ⟨Nat.zero_le _, Nat.zero_le _⟩) (fun H locs hP hD hS => ?_)
          clear hC
          refine lv_aload_n hx hb dX7_mend_44 rfl (lv_at hl 1 rfl) ?_
          refine va_get (D := E.1) (ci := 6) (v := .int (S0.1 9)) (C := RX7) (T := TX7) (N := 11) hx hb hg in_X7 hown X.1 hP 0 rfl rfl 9 (by decide) (hg _ wf_X7_40) (fun _ h9 => h9) rfl dX7_mend_45 ?_
          refine lv_bipush (v := 24) hx hb dX7_mend_48 (by decide) ?_
          refine lv_irem hx hb dX7_mend_50 (by decide) ?_
          obtain ⟨v7, ev7, h⟩ := lt_el h
          refine lv_top' ev7 ?_
          obtain ⟨u8, hc, h⟩ := bd_el h
          have hC : ([8, 9, 10, 11, 12, 13, 14, 15] : List Nat).map (fun i => (cw_X7 E q0 S0 ++ (cw_X3 E q1 S1))[i]?) = (cw_X3 E q1 S1).map some := rfl
          refine ct_v (ws' := cw_X7 E q0 S0 ++ (cw_X3 E q1 u8)) X hP hD hS [8, 9, 10, 11, 12, 13, 14, 15] (va_runV (C := RX3) (As := [.int x2, .int x4, .int v5, .int u6, .int v7]) (rest := []) ⟨hx, hb, hml, hown, hg⟩ (c_X3_seeWeb l E q1 H.size S1 x2 x4 v5 u6 v7 u8 hc) (cwV 5 hg (gwV wm_X7_126 wi_X3_seeWeb wsl_X3_seeWeb wini_X3 wco_X3_seeWeb) rfl rfl rfl (by decide +kernel) ⟨Nat.le_of_ble_eq_true rfl, Nat.le_of_ble_eq_true rfl⟩) ⟨ct_blind, ct_rv X.1 hP 8 rfl rfl, ct_pre X hP hD hS [8, 9, 10, 11, 12, 13, 14, 15] (by decide) hC _⟩ rfl rfl hl.1 rfl (lv_room (Nat.le_of_ble_eq_true rfl)) dX7_mend_51 ⟨Nat.zero_le _, Nat.zero_le _⟩) hC rfl rfl (fun H locs hP hD hS => ?_)
          clear hC
          refine lv_aload_n hx hb dX7_mend_54 rfl (lv_at hl 2 rfl) ?_
          obtain ⟨u9, hc, h⟩ := bd_el h
          have hC : ([8, 9, 10, 11, 12, 13, 14, 15] : List Nat).map (fun i => (cw_X7 E q0 S0 ++ (cw_X3 E q1 u8))[i]?) = (cw_X3 E q1 u8).map some := rfl
          refine ct_v (ws' := cw_X7 E q0 S0 ++ (cw_X3 E q1 u9)) X hP hD hS [8, 9, 10, 11, 12, 13, 14, 15] (va_runV (C := RX3) (As := []) (rest := []) ⟨hx, hb, hml, hown, hg⟩ (c_X3_seeNoFleet l E q1 H.size u8 u9 hc) (cwV 0 hg (gwV wm_X7_146 wi_X3_seeNoFleet wsl_X3_seeNoFleet wini_X3 wco_X3_seeNoFleet) rfl rfl rfl (by decide +kernel) ⟨Nat.le_of_ble_eq_true rfl, Nat.le_of_ble_eq_true rfl⟩) ⟨ct_blind, ct_rv X.1 hP 8 rfl rfl, ct_pre X hP hD hS [8, 9, 10, 11, 12, 13, 14, 15] (by decide) hC _⟩ rfl rfl hl.1 rfl (lv_room (Nat.le_of_ble_eq_true rfl)) dX7_mend_55 ⟨Nat.zero_le _, Nat.zero_le _⟩) hC rfl rfl (fun H locs hP hD hS => ?_)
          clear hC
          refine lv_aload_n hx hb dX7_mend_58 rfl (lv_at hl 1 rfl) ?_
          refine va_get (D := E.1) (ci := 6) (v := .ref (q0 3)) (C := RX7) (T := TX7) (N := 11) hx hb hg in_X7 hown X.1 hP 0 rfl rfl 4 (by decide) (hg _ wf_X7_25) (fun _ h9 => h9) rfl dX7_mend_59 ?_
          refine lv_iload hx hb dX7_mend_62 (lv_at hl 0 rfl) ?_
          refine lv_bipush (v := 99) hx hb dX7_mend_64 (by decide) ?_
          refine lv_aload_n hx hb dX7_mend_66 rfl (lv_at hl 1 rfl) ?_
          refine va_get (D := E.1) (ci := 6) (v := .ref (q0 3)) (C := RX7) (T := TX7) (N := 11) hx hb hg in_X7 hown X.1 hP 0 rfl rfl 4 (by decide) (hg _ wf_X7_25) (fun _ h9 => h9) rfl dX7_mend_67 ?_
          refine lv_iload hx hb dX7_mend_70 (lv_at hl 0 rfl) ?_
          obtain ⟨hi, v10, ev10, h⟩ := rd_el h
          refine va_iald hx hb X.1 hP 3 0 rfl rfl hi dX7_mend_72 ?_
          refine lv_top' ev10 ?_
          refine lv_aload_n hx hb dX7_mend_73 rfl (lv_at hl 2 rfl) ?_
          refine lv_aload_n hx hb dX7_mend_74 rfl (lv_at hl 2 rfl) ?_
          refine lv_bipush (v := 109) hx hb dX7_mend_75 (by decide) ?_
          obtain ⟨u11, hc, h⟩ := bd_el h
          have hC : ([8, 9, 10, 11, 12, 13, 14, 15] : List Nat).map (fun i => (cw_X7 E q0 S0 ++ (cw_X3 E q1 u9))[i]?) = (cw_X3 E q1 u9).map some := rfl
          refine ct_i (ws' := cw_X7 E q0 S0 ++ (cw_X3 E q1 u11.2)) X hP hD hS [8, 9, 10, 11, 12, 13, 14, 15] (va_runV (C := RX3) (As := [.int 109]) (rest := [.ref (q1 0), .int v10, .int 99, .int v4, .ref (q0 3)]) ⟨hx, hb, hml, hown, hg⟩ (c_X3_firstRule l E q1 H.size u9 109 u11 hc) (cwV 1 hg (gwV wm_X7_135 wi_X3_firstRule wsl_X3_firstRule wini_X3 wco_X3_firstRule) rfl rfl rfl (by decide +kernel) ⟨Nat.le_of_ble_eq_true rfl, Nat.le_of_ble_eq_true rfl⟩) ⟨ct_blind, ct_rv X.1 hP 8 rfl rfl, ct_pre X hP hD hS [8, 9, 10, 11, 12, 13, 14, 15] (by decide) hC _⟩ rfl rfl hl.1 rfl (lv_room (Nat.le_of_ble_eq_true rfl)) dX7_mend_77 ⟨Nat.zero_le _, Nat.zero_le _⟩) hC rfl rfl (fun H locs hP hD hS => ?_)
          clear hC
          obtain ⟨u12, hc, h⟩ := bd_el h
          have hC : ([8, 9, 10, 11, 12, 13, 14, 15] : List Nat).map (fun i => (cw_X7 E q0 S0 ++ (cw_X3 E q1 u11.2))[i]?) = (cw_X3 E q1 u11.2).map some := rfl
          refine ct_i (ws' := cw_X7 E q0 S0 ++ (cw_X3 E q1 u12.2)) X hP hD hS [8, 9, 10, 11, 12, 13, 14, 15] (va_runV (C := RX3) (As := [.int u11.1]) (rest := [.int v10, .int 99, .int v4, .ref (q0 3)]) ⟨hx, hb, hml, hown, hg⟩ (c_X3_worthOf l E q1 H.size u11.2 u11.1 u12 hc) (cwV 1 hg (gwV wm_X7_138 wi_X3_worthOf wsl_X3_worthOf wini_X3 wco_X3_worthOf) rfl rfl rfl (by decide +kernel) ⟨Nat.le_of_ble_eq_true rfl, Nat.le_of_ble_eq_true rfl⟩) ⟨ct_blind, ct_rv X.1 hP 8 rfl rfl, ct_pre X hP hD hS [8, 9, 10, 11, 12, 13, 14, 15] (by decide) hC _⟩ rfl rfl hl.1 rfl (lv_room (Nat.le_of_ble_eq_true rfl)) dX7_mend_80 ⟨Nat.zero_le _, Nat.zero_le _⟩) hC rfl rfl (fun H locs hP hD hS => ?_)
          clear hC
          refine lv_iadd hx hb dX7_mend_83 ?_
          obtain ⟨v13, ev13, h⟩ := lt_el h
          refine va_mmin hx hb (hml.trans hl.1.symm) hown (hg _ wm_X7_149) (hg _ wst_Mmin) (hg _ wini_J9) (hg _ wco_Mmin) (Nat.le_of_ble_eq_true rfl) (Nat.le_of_ble_eq_true rfl) (Nat.zero_le _) (Nat.zero_le _) dX7_mend_84 ?_
          refine lv_top' ev13 ?_
          obtain ⟨hi, h⟩ := ck_el h
          obtain ⟨S0_14, eS, h⟩ := lt_el h
          refine va_iast hx hb X.1 hP hD hS 3 0 rfl rfl hi dX7_mend_87 (fun H locs hP hD hS => ?_)
          have hP : va_P E.1 vwCl (cw_X7 E q0 S0_14 ++ (cw_X3 E q1 u12.2)) H := by rw [eS]; exact hP
          have hD : va_D A (cw_X7 E q0 S0_14 ++ (cw_X3 E q1 u12.2)) := by rw [eS]; exact hD
          clear eS
          obtain ⟨v15, ev15, h⟩ := lt_el h
          refine lv_iinc (v := v15) (lv' := [(4, .int v15), (5, .int v4), (0, .ref (q0 0)), (1, .ref (q1 0)), (2, .int x2), (3, .int x3)]) hx hb dX7_mend_88 hl (k := 5) rfl (by rw [ev15]; rfl) (by decide) rfl (fun ls hl => ?_)
          refine lv_goto (tgt := 3) hx hb dX7_mend_91 (by decide) ?_
          exact ih S0_14 u12.2 v15 _ _ _ h hP hD hS (lv_sub hl [2, 3, 4, 5, 0] rfl)
  obtain ⟨H, eH⟩ : ∃ z, z = s.heap := ⟨_, rfl⟩
  rw [← eH]
  have hP : va_P E.1 vwCl (cw_X7 E q0 S0 ++ (cw_X3 E q1 S1)) H := by rw [eH]; exact hP
  have hS : va_S A s.heap H [] := by rw [eH]; exact hS
  clear eH
  obtain ⟨locs, el⟩ : ∃ z : List Loc, z = [] := ⟨_, rfl⟩
  rw [← el] at hS ⊢
  clear el
  refine lv_iconst (v := 0) hx hb dX7_mend_0 (by decide) ?_
  refine lv_istore (lv' := [(4, .int 0), (0, .ref (q0 0)), (1, .ref (q1 0)), (2, .int x2), (3, .int x3)]) hx hb dX7_mend_1 hl (by decide) rfl (fun ls hl => ?_)
  exact N3 fu S0 S1 0 _ _ _ h hP hD hS (lv_sub hl [1, 2, 3, 4, 0] rfl)
theorem dX7_touch_0 : decode cX7_touch 0 = .ok (.aload_n 0, 1) := by decide +kernel
theorem dX7_touch_1 : decode cX7_touch 1 = .ok (.sipush 25173, 3) := by decide +kernel
theorem dX7_touch_4 : decode cX7_touch 4 = .ok (.aload_n 0, 1) := by decide +kernel
theorem dX7_touch_5 : decode cX7_touch 5 = .ok (.getfield 43, 3) := by decide +kernel
theorem dX7_touch_8 : decode cX7_touch 8 = .ok (.imul, 1) := by decide +kernel
theorem dX7_touch_9 : decode cX7_touch 9 = .ok (.sipush 13849, 3) := by decide +kernel
theorem dX7_touch_12 : decode cX7_touch 12 = .ok (.iadd, 1) := by decide +kernel
theorem dX7_touch_13 : decode cX7_touch 13 = .ok (.ldc 125, 2) := by decide +kernel
theorem dX7_touch_15 : decode cX7_touch 15 = .ok (.irem, 1) := by decide +kernel
theorem dX7_touch_16 : decode cX7_touch 16 = .ok (.putfield 43, 3) := by decide +kernel
theorem dX7_touch_19 : decode cX7_touch 19 = .ok (.iload_n 2, 1) := by decide +kernel
theorem dX7_touch_20 : decode cX7_touch 20 = .ok (.bipush 8, 2) := by decide +kernel
theorem dX7_touch_22 : decode cX7_touch 22 = .ok (.imul, 1) := by decide +kernel
theorem dX7_touch_23 : decode cX7_touch 23 = .ok (.iload 4, 2) := by decide +kernel
theorem dX7_touch_25 : decode cX7_touch 25 = .ok (.iadd, 1) := by decide +kernel
theorem dX7_touch_26 : decode cX7_touch 26 = .ok (.istore 5, 2) := by decide +kernel
theorem dX7_touch_28 : decode cX7_touch 28 = .ok (.aload_n 1, 1) := by decide +kernel
theorem dX7_touch_29 : decode cX7_touch 29 = .ok (.iload_n 2, 1) := by decide +kernel
theorem dX7_touch_30 : decode cX7_touch 30 = .ok (.iload 4, 2) := by decide +kernel
theorem dX7_touch_32 : decode cX7_touch 32 = .ok (.aload_n 0, 1) := by decide +kernel
theorem dX7_touch_33 : decode cX7_touch 33 = .ok (.getfield 25, 3) := by decide +kernel
theorem dX7_touch_36 : decode cX7_touch 36 = .ok (.iload 5, 2) := by decide +kernel
theorem dX7_touch_38 : decode cX7_touch 38 = .ok (.iaload, 1) := by decide +kernel
theorem dX7_touch_39 : decode cX7_touch 39 = .ok (.aload_n 0, 1) := by decide +kernel
theorem dX7_touch_40 : decode cX7_touch 40 = .ok (.iload_n 2, 1) := by decide +kernel
theorem dX7_touch_41 : decode cX7_touch 41 = .ok (.invokevirtual 78, 3) := by decide +kernel
theorem dX7_touch_44 : decode cX7_touch 44 = .ok (.aload_n 0, 1) := by decide +kernel
theorem dX7_touch_45 : decode cX7_touch 45 = .ok (.getfield 40, 3) := by decide +kernel
theorem dX7_touch_48 : decode cX7_touch 48 = .ok (.bipush 24, 2) := by decide +kernel
theorem dX7_touch_50 : decode cX7_touch 50 = .ok (.irem, 1) := by decide +kernel
theorem dX7_touch_51 : decode cX7_touch 51 = .ok (.invokevirtual 126, 3) := by decide +kernel
theorem dX7_touch_54 : decode cX7_touch 54 = .ok (.aload_n 1, 1) := by decide +kernel
theorem dX7_touch_55 : decode cX7_touch 55 = .ok (.iload_n 3, 1) := by decide +kernel
theorem dX7_touch_56 : decode cX7_touch 56 = .ok (.aload_n 0, 1) := by decide +kernel
theorem dX7_touch_57 : decode cX7_touch 57 = .ok (.iload_n 2, 1) := by decide +kernel
theorem dX7_touch_58 : decode cX7_touch 58 = .ok (.iload_n 3, 1) := by decide +kernel
theorem dX7_touch_59 : decode cX7_touch 59 = .ok (.invokevirtual 90, 3) := by decide +kernel
theorem dX7_touch_62 : decode cX7_touch 62 = .ok (.aload_n 0, 1) := by decide +kernel
theorem dX7_touch_63 : decode cX7_touch 63 = .ok (.iload_n 2, 1) := by decide +kernel
theorem dX7_touch_64 : decode cX7_touch 64 = .ok (.iload_n 3, 1) := by decide +kernel
theorem dX7_touch_65 : decode cX7_touch 65 = .ok (.invokevirtual 93, 3) := by decide +kernel
theorem dX7_touch_68 : decode cX7_touch 68 = .ok (.aload_n 0, 1) := by decide +kernel
theorem dX7_touch_69 : decode cX7_touch 69 = .ok (.getfield 37, 3) := by decide +kernel
theorem dX7_touch_72 : decode cX7_touch 72 = .ok (.iload_n 3, 1) := by decide +kernel
theorem dX7_touch_73 : decode cX7_touch 73 = .ok (.iaload, 1) := by decide +kernel
theorem dX7_touch_74 : decode cX7_touch 74 = .ok (.aload_n 0, 1) := by decide +kernel
theorem dX7_touch_75 : decode cX7_touch 75 = .ok (.getfield 43, 3) := by decide +kernel
theorem dX7_touch_78 : decode cX7_touch 78 = .ok (.bipush 10, 2) := by decide +kernel
theorem dX7_touch_80 : decode cX7_touch 80 = .ok (.irem, 1) := by decide +kernel
theorem dX7_touch_81 : decode cX7_touch 81 = .ok (.invokevirtual 132, 3) := by decide +kernel
theorem dX7_touch_84 : decode cX7_touch 84 = .ok (.aload_n 0, 1) := by decide +kernel
theorem dX7_touch_85 : decode cX7_touch 85 = .ok (.getfield 25, 3) := by decide +kernel
theorem dX7_touch_88 : decode cX7_touch 88 = .ok (.iload 5, 2) := by decide +kernel
theorem dX7_touch_90 : decode cX7_touch 90 = .ok (.iaload, 1) := by decide +kernel
theorem dX7_touch_91 : decode cX7_touch 91 = .ok (.ifCond .eq 13, 3) := by decide +kernel
theorem dX7_touch_94 : decode cX7_touch 94 = .ok (.aload_n 1, 1) := by decide +kernel
theorem dX7_touch_95 : decode cX7_touch 95 = .ok (.bipush 120, 2) := by decide +kernel
theorem dX7_touch_97 : decode cX7_touch 97 = .ok (.invokevirtual 135, 3) := by decide +kernel
theorem dX7_touch_100 : decode cX7_touch 100 = .ok (.iconst (-1), 1) := by decide +kernel
theorem dX7_touch_101 : decode cX7_touch 101 = .ok (.if_icmp .eq 5, 3) := by decide +kernel
theorem dX7_touch_104 : decode cX7_touch 104 = .ok (.iconst 0, 1) := by decide +kernel
theorem dX7_touch_105 : decode cX7_touch 105 = .ok (.ireturn, 1) := by decide +kernel
theorem dX7_touch_106 : decode cX7_touch 106 = .ok (.aload_n 0, 1) := by decide +kernel
theorem dX7_touch_107 : decode cX7_touch 107 = .ok (.getfield 25, 3) := by decide +kernel
theorem dX7_touch_110 : decode cX7_touch 110 = .ok (.iload 5, 2) := by decide +kernel
theorem dX7_touch_112 : decode cX7_touch 112 = .ok (.iconst 0, 1) := by decide +kernel
theorem dX7_touch_113 : decode cX7_touch 113 = .ok (.aload_n 0, 1) := by decide +kernel
theorem dX7_touch_114 : decode cX7_touch 114 = .ok (.getfield 25, 3) := by decide +kernel
theorem dX7_touch_117 : decode cX7_touch 117 = .ok (.iload 5, 2) := by decide +kernel
theorem dX7_touch_119 : decode cX7_touch 119 = .ok (.iaload, 1) := by decide +kernel
theorem dX7_touch_120 : decode cX7_touch 120 = .ok (.aload_n 1, 1) := by decide +kernel
theorem dX7_touch_121 : decode cX7_touch 121 = .ok (.aload_n 1, 1) := by decide +kernel
theorem dX7_touch_122 : decode cX7_touch 122 = .ok (.bipush 116, 2) := by decide +kernel
theorem dX7_touch_124 : decode cX7_touch 124 = .ok (.invokevirtual 135, 3) := by decide +kernel
theorem dX7_touch_127 : decode cX7_touch 127 = .ok (.invokevirtual 138, 3) := by decide +kernel
theorem dX7_touch_130 : decode cX7_touch 130 = .ok (.isub, 1) := by decide +kernel
theorem dX7_touch_131 : decode cX7_touch 131 = .ok (.invokestatic 141, 3) := by decide +kernel
theorem dX7_touch_134 : decode cX7_touch 134 = .ok (.iastore, 1) := by decide +kernel
theorem dX7_touch_135 : decode cX7_touch 135 = .ok (.iconst 1, 1) := by decide +kernel
theorem dX7_touch_136 : decode cX7_touch 136 = .ok (.ireturn, 1) := by decide +kernel
def f_X7_touch (S0 : Gr) (S1 : Gr) (x2 : Int32) (x3 : Int32) (x4 : Int32) : Option (Int32 × Gr × Gr) := lt' (((25173 * (S0.1 10)) + 13849) - ((25173 * (S0.1 10)) + 13849) / 65536 * 65536) fun v1 => lt' (sI S0 10 v1) fun S0_2 => lt' (((x2 * 8) + x4)) fun v3 => rd' (S0_2.2 4) 64 v3 fun v4 => (f_X7_slackSpokes S0_2 x2).bind fun u5 => lt' ((S0_2.1 9) - (S0_2.1 9) / 24 * 24) fun v6 => (f_X3_seeWeb S1 x2 x4 v4 u5 v6).bind fun u7 => (f_X7_distanceTo S0_2 x2 x3).bind fun u8 => (f_X7_felt S0_2 x2 x3).bind fun u9 => rd' (S0_2.2 8) 8 x3 fun v10 => lt' ((S0_2.1 10) - (S0_2.1 10) / 10 * 10) fun v11 => (f_X3_seeFleet u7 x3 u8 u9 v10 v11).bind fun u12 => rd' (S0_2.2 4) 64 v3 fun v13 => if v13 = 0 then (some (0, S0_2, u12)) else ((f_X3_firstRule u12 120).bind fun u15 => if u15.1 = (-1) then (rd' (S0_2.2 4) 64 v3 fun v17 => (f_X3_firstRule u15.2 116).bind fun u18 => (f_X3_worthOf u18.2 u18.1).bind fun u19 => lt' (mx' 0 (v17 - u19.1)) fun v20 => ck' 64 v3 (lt' (sA S0_2 4 (Int32.toNatClampNeg v3) v20) fun S0_21 => some (1, S0_21, u19.2))) else (some (0, S0_2, u15.2)))
set_option maxHeartbeats 4000000 in
set_option maxRecDepth 100000 in
theorem c_X7_touch (l : Launch) (E : Ec) (q0 q1 : Nat → Nat) (sz : Nat) (S0 : Gr) (S1 : Gr) (x2 : Int32) (x3 : Int32) (x4 : Int32) (Rv : Int32 × Gr × Gr) (h : f_X7_touch S0 S1 x2 x3 x4 = some Rv) : Met l yX7_touch (wsM (.code yX7_touch cX7_touch 6 (some .boolean))) ({ frames := 4, cells := 0, slots := 0, locals := 95 } : Room) (va_Pc [.ref (q0 0), .ref (q1 0), .int x2, .int x3, .int x4] (ctP E (cw_X7 E q0 S0 ++ (cw_X3 E q1 S1)) sz)) (ctI E (cw_X7 E q0 S0 ++ (cw_X3 E q1 S1)) (cw_X7 E q0 Rv.2.1 ++ (cw_X3 E q1 Rv.2.2)) sz Rv.1) 0 0 (va_A (cw_X7 E q0 S0 ++ (cw_X3 E q1 S1)) sz) := by
  refine ct_metI (by decide) (Nat.le_of_ble_eq_true rfl) ?_
  intro p e s m ar below meth c A QM hx hb hml hown hg X hP hD hS RET ls hl
  have hown : s.vm.findClass RX7 = some m.cls := hown
  have hl : lv_has ls 6 [(0, .ref (q0 0)), (1, .ref (q1 0)), (2, .int x2), (3, .int x3), (4, .int x4)] := hl
  have RT : ∀ (v : Int32) (S0 : Gr) (S1 : Gr) (H : Heap) (locs : List Loc) (ls : Array Slot) (pc : Nat), some (v, S0, S1) = some Rv → narrow .boolean (.int v) = .int v → va_P E.1 vwCl (cw_X7 E q0 S0 ++ (cw_X3 E q1 S1)) H → va_D A (cw_X7 E q0 S0 ++ (cw_X3 E q1 S1)) → va_S A s.heap H locs → decode cX7_touch pc = .ok (.ireturn, 1) → W p l e ({ frames := 4, cells := 0, slots := 0, locals := 95 } : Room) s m ar below meth c H locs 0 0 QM (F0 m pc ls [.int v]) := by
    intro v S0 S1 H locs ls pc e hn hP hD hS d
    obtain rfl := sm_e e
    exact RET H locs pc ls hn hP hD hS d
  clear RET
  obtain ⟨H, eH⟩ : ∃ z, z = s.heap := ⟨_, rfl⟩
  rw [← eH]
  have hP : va_P E.1 vwCl (cw_X7 E q0 S0 ++ (cw_X3 E q1 S1)) H := by rw [eH]; exact hP
  have hS : va_S A s.heap H [] := by rw [eH]; exact hS
  clear eH
  obtain ⟨locs, el⟩ : ∃ z : List Loc, z = [] := ⟨_, rfl⟩
  rw [← el] at hS ⊢
  clear el
  refine lv_aload_n hx hb dX7_touch_0 rfl (lv_at hl 0 rfl) ?_
  refine lv_sipush (v := 25173) hx hb dX7_touch_1 (by decide) ?_
  refine lv_aload_n hx hb dX7_touch_4 rfl (lv_at hl 0 rfl) ?_
  refine va_get (D := E.1) (ci := 6) (v := .int (S0.1 10)) (C := RX7) (T := TX7) (N := 11) hx hb hg in_X7 hown X.1 hP 0 rfl rfl 10 (by decide) (hg _ wf_X7_43) (fun _ h9 => h9) rfl dX7_touch_5 ?_
  refine lv_imul hx hb dX7_touch_8 ?_
  refine lv_sipush (v := 13849) hx hb dX7_touch_9 (by decide) ?_
  refine lv_iadd hx hb dX7_touch_12 ?_
  refine lv_ldc hx hb hown (hg _ wcn_X7_125) dX7_touch_13 ?_
  refine lv_irem hx hb dX7_touch_15 (by decide) ?_
  obtain ⟨v1, ev1, h⟩ := lt_el h
  refine lv_top' ev1 ?_
  obtain ⟨S0_2, eS, h⟩ := lt_el h
  refine va_put (D := E.1) (ci := 6) (v := .int v1) (ty := .int) (C := RX7) (T := TX7) (N := 11) hx hb hg in_X7 tyX7 tyX7_ok nmX7 hown X.1 hP hD hS 0 rfl rfl 10 (by decide) (hg _ wf_X7_43) (fun _ h9 => h9) rfl (by decide +kernel) rfl rfl (Nat.le_of_ble_eq_true rfl) dX7_touch_16 (fun H locs hP hD hS => ?_)
  have hP : va_P E.1 vwCl (cw_X7 E q0 S0_2 ++ (cw_X3 E q1 S1)) H := by rw [eS]; exact hP
  have hD : va_D A (cw_X7 E q0 S0_2 ++ (cw_X3 E q1 S1)) := by rw [eS]; exact hD
  clear eS
  refine lv_iload_n hx hb dX7_touch_19 rfl (lv_at hl 2 rfl) ?_
  refine lv_bipush (v := 8) hx hb dX7_touch_20 (by decide) ?_
  refine lv_imul hx hb dX7_touch_22 ?_
  refine lv_iload hx hb dX7_touch_23 (lv_at hl 4 rfl) ?_
  refine lv_iadd hx hb dX7_touch_25 ?_
  obtain ⟨v3, ev3, h⟩ := lt_el h
  refine lv_top' ev3 ?_
  refine lv_istore (lv' := [(5, .int v3), (0, .ref (q0 0)), (1, .ref (q1 0)), (2, .int x2), (3, .int x3), (4, .int x4)]) hx hb dX7_touch_26 hl (by decide) rfl (fun ls hl => ?_)
  refine lv_aload_n hx hb dX7_touch_28 rfl (lv_at hl 2 rfl) ?_
  refine lv_iload_n hx hb dX7_touch_29 rfl (lv_at hl 3 rfl) ?_
  refine lv_iload hx hb dX7_touch_30 (lv_at hl 5 rfl) ?_
  refine lv_aload_n hx hb dX7_touch_32 rfl (lv_at hl 1 rfl) ?_
  refine va_get (D := E.1) (ci := 6) (v := .ref (q0 3)) (C := RX7) (T := TX7) (N := 11) hx hb hg in_X7 hown X.1 hP 0 rfl rfl 4 (by decide) (hg _ wf_X7_25) (fun _ h9 => h9) rfl dX7_touch_33 ?_
  refine lv_iload hx hb dX7_touch_36 (lv_at hl 0 rfl) ?_
  obtain ⟨hi, v4, ev4, h⟩ := rd_el h
  refine va_iald hx hb X.1 hP 3 0 rfl rfl hi dX7_touch_38 ?_
  refine lv_top' ev4 ?_
  refine lv_aload_n hx hb dX7_touch_39 rfl (lv_at hl 1 rfl) ?_
  refine lv_iload_n hx hb dX7_touch_40 rfl (lv_at hl 3 rfl) ?_
  obtain ⟨u5, hc, h⟩ := bd_el h
  have hC : ([0, 1, 2, 3, 4, 5, 6, 7] : List Nat).map (fun i => (cw_X7 E q0 S0_2 ++ (cw_X3 E q1 S1))[i]?) = (cw_X7 E q0 S0_2).map some := rfl
  refine ct_iR X hP hD hS [0, 1, 2, 3, 4, 5, 6, 7] hC (va_runV (C := RX7) (As := [.int x2]) (rest := [.int v4, .int x4, .int x2, .ref (q1 0)]) ⟨hx, hb, hml, hown, hg⟩ (c_X7_slackSpokes l E q0 H.size S0_2 x2 u5 hc) (cwV 1 hg (gwV wm_X7_78 wi_X7_slackSpokes wsl_X7_slackSpokes wini_X7 wco_X7_slackSpokes) rfl rfl rfl (by decide +kernel) ⟨Nat.le_of_ble_eq_true rfl, Nat.le_of_ble_eq_true rfl⟩) ⟨ct_blind, ct_rv X.1 hP 0 rfl rfl, ct_pre X hP hD hS [0, 1, 2, 3, 4, 5, 6, 7] (by decide) hC _⟩ rfl rfl hl.1 rfl (lv_room (Nat.le_of_ble_eq_true rfl)) dX7_touch_41 ⟨Nat.zero_le _, Nat.zero_le _⟩) (fun H locs hP hD hS => ?_)
  clear hC
  refine lv_aload_n hx hb dX7_touch_44 rfl (lv_at hl 1 rfl) ?_
  refine va_get (D := E.1) (ci := 6) (v := .int (S0_2.1 9)) (C := RX7) (T := TX7) (N := 11) hx hb hg in_X7 hown X.1 hP 0 rfl rfl 9 (by decide) (hg _ wf_X7_40) (fun _ h9 => h9) rfl dX7_touch_45 ?_
  refine lv_bipush (v := 24) hx hb dX7_touch_48 (by decide) ?_
  refine lv_irem hx hb dX7_touch_50 (by decide) ?_
  obtain ⟨v6, ev6, h⟩ := lt_el h
  refine lv_top' ev6 ?_
  obtain ⟨u7, hc, h⟩ := bd_el h
  have hC : ([8, 9, 10, 11, 12, 13, 14, 15] : List Nat).map (fun i => (cw_X7 E q0 S0_2 ++ (cw_X3 E q1 S1))[i]?) = (cw_X3 E q1 S1).map some := rfl
  refine ct_v (ws' := cw_X7 E q0 S0_2 ++ (cw_X3 E q1 u7)) X hP hD hS [8, 9, 10, 11, 12, 13, 14, 15] (va_runV (C := RX3) (As := [.int x2, .int x4, .int v4, .int u5, .int v6]) (rest := []) ⟨hx, hb, hml, hown, hg⟩ (c_X3_seeWeb l E q1 H.size S1 x2 x4 v4 u5 v6 u7 hc) (cwV 5 hg (gwV wm_X7_126 wi_X3_seeWeb wsl_X3_seeWeb wini_X3 wco_X3_seeWeb) rfl rfl rfl (by decide +kernel) ⟨Nat.le_of_ble_eq_true rfl, Nat.le_of_ble_eq_true rfl⟩) ⟨ct_blind, ct_rv X.1 hP 8 rfl rfl, ct_pre X hP hD hS [8, 9, 10, 11, 12, 13, 14, 15] (by decide) hC _⟩ rfl rfl hl.1 rfl (lv_room (Nat.le_of_ble_eq_true rfl)) dX7_touch_51 ⟨Nat.zero_le _, Nat.zero_le _⟩) hC rfl rfl (fun H locs hP hD hS => ?_)
  clear hC
  refine lv_aload_n hx hb dX7_touch_54 rfl (lv_at hl 2 rfl) ?_
  refine lv_iload_n hx hb dX7_touch_55 rfl (lv_at hl 4 rfl) ?_
  refine lv_aload_n hx hb dX7_touch_56 rfl (lv_at hl 1 rfl) ?_
  refine lv_iload_n hx hb dX7_touch_57 rfl (lv_at hl 3 rfl) ?_
  refine lv_iload_n hx hb dX7_touch_58 rfl (lv_at hl 4 rfl) ?_
  obtain ⟨u8, hc, h⟩ := bd_el h
  have hC : ([0, 1, 2, 3, 4, 5, 6, 7] : List Nat).map (fun i => (cw_X7 E q0 S0_2 ++ (cw_X3 E q1 u7))[i]?) = (cw_X7 E q0 S0_2).map some := rfl
  refine ct_iR X hP hD hS [0, 1, 2, 3, 4, 5, 6, 7] hC (va_runV (C := RX7) (As := [.int x2, .int x3]) (rest := [.int x3, .ref (q1 0)]) ⟨hx, hb, hml, hown, hg⟩ (c_X7_distanceTo l E q0 H.size S0_2 x2 x3 u8 hc) (cwV 2 hg (gwV wm_X7_90 wi_X7_distanceTo wsl_X7_distanceTo wini_X7 wco_X7_distanceTo) rfl rfl rfl (by decide +kernel) ⟨Nat.le_of_ble_eq_true rfl, Nat.le_of_ble_eq_true rfl⟩) ⟨ct_blind, ct_rv X.1 hP 0 rfl rfl, ct_pre X hP hD hS [0, 1, 2, 3, 4, 5, 6, 7] (by decide) hC _⟩ rfl rfl hl.1 rfl (lv_room (Nat.le_of_ble_eq_true rfl)) dX7_touch_59 ⟨Nat.zero_le _, Nat.zero_le _⟩) (fun H locs hP hD hS => ?_)
  clear hC
  refine lv_aload_n hx hb dX7_touch_62 rfl (lv_at hl 1 rfl) ?_
  refine lv_iload_n hx hb dX7_touch_63 rfl (lv_at hl 3 rfl) ?_
  refine lv_iload_n hx hb dX7_touch_64 rfl (lv_at hl 4 rfl) ?_
  obtain ⟨u9, hc, h⟩ := bd_el h
  have hC : ([0, 1, 2, 3, 4, 5, 6, 7] : List Nat).map (fun i => (cw_X7 E q0 S0_2 ++ (cw_X3 E q1 u7))[i]?) = (cw_X7 E q0 S0_2).map some := rfl
  refine ct_iR X hP hD hS [0, 1, 2, 3, 4, 5, 6, 7] hC (va_runV (C := RX7) (As := [.int x2, .int x3]) (rest := [.int u8, .int x3, .ref (q1 0)]) ⟨hx, hb, hml, hown, hg⟩ (c_X7_felt l E q0 H.size S0_2 x2 x3 u9 hc) (cwV 2 hg (gwV wm_X7_93 wi_X7_felt wsl_X7_felt wini_X7 wco_X7_felt) rfl rfl rfl (by decide +kernel) ⟨Nat.le_of_ble_eq_true rfl, Nat.le_of_ble_eq_true rfl⟩) ⟨ct_blind, ct_rv X.1 hP 0 rfl rfl, ct_pre X hP hD hS [0, 1, 2, 3, 4, 5, 6, 7] (by decide) hC _⟩ rfl rfl hl.1 rfl (lv_room (Nat.le_of_ble_eq_true rfl)) dX7_touch_65 ⟨Nat.zero_le _, Nat.zero_le _⟩) (fun H locs hP hD hS => ?_)
  clear hC
  refine lv_aload_n hx hb dX7_touch_68 rfl (lv_at hl 1 rfl) ?_
  refine va_get (D := E.1) (ci := 6) (v := .ref (q0 7)) (C := RX7) (T := TX7) (N := 11) hx hb hg in_X7 hown X.1 hP 0 rfl rfl 8 (by decide) (hg _ wf_X7_37) (fun _ h9 => h9) rfl dX7_touch_69 ?_
  refine lv_iload_n hx hb dX7_touch_72 rfl (lv_at hl 4 rfl) ?_
  obtain ⟨hi, v10, ev10, h⟩ := rd_el h
  refine va_iald hx hb X.1 hP 7 0 rfl rfl hi dX7_touch_73 ?_
  refine lv_top' ev10 ?_
  refine lv_aload_n hx hb dX7_touch_74 rfl (lv_at hl 1 rfl) ?_
  refine va_get (D := E.1) (ci := 6) (v := .int (S0_2.1 10)) (C := RX7) (T := TX7) (N := 11) hx hb hg in_X7 hown X.1 hP 0 rfl rfl 10 (by decide) (hg _ wf_X7_43) (fun _ h9 => h9) rfl dX7_touch_75 ?_
  refine lv_bipush (v := 10) hx hb dX7_touch_78 (by decide) ?_
  refine lv_irem hx hb dX7_touch_80 (by decide) ?_
  obtain ⟨v11, ev11, h⟩ := lt_el h
  refine lv_top' ev11 ?_
  obtain ⟨u12, hc, h⟩ := bd_el h
  have hC : ([8, 9, 10, 11, 12, 13, 14, 15] : List Nat).map (fun i => (cw_X7 E q0 S0_2 ++ (cw_X3 E q1 u7))[i]?) = (cw_X3 E q1 u7).map some := rfl
  refine ct_v (ws' := cw_X7 E q0 S0_2 ++ (cw_X3 E q1 u12)) X hP hD hS [8, 9, 10, 11, 12, 13, 14, 15] (va_runV (C := RX3) (As := [.int x3, .int u8, .int u9, .int v10, .int v11]) (rest := []) ⟨hx, hb, hml, hown, hg⟩ (c_X3_seeFleet l E q1 H.size u7 x3 u8 u9 v10 v11 u12 hc) (cwV 5 hg (gwV wm_X7_132 wi_X3_seeFleet wsl_X3_seeFleet wini_X3 wco_X3_seeFleet) rfl rfl rfl (by decide +kernel) ⟨Nat.le_of_ble_eq_true rfl, Nat.le_of_ble_eq_true rfl⟩) ⟨ct_blind, ct_rv X.1 hP 8 rfl rfl, ct_pre X hP hD hS [8, 9, 10, 11, 12, 13, 14, 15] (by decide) hC _⟩ rfl rfl hl.1 rfl (lv_room (Nat.le_of_ble_eq_true rfl)) dX7_touch_81 ⟨Nat.zero_le _, Nat.zero_le _⟩) hC rfl rfl (fun H locs hP hD hS => ?_)
  clear hC
  refine lv_aload_n hx hb dX7_touch_84 rfl (lv_at hl 1 rfl) ?_
  refine va_get (D := E.1) (ci := 6) (v := .ref (q0 3)) (C := RX7) (T := TX7) (N := 11) hx hb hg in_X7 hown X.1 hP 0 rfl rfl 4 (by decide) (hg _ wf_X7_25) (fun _ h9 => h9) rfl dX7_touch_85 ?_
  refine lv_iload hx hb dX7_touch_88 (lv_at hl 0 rfl) ?_
  obtain ⟨hi, v13, ev13, h⟩ := rd_el h
  refine va_iald hx hb X.1 hP 3 0 rfl rfl hi dX7_touch_90 ?_
  refine lv_top' ev13 ?_
  refine lv_if_eq (tgt := 104) hx hb dX7_touch_91 (by decide) (fun c14 => ?_) (fun c14 => ?_)
  · have h := it_t h c14
    refine lv_iconst (v := 0) hx hb dX7_touch_104 (by decide) ?_
    exact RT 0 S0_2 u12 _ _ _ _ h (by decide +kernel) hP hD hS dX7_touch_105
  · have h := it_f h c14
    refine lv_aload_n hx hb dX7_touch_94 rfl (lv_at hl 2 rfl) ?_
    refine lv_bipush (v := 120) hx hb dX7_touch_95 (by decide) ?_
    obtain ⟨u15, hc, h⟩ := bd_el h
    have hC : ([8, 9, 10, 11, 12, 13, 14, 15] : List Nat).map (fun i => (cw_X7 E q0 S0_2 ++ (cw_X3 E q1 u12))[i]?) = (cw_X3 E q1 u12).map some := rfl
    refine ct_i (ws' := cw_X7 E q0 S0_2 ++ (cw_X3 E q1 u15.2)) X hP hD hS [8, 9, 10, 11, 12, 13, 14, 15] (va_runV (C := RX3) (As := [.int 120]) (rest := []) ⟨hx, hb, hml, hown, hg⟩ (c_X3_firstRule l E q1 H.size u12 120 u15 hc) (cwV 1 hg (gwV wm_X7_135 wi_X3_firstRule wsl_X3_firstRule wini_X3 wco_X3_firstRule) rfl rfl rfl (by decide +kernel) ⟨Nat.le_of_ble_eq_true rfl, Nat.le_of_ble_eq_true rfl⟩) ⟨ct_blind, ct_rv X.1 hP 8 rfl rfl, ct_pre X hP hD hS [8, 9, 10, 11, 12, 13, 14, 15] (by decide) hC _⟩ rfl rfl hl.1 rfl (lv_room (Nat.le_of_ble_eq_true rfl)) dX7_touch_97 ⟨Nat.zero_le _, Nat.zero_le _⟩) hC rfl rfl (fun H locs hP hD hS => ?_)
    clear hC
    refine lv_iconst (v := (-1)) hx hb dX7_touch_100 (by decide) ?_
    refine lv_icmp_eq (tgt := 106) hx hb dX7_touch_101 (by decide) (fun c16 => ?_) (fun c16 => ?_)
    · have h := it_t h c16
      refine lv_aload_n hx hb dX7_touch_106 rfl (lv_at hl 1 rfl) ?_
      refine va_get (D := E.1) (ci := 6) (v := .ref (q0 3)) (C := RX7) (T := TX7) (N := 11) hx hb hg in_X7 hown X.1 hP 0 rfl rfl 4 (by decide) (hg _ wf_X7_25) (fun _ h9 => h9) rfl dX7_touch_107 ?_
      refine lv_iload hx hb dX7_touch_110 (lv_at hl 0 rfl) ?_
      refine lv_iconst (v := 0) hx hb dX7_touch_112 (by decide) ?_
      refine lv_aload_n hx hb dX7_touch_113 rfl (lv_at hl 1 rfl) ?_
      refine va_get (D := E.1) (ci := 6) (v := .ref (q0 3)) (C := RX7) (T := TX7) (N := 11) hx hb hg in_X7 hown X.1 hP 0 rfl rfl 4 (by decide) (hg _ wf_X7_25) (fun _ h9 => h9) rfl dX7_touch_114 ?_
      refine lv_iload hx hb dX7_touch_117 (lv_at hl 0 rfl) ?_
      obtain ⟨hi, v17, ev17, h⟩ := rd_el h
      refine va_iald hx hb X.1 hP 3 0 rfl rfl hi dX7_touch_119 ?_
      refine lv_top' ev17 ?_
      refine lv_aload_n hx hb dX7_touch_120 rfl (lv_at hl 2 rfl) ?_
      refine lv_aload_n hx hb dX7_touch_121 rfl (lv_at hl 2 rfl) ?_
      refine lv_bipush (v := 116) hx hb dX7_touch_122 (by decide) ?_
      obtain ⟨u18, hc, h⟩ := bd_el h
      have hC : ([8, 9, 10, 11, 12, 13, 14, 15] : List Nat).map (fun i => (cw_X7 E q0 S0_2 ++ (cw_X3 E q1 u15.2))[i]?) = (cw_X3 E q1 u15.2).map some := rfl
      refine ct_i (ws' := cw_X7 E q0 S0_2 ++ (cw_X3 E q1 u18.2)) X hP hD hS [8, 9, 10, 11, 12, 13, 14, 15] (va_runV (C := RX3) (As := [.int 116]) (rest := [.ref (q1 0), .int v17, .int 0, .int v3, .ref (q0 3)]) ⟨hx, hb, hml, hown, hg⟩ (c_X3_firstRule l E q1 H.size u15.2 116 u18 hc) (cwV 1 hg (gwV wm_X7_135 wi_X3_firstRule wsl_X3_firstRule wini_X3 wco_X3_firstRule) rfl rfl rfl (by decide +kernel) ⟨Nat.le_of_ble_eq_true rfl, Nat.le_of_ble_eq_true rfl⟩) ⟨ct_blind, ct_rv X.1 hP 8 rfl rfl, ct_pre X hP hD hS [8, 9, 10, 11, 12, 13, 14, 15] (by decide) hC _⟩ rfl rfl hl.1 rfl (lv_room (Nat.le_of_ble_eq_true rfl)) dX7_touch_124 ⟨Nat.zero_le _, Nat.zero_le _⟩) hC rfl rfl (fun H locs hP hD hS => ?_)
      clear hC
      obtain ⟨u19, hc, h⟩ := bd_el h
      have hC : ([8, 9, 10, 11, 12, 13, 14, 15] : List Nat).map (fun i => (cw_X7 E q0 S0_2 ++ (cw_X3 E q1 u18.2))[i]?) = (cw_X3 E q1 u18.2).map some := rfl
      refine ct_i (ws' := cw_X7 E q0 S0_2 ++ (cw_X3 E q1 u19.2)) X hP hD hS [8, 9, 10, 11, 12, 13, 14, 15] (va_runV (C := RX3) (As := [.int u18.1]) (rest := [.int v17, .int 0, .int v3, .ref (q0 3)]) ⟨hx, hb, hml, hown, hg⟩ (c_X3_worthOf l E q1 H.size u18.2 u18.1 u19 hc) (cwV 1 hg (gwV wm_X7_138 wi_X3_worthOf wsl_X3_worthOf wini_X3 wco_X3_worthOf) rfl rfl rfl (by decide +kernel) ⟨Nat.le_of_ble_eq_true rfl, Nat.le_of_ble_eq_true rfl⟩) ⟨ct_blind, ct_rv X.1 hP 8 rfl rfl, ct_pre X hP hD hS [8, 9, 10, 11, 12, 13, 14, 15] (by decide) hC _⟩ rfl rfl hl.1 rfl (lv_room (Nat.le_of_ble_eq_true rfl)) dX7_touch_127 ⟨Nat.zero_le _, Nat.zero_le _⟩) hC rfl rfl (fun H locs hP hD hS => ?_)
      clear hC
      refine lv_isub hx hb dX7_touch_130 ?_
      obtain ⟨v20, ev20, h⟩ := lt_el h
      refine va_mmax hx hb (hml.trans hl.1.symm) hown (hg _ wm_X7_141) (hg _ wst_Mmax) (hg _ wini_J9) (hg _ wco_Mmax) (Nat.le_of_ble_eq_true rfl) (Nat.le_of_ble_eq_true rfl) (Nat.zero_le _) (Nat.zero_le _) dX7_touch_131 ?_
      refine lv_top' ev20 ?_
      obtain ⟨hi, h⟩ := ck_el h
      obtain ⟨S0_21, eS, h⟩ := lt_el h
      refine va_iast hx hb X.1 hP hD hS 3 0 rfl rfl hi dX7_touch_134 (fun H locs hP hD hS => ?_)
      have hP : va_P E.1 vwCl (cw_X7 E q0 S0_21 ++ (cw_X3 E q1 u19.2)) H := by rw [eS]; exact hP
      have hD : va_D A (cw_X7 E q0 S0_21 ++ (cw_X3 E q1 u19.2)) := by rw [eS]; exact hD
      clear eS
      refine lv_iconst (v := 1) hx hb dX7_touch_135 (by decide) ?_
      exact RT 1 S0_21 u19.2 _ _ _ _ h (by decide +kernel) hP hD hS dX7_touch_136
    · have h := it_f h c16
      refine lv_iconst (v := 0) hx hb dX7_touch_104 (by decide) ?_
      exact RT 0 S0_2 u15.2 _ _ _ _ h (by decide +kernel) hP hD hS dX7_touch_105
theorem dX7_passWeb_0 : decode cX7_passWeb 0 = .ok (.iconst 0, 1) := by decide +kernel
theorem dX7_passWeb_1 : decode cX7_passWeb 1 = .ok (.istore_n 3, 1) := by decide +kernel
theorem dX7_passWeb_2 : decode cX7_passWeb 2 = .ok (.iconst 0, 1) := by decide +kernel
theorem dX7_passWeb_3 : decode cX7_passWeb 3 = .ok (.istore 4, 2) := by decide +kernel
theorem dX7_passWeb_5 : decode cX7_passWeb 5 = .ok (.iconst 0, 1) := by decide +kernel
theorem dX7_passWeb_6 : decode cX7_passWeb 6 = .ok (.istore 5, 2) := by decide +kernel
theorem dX7_passWeb_8 : decode cX7_passWeb 8 = .ok (.iload 5, 2) := by decide +kernel
theorem dX7_passWeb_10 : decode cX7_passWeb 10 = .ok (.bipush 8, 2) := by decide +kernel
theorem dX7_passWeb_12 : decode cX7_passWeb 12 = .ok (.if_icmp .ge 62, 3) := by decide +kernel
theorem dX7_passWeb_15 : decode cX7_passWeb 15 = .ok (.aload_n 0, 1) := by decide +kernel
theorem dX7_passWeb_16 : decode cX7_passWeb 16 = .ok (.iload 5, 2) := by decide +kernel
theorem dX7_passWeb_18 : decode cX7_passWeb 18 = .ok (.invokevirtual 60, 3) := by decide +kernel
theorem dX7_passWeb_21 : decode cX7_passWeb 21 = .ok (.ifCond .eq 47, 3) := by decide +kernel
theorem dX7_passWeb_24 : decode cX7_passWeb 24 = .ok (.aload_n 0, 1) := by decide +kernel
theorem dX7_passWeb_25 : decode cX7_passWeb 25 = .ok (.iload_n 2, 1) := by decide +kernel
theorem dX7_passWeb_26 : decode cX7_passWeb 26 = .ok (.iload 5, 2) := by decide +kernel
theorem dX7_passWeb_28 : decode cX7_passWeb 28 = .ok (.invokevirtual 93, 3) := by decide +kernel
theorem dX7_passWeb_31 : decode cX7_passWeb 31 = .ok (.ifCond .le 37, 3) := by decide +kernel
theorem dX7_passWeb_34 : decode cX7_passWeb 34 = .ok (.aload_n 0, 1) := by decide +kernel
theorem dX7_passWeb_35 : decode cX7_passWeb 35 = .ok (.iload_n 2, 1) := by decide +kernel
theorem dX7_passWeb_36 : decode cX7_passWeb 36 = .ok (.iload 5, 2) := by decide +kernel
theorem dX7_passWeb_38 : decode cX7_passWeb 38 = .ok (.invokevirtual 114, 3) := by decide +kernel
theorem dX7_passWeb_41 : decode cX7_passWeb 41 = .ok (.istore 6, 2) := by decide +kernel
theorem dX7_passWeb_43 : decode cX7_passWeb 43 = .ok (.aload_n 0, 1) := by decide +kernel
theorem dX7_passWeb_44 : decode cX7_passWeb 44 = .ok (.aload_n 1, 1) := by decide +kernel
theorem dX7_passWeb_45 : decode cX7_passWeb 45 = .ok (.iload_n 2, 1) := by decide +kernel
theorem dX7_passWeb_46 : decode cX7_passWeb 46 = .ok (.iload 5, 2) := by decide +kernel
theorem dX7_passWeb_48 : decode cX7_passWeb 48 = .ok (.iload 6, 2) := by decide +kernel
theorem dX7_passWeb_50 : decode cX7_passWeb 50 = .ok (.invokevirtual 117, 3) := by decide +kernel
theorem dX7_passWeb_53 : decode cX7_passWeb 53 = .ok (.ifCond .eq 15, 3) := by decide +kernel
theorem dX7_passWeb_56 : decode cX7_passWeb 56 = .ok (.iinc 3 1, 3) := by decide +kernel
theorem dX7_passWeb_59 : decode cX7_passWeb 59 = .ok (.iload 4, 2) := by decide +kernel
theorem dX7_passWeb_61 : decode cX7_passWeb 61 = .ok (.iconst 1, 1) := by decide +kernel
theorem dX7_passWeb_62 : decode cX7_passWeb 62 = .ok (.iload 6, 2) := by decide +kernel
theorem dX7_passWeb_64 : decode cX7_passWeb 64 = .ok (.ishl, 1) := by decide +kernel
theorem dX7_passWeb_65 : decode cX7_passWeb 65 = .ok (.ior, 1) := by decide +kernel
theorem dX7_passWeb_66 : decode cX7_passWeb 66 = .ok (.istore 4, 2) := by decide +kernel
theorem dX7_passWeb_68 : decode cX7_passWeb 68 = .ok (.iinc 5 1, 3) := by decide +kernel
theorem dX7_passWeb_71 : decode cX7_passWeb 71 = .ok (.goto (-63), 3) := by decide +kernel
theorem dX7_passWeb_74 : decode cX7_passWeb 74 = .ok (.aload_n 0, 1) := by decide +kernel
theorem dX7_passWeb_75 : decode cX7_passWeb 75 = .ok (.aload_n 1, 1) := by decide +kernel
theorem dX7_passWeb_76 : decode cX7_passWeb 76 = .ok (.iload_n 2, 1) := by decide +kernel
theorem dX7_passWeb_77 : decode cX7_passWeb 77 = .ok (.iload 4, 2) := by decide +kernel
theorem dX7_passWeb_79 : decode cX7_passWeb 79 = .ok (.invokevirtual 121, 3) := by decide +kernel
theorem dX7_passWeb_82 : decode cX7_passWeb 82 = .ok (.iload_n 3, 1) := by decide +kernel
theorem dX7_passWeb_83 : decode cX7_passWeb 83 = .ok (.ireturn, 1) := by decide +kernel
def f_X7_passWeb_n8 (x2 : Int32) : Nat → Gr → Gr → Int32 → Int32 → Int32 → Option (Int32 × Gr × Gr)
  | 0, _, _, _, _, _ => none
  | n + 1, S0, S1, x3, x4, x5 => if 8 ≤ x5 then ((f_X7_mend S0 S1 x2 x4).bind fun u2 => some (x3, u2.1, u2.2)) else ((f_X7_hasFleet S0 x5).bind fun u3 => if u3 = 0 then (lt' (x5 + 1) fun v5 => f_X7_passWeb_n8 x2 n S0 S1 x3 x4 v5) else ((f_X7_felt S0 x2 x5).bind fun u6 => if u6 ≤ 0 then (lt' (x5 + 1) fun v8 => f_X7_passWeb_n8 x2 n S0 S1 x3 x4 v8) else ((f_X7_spokeTo S0 x2 x5).bind fun u9 => (f_X7_touch S0 S1 x2 x5 u9).bind fun u10 => if u10.1 = 0 then (lt' (x5 + 1) fun v12 => f_X7_passWeb_n8 x2 n u10.2.1 u10.2.2 x3 x4 v12) else (lt' (x3 + 1) fun v13 => lt' ((x4 ||| (1 <<< (u9 &&& 31)))) fun v14 => lt' (x5 + 1) fun v15 => f_X7_passWeb_n8 x2 n u10.2.1 u10.2.2 v13 v14 v15))))
def f_X7_passWeb (S0 : Gr) (S1 : Gr) (x2 : Int32) : Option (Int32 × Gr × Gr) := f_X7_passWeb_n8 x2 fu S0 S1 0 0 0
set_option maxHeartbeats 4000000 in
set_option maxRecDepth 100000 in
theorem c_X7_passWeb (l : Launch) (E : Ec) (q0 q1 : Nat → Nat) (sz : Nat) (S0 : Gr) (S1 : Gr) (x2 : Int32) (Rv : Int32 × Gr × Gr) (h : f_X7_passWeb S0 S1 x2 = some Rv) : Met l yX7_passWeb (wsM (.code yX7_passWeb cX7_passWeb 7 (some .int))) ({ frames := 5, cells := 0, slots := 0, locals := 120 } : Room) (va_Pc [.ref (q0 0), .ref (q1 0), .int x2] (ctP E (cw_X7 E q0 S0 ++ (cw_X3 E q1 S1)) sz)) (ctI E (cw_X7 E q0 S0 ++ (cw_X3 E q1 S1)) (cw_X7 E q0 Rv.2.1 ++ (cw_X3 E q1 Rv.2.2)) sz Rv.1) 0 0 (va_A (cw_X7 E q0 S0 ++ (cw_X3 E q1 S1)) sz) := by
  refine ct_metI (by decide) (Nat.le_of_ble_eq_true rfl) ?_
  intro p e s m ar below meth c A QM hx hb hml hown hg X hP hD hS RET ls hl
  have hown : s.vm.findClass RX7 = some m.cls := hown
  have hl : lv_has ls 7 [(0, .ref (q0 0)), (1, .ref (q1 0)), (2, .int x2)] := hl
  have RT : ∀ (v : Int32) (S0 : Gr) (S1 : Gr) (H : Heap) (locs : List Loc) (ls : Array Slot) (pc : Nat), some (v, S0, S1) = some Rv → narrow .int (.int v) = .int v → va_P E.1 vwCl (cw_X7 E q0 S0 ++ (cw_X3 E q1 S1)) H → va_D A (cw_X7 E q0 S0 ++ (cw_X3 E q1 S1)) → va_S A s.heap H locs → decode cX7_passWeb pc = .ok (.ireturn, 1) → W p l e ({ frames := 5, cells := 0, slots := 0, locals := 120 } : Room) s m ar below meth c H locs 0 0 QM (F0 m pc ls [.int v]) := by
    intro v S0 S1 H locs ls pc e hn hP hD hS d
    obtain rfl := sm_e e
    exact RET H locs pc ls hn hP hD hS d
  clear RET
  have N8 : ∀ (n : Nat) (S0 : Gr) (S1 : Gr) (x3 : Int32) (x4 : Int32) (x5 : Int32) (H : Heap) (locs : List Loc) (ls : Array Slot), f_X7_passWeb_n8 x2 n S0 S1 x3 x4 x5 = some Rv → va_P E.1 vwCl (cw_X7 E q0 S0 ++ (cw_X3 E q1 S1)) H → va_D A (cw_X7 E q0 S0 ++ (cw_X3 E q1 S1)) → va_S A s.heap H locs → lv_has ls 7 [(0, .ref (q0 0)), (1, .ref (q1 0)), (2, .int x2), (3, .int x3), (4, .int x4), (5, .int x5)] → W p l e ({ frames := 5, cells := 0, slots := 0, locals := 120 } : Room) s m ar below meth c H locs 0 0 QM (F0 m 8 ls []) := by
    intro n
    induction n with
    | zero => intro S0 S1 x3 x4 x5 H locs ls h; exact nn_el h
    | succ n ih =>
      intro S0 S1 x3 x4 x5 H locs ls h hP hD hS hl
      refine lv_iload hx hb dX7_passWeb_8 (lv_at hl 5 rfl) ?_
      refine lv_bipush (v := 8) hx hb dX7_passWeb_10 (by decide) ?_
      refine lv_icmp_ge (tgt := 74) hx hb dX7_passWeb_12 (by decide) (fun c1 => ?_) (fun c1 => ?_)
      · have h := it_t h c1
        refine lv_aload_n hx hb dX7_passWeb_74 rfl (lv_at hl 0 rfl) ?_
        refine lv_aload_n hx hb dX7_passWeb_75 rfl (lv_at hl 1 rfl) ?_
        refine lv_iload_n hx hb dX7_passWeb_76 rfl (lv_at hl 2 rfl) ?_
        refine lv_iload hx hb dX7_passWeb_77 (lv_at hl 4 rfl) ?_
        obtain ⟨u2, hc, h⟩ := bd_el h
        refine ct_vA (w1 := cw_X7 E q0 u2.1 ++ (cw_X3 E q1 u2.2)) X hP hD hS (va_runV (C := RX7) (As := [.ref (q1 0), .int x2, .int x4]) (rest := []) ⟨hx, hb, hml, hown, hg⟩ (c_X7_mend l E q0 q1 H.size S0 S1 x2 x4 u2 hc) (cwV 3 hg (gwV wm_X7_121 wi_X7_mend wsl_X7_mend wini_X7 wco_X7_mend) rfl rfl rfl (by decide +kernel) ⟨Nat.le_of_ble_eq_true rfl, Nat.le_of_ble_eq_true rfl⟩) ⟨ct_blind, ct_rv X.1 hP 0 rfl rfl, ct_preA X hP hD hS _⟩ rfl rfl hl.1 rfl (lv_room (Nat.le_of_ble_eq_true rfl)) dX7_passWeb_79 ⟨Nat.zero_le _, Nat.zero_le _⟩) (fun H locs hP hD hS => ?_)
        refine lv_iload_n hx hb dX7_passWeb_82 rfl (lv_at hl 3 rfl) ?_
        exact RT x3 u2.1 u2.2 _ _ _ _ h rfl hP hD hS dX7_passWeb_83
      · have h := it_f h c1
        refine lv_aload_n hx hb dX7_passWeb_15 rfl (lv_at hl 0 rfl) ?_
        refine lv_iload hx hb dX7_passWeb_16 (lv_at hl 5 rfl) ?_
        obtain ⟨u3, hc, h⟩ := bd_el h
        have hC : ([0, 1, 2, 3, 4, 5, 6, 7] : List Nat).map (fun i => (cw_X7 E q0 S0 ++ (cw_X3 E q1 S1))[i]?) = (cw_X7 E q0 S0).map some := rfl
        refine ct_iR X hP hD hS [0, 1, 2, 3, 4, 5, 6, 7] hC (va_runV (C := RX7) (As := [.int x5]) (rest := []) ⟨hx, hb, hml, hown, hg⟩ (c_X7_hasFleet l E q0 H.size S0 x5 u3 hc) (cwV 1 hg (gwV wm_X7_60 wi_X7_hasFleet wsl_X7_hasFleet wini_X7 wco_X7_hasFleet) rfl rfl rfl (by decide +kernel) ⟨Nat.le_of_ble_eq_true rfl, Nat.le_of_ble_eq_true rfl⟩) ⟨ct_blind, ct_rv X.1 hP 0 rfl rfl, ct_pre X hP hD hS [0, 1, 2, 3, 4, 5, 6, 7] (by decide) hC _⟩ rfl rfl hl.1 rfl (lv_room (Nat.le_of_ble_eq_true rfl)) dX7_passWeb_18 ⟨Nat.zero_le _, Nat.zero_le _⟩) (fun H locs hP hD hS => ?_)
        clear hC
        refine lv_if_eq (tgt := 68) hx hb dX7_passWeb_21 (by decide) (fun c4 => ?_) (fun c4 => ?_)
        · have h := it_t h c4
          obtain ⟨v5, ev5, h⟩ := lt_el h
          refine lv_iinc (v := v5) (lv' := [(5, .int v5), (0, .ref (q0 0)), (1, .ref (q1 0)), (2, .int x2), (3, .int x3), (4, .int x4)]) hx hb dX7_passWeb_68 hl (k := 5) rfl (by rw [ev5]; rfl) (by decide) rfl (fun ls hl => ?_)
          refine lv_goto (tgt := 8) hx hb dX7_passWeb_71 (by decide) ?_
          exact ih S0 S1 x3 x4 v5 _ _ _ h hP hD hS (lv_sub hl [1, 2, 3, 4, 5, 0] rfl)
        · have h := it_f h c4
          refine lv_aload_n hx hb dX7_passWeb_24 rfl (lv_at hl 0 rfl) ?_
          refine lv_iload_n hx hb dX7_passWeb_25 rfl (lv_at hl 2 rfl) ?_
          refine lv_iload hx hb dX7_passWeb_26 (lv_at hl 5 rfl) ?_
          obtain ⟨u6, hc, h⟩ := bd_el h
          have hC : ([0, 1, 2, 3, 4, 5, 6, 7] : List Nat).map (fun i => (cw_X7 E q0 S0 ++ (cw_X3 E q1 S1))[i]?) = (cw_X7 E q0 S0).map some := rfl
          refine ct_iR X hP hD hS [0, 1, 2, 3, 4, 5, 6, 7] hC (va_runV (C := RX7) (As := [.int x2, .int x5]) (rest := []) ⟨hx, hb, hml, hown, hg⟩ (c_X7_felt l E q0 H.size S0 x2 x5 u6 hc) (cwV 2 hg (gwV wm_X7_93 wi_X7_felt wsl_X7_felt wini_X7 wco_X7_felt) rfl rfl rfl (by decide +kernel) ⟨Nat.le_of_ble_eq_true rfl, Nat.le_of_ble_eq_true rfl⟩) ⟨ct_blind, ct_rv X.1 hP 0 rfl rfl, ct_pre X hP hD hS [0, 1, 2, 3, 4, 5, 6, 7] (by decide) hC _⟩ rfl rfl hl.1 rfl (lv_room (Nat.le_of_ble_eq_true rfl)) dX7_passWeb_28 ⟨Nat.zero_le _, Nat.zero_le _⟩) (fun H locs hP hD hS => ?_)
          clear hC
          refine lv_if_le (tgt := 68) hx hb dX7_passWeb_31 (by decide) (fun c7 => ?_) (fun c7 => ?_)
          · have h := it_t h c7
            obtain ⟨v8, ev8, h⟩ := lt_el h
            refine lv_iinc (v := v8) (lv' := [(5, .int v8), (0, .ref (q0 0)), (1, .ref (q1 0)), (2, .int x2), (3, .int x3), (4, .int x4)]) hx hb dX7_passWeb_68 hl (k := 5) rfl (by rw [ev8]; rfl) (by decide) rfl (fun ls hl => ?_)
            refine lv_goto (tgt := 8) hx hb dX7_passWeb_71 (by decide) ?_
            exact ih S0 S1 x3 x4 v8 _ _ _ h hP hD hS (lv_sub hl [1, 2, 3, 4, 5, 0] rfl)
          · have h := it_f h c7
            refine lv_aload_n hx hb dX7_passWeb_34 rfl (lv_at hl 0 rfl) ?_
            refine lv_iload_n hx hb dX7_passWeb_35 rfl (lv_at hl 2 rfl) ?_
            refine lv_iload hx hb dX7_passWeb_36 (lv_at hl 5 rfl) ?_
            obtain ⟨u9, hc, h⟩ := bd_el h
            have hC : ([0, 1, 2, 3, 4, 5, 6, 7] : List Nat).map (fun i => (cw_X7 E q0 S0 ++ (cw_X3 E q1 S1))[i]?) = (cw_X7 E q0 S0).map some := rfl
            refine ct_iR X hP hD hS [0, 1, 2, 3, 4, 5, 6, 7] hC (va_runV (C := RX7) (As := [.int x2, .int x5]) (rest := []) ⟨hx, hb, hml, hown, hg⟩ (c_X7_spokeTo l E q0 H.size S0 x2 x5 u9 hc) (cwV 2 hg (gwV wm_X7_114 wi_X7_spokeTo wsl_X7_spokeTo wini_X7 wco_X7_spokeTo) rfl rfl rfl (by decide +kernel) ⟨Nat.le_of_ble_eq_true rfl, Nat.le_of_ble_eq_true rfl⟩) ⟨ct_blind, ct_rv X.1 hP 0 rfl rfl, ct_pre X hP hD hS [0, 1, 2, 3, 4, 5, 6, 7] (by decide) hC _⟩ rfl rfl hl.1 rfl (lv_room (Nat.le_of_ble_eq_true rfl)) dX7_passWeb_38 ⟨Nat.zero_le _, Nat.zero_le _⟩) (fun H locs hP hD hS => ?_)
            clear hC
            refine lv_istore (lv' := [(6, .int u9), (0, .ref (q0 0)), (1, .ref (q1 0)), (2, .int x2), (3, .int x3), (4, .int x4), (5, .int x5)]) hx hb dX7_passWeb_41 hl (by decide) rfl (fun ls hl => ?_)
            refine lv_aload_n hx hb dX7_passWeb_43 rfl (lv_at hl 1 rfl) ?_
            refine lv_aload_n hx hb dX7_passWeb_44 rfl (lv_at hl 2 rfl) ?_
            refine lv_iload_n hx hb dX7_passWeb_45 rfl (lv_at hl 3 rfl) ?_
            refine lv_iload hx hb dX7_passWeb_46 (lv_at hl 6 rfl) ?_
            refine lv_iload hx hb dX7_passWeb_48 (lv_at hl 0 rfl) ?_
            obtain ⟨u10, hc, h⟩ := bd_el h
            refine ct_iA (w1 := cw_X7 E q0 u10.2.1 ++ (cw_X3 E q1 u10.2.2)) X hP hD hS (va_runV (C := RX7) (As := [.ref (q1 0), .int x2, .int x5, .int u9]) (rest := []) ⟨hx, hb, hml, hown, hg⟩ (c_X7_touch l E q0 q1 H.size S0 S1 x2 x5 u9 u10 hc) (cwV 4 hg (gwV wm_X7_117 wi_X7_touch wsl_X7_touch wini_X7 wco_X7_touch) rfl rfl rfl (by decide +kernel) ⟨Nat.le_of_ble_eq_true rfl, Nat.le_of_ble_eq_true rfl⟩) ⟨ct_blind, ct_rv X.1 hP 0 rfl rfl, ct_preA X hP hD hS _⟩ rfl rfl hl.1 rfl (lv_room (Nat.le_of_ble_eq_true rfl)) dX7_passWeb_50 ⟨Nat.zero_le _, Nat.zero_le _⟩) (fun H locs hP hD hS => ?_)
            refine lv_if_eq (tgt := 68) hx hb dX7_passWeb_53 (by decide) (fun c11 => ?_) (fun c11 => ?_)
            · have h := it_t h c11
              obtain ⟨v12, ev12, h⟩ := lt_el h
              refine lv_iinc (v := v12) (lv' := [(5, .int v12), (6, .int u9), (0, .ref (q0 0)), (1, .ref (q1 0)), (2, .int x2), (3, .int x3), (4, .int x4)]) hx hb dX7_passWeb_68 hl (k := 6) rfl (by rw [ev12]; rfl) (by decide) rfl (fun ls hl => ?_)
              refine lv_goto (tgt := 8) hx hb dX7_passWeb_71 (by decide) ?_
              exact ih u10.2.1 u10.2.2 x3 x4 v12 _ _ _ h hP hD hS (lv_sub hl [2, 3, 4, 5, 6, 0] rfl)
            · have h := it_f h c11
              obtain ⟨v13, ev13, h⟩ := lt_el h
              refine lv_iinc (v := v13) (lv' := [(3, .int v13), (6, .int u9), (0, .ref (q0 0)), (1, .ref (q1 0)), (2, .int x2), (4, .int x4), (5, .int x5)]) hx hb dX7_passWeb_56 hl (k := 4) rfl (by rw [ev13]; rfl) (by decide) rfl (fun ls hl => ?_)
              refine lv_iload hx hb dX7_passWeb_59 (lv_at hl 5 rfl) ?_
              refine lv_iconst (v := 1) hx hb dX7_passWeb_61 (by decide) ?_
              refine lv_iload hx hb dX7_passWeb_62 (lv_at hl 1 rfl) ?_
              refine lv_ishl hx hb dX7_passWeb_64 ?_
              refine lv_ior hx hb dX7_passWeb_65 ?_
              obtain ⟨v14, ev14, h⟩ := lt_el h
              refine lv_top' ev14 ?_
              refine lv_istore (lv' := [(4, .int v14), (3, .int v13), (6, .int u9), (0, .ref (q0 0)), (1, .ref (q1 0)), (2, .int x2), (5, .int x5)]) hx hb dX7_passWeb_66 hl (by decide) rfl (fun ls hl => ?_)
              obtain ⟨v15, ev15, h⟩ := lt_el h
              refine lv_iinc (v := v15) (lv' := [(5, .int v15), (4, .int v14), (3, .int v13), (6, .int u9), (0, .ref (q0 0)), (1, .ref (q1 0)), (2, .int x2)]) hx hb dX7_passWeb_68 hl (k := 6) rfl (by rw [ev15]; rfl) (by decide) rfl (fun ls hl => ?_)
              refine lv_goto (tgt := 8) hx hb dX7_passWeb_71 (by decide) ?_
              exact ih u10.2.1 u10.2.2 v13 v14 v15 _ _ _ h hP hD hS (lv_sub hl [4, 5, 6, 2, 1, 0] rfl)
  obtain ⟨H, eH⟩ : ∃ z, z = s.heap := ⟨_, rfl⟩
  rw [← eH]
  have hP : va_P E.1 vwCl (cw_X7 E q0 S0 ++ (cw_X3 E q1 S1)) H := by rw [eH]; exact hP
  have hS : va_S A s.heap H [] := by rw [eH]; exact hS
  clear eH
  obtain ⟨locs, el⟩ : ∃ z : List Loc, z = [] := ⟨_, rfl⟩
  rw [← el] at hS ⊢
  clear el
  refine lv_iconst (v := 0) hx hb dX7_passWeb_0 (by decide) ?_
  refine lv_istore_n (lv' := [(3, .int 0), (0, .ref (q0 0)), (1, .ref (q1 0)), (2, .int x2)]) hx hb dX7_passWeb_1 rfl hl (by decide) rfl (fun ls hl => ?_)
  refine lv_iconst (v := 0) hx hb dX7_passWeb_2 (by decide) ?_
  refine lv_istore (lv' := [(4, .int 0), (3, .int 0), (0, .ref (q0 0)), (1, .ref (q1 0)), (2, .int x2)]) hx hb dX7_passWeb_3 hl (by decide) rfl (fun ls hl => ?_)
  refine lv_iconst (v := 0) hx hb dX7_passWeb_5 (by decide) ?_
  refine lv_istore (lv' := [(5, .int 0), (4, .int 0), (3, .int 0), (0, .ref (q0 0)), (1, .ref (q1 0)), (2, .int x2)]) hx hb dX7_passWeb_6 hl (by decide) rfl (fun ls hl => ?_)
  exact N8 fu S0 S1 0 0 0 _ _ _ h hP hD hS (lv_sub hl [3, 4, 5, 2, 1, 0] rfl)
theorem dX7_passHours_0 : decode cX7_passHours 0 = .ok (.iconst 0, 1) := by decide +kernel
theorem dX7_passHours_1 : decode cX7_passHours 1 = .ok (.istore_n 3, 1) := by decide +kernel
theorem dX7_passHours_2 : decode cX7_passHours 2 = .ok (.iconst 0, 1) := by decide +kernel
theorem dX7_passHours_3 : decode cX7_passHours 3 = .ok (.istore 4, 2) := by decide +kernel
theorem dX7_passHours_5 : decode cX7_passHours 5 = .ok (.iload 4, 2) := by decide +kernel
theorem dX7_passHours_7 : decode cX7_passHours 7 = .ok (.iload_n 2, 1) := by decide +kernel
theorem dX7_passHours_8 : decode cX7_passHours 8 = .ok (.if_icmp .ge 86, 3) := by decide +kernel
theorem dX7_passHours_11 : decode cX7_passHours 11 = .ok (.aload_n 0, 1) := by decide +kernel
theorem dX7_passHours_12 : decode cX7_passHours 12 = .ok (.getfield 40, 3) := by decide +kernel
theorem dX7_passHours_15 : decode cX7_passHours 15 = .ok (.sipush 9999, 3) := by decide +kernel
theorem dX7_passHours_18 : decode cX7_passHours 18 = .ok (.if_icmp .ge 76, 3) := by decide +kernel
theorem dX7_passHours_21 : decode cX7_passHours 21 = .ok (.iconst 0, 1) := by decide +kernel
theorem dX7_passHours_22 : decode cX7_passHours 22 = .ok (.istore 5, 2) := by decide +kernel
theorem dX7_passHours_24 : decode cX7_passHours 24 = .ok (.iload 5, 2) := by decide +kernel
theorem dX7_passHours_26 : decode cX7_passHours 26 = .ok (.bipush 8, 2) := by decide +kernel
theorem dX7_passHours_28 : decode cX7_passHours 28 = .ok (.if_icmp .ge 15, 3) := by decide +kernel
theorem dX7_passHours_31 : decode cX7_passHours 31 = .ok (.aload_n 0, 1) := by decide +kernel
theorem dX7_passHours_32 : decode cX7_passHours 32 = .ok (.iload 5, 2) := by decide +kernel
theorem dX7_passHours_34 : decode cX7_passHours 34 = .ok (.invokevirtual 96, 3) := by decide +kernel
theorem dX7_passHours_37 : decode cX7_passHours 37 = .ok (.iinc 5 1, 3) := by decide +kernel
theorem dX7_passHours_40 : decode cX7_passHours 40 = .ok (.goto (-16), 3) := by decide +kernel
theorem dX7_passHours_43 : decode cX7_passHours 43 = .ok (.iconst 0, 1) := by decide +kernel
theorem dX7_passHours_44 : decode cX7_passHours 44 = .ok (.istore 5, 2) := by decide +kernel
theorem dX7_passHours_46 : decode cX7_passHours 46 = .ok (.iload 5, 2) := by decide +kernel
theorem dX7_passHours_48 : decode cX7_passHours 48 = .ok (.bipush 8, 2) := by decide +kernel
theorem dX7_passHours_50 : decode cX7_passHours 50 = .ok (.if_icmp .ge 28, 3) := by decide +kernel
theorem dX7_passHours_53 : decode cX7_passHours 53 = .ok (.aload_n 0, 1) := by decide +kernel
theorem dX7_passHours_54 : decode cX7_passHours 54 = .ok (.iload 5, 2) := by decide +kernel
theorem dX7_passHours_56 : decode cX7_passHours 56 = .ok (.invokevirtual 56, 3) := by decide +kernel
theorem dX7_passHours_59 : decode cX7_passHours 59 = .ok (.ifCond .eq 13, 3) := by decide +kernel
theorem dX7_passHours_62 : decode cX7_passHours 62 = .ok (.iload_n 3, 1) := by decide +kernel
theorem dX7_passHours_63 : decode cX7_passHours 63 = .ok (.aload_n 0, 1) := by decide +kernel
theorem dX7_passHours_64 : decode cX7_passHours 64 = .ok (.aload_n 1, 1) := by decide +kernel
theorem dX7_passHours_65 : decode cX7_passHours 65 = .ok (.iload 5, 2) := by decide +kernel
theorem dX7_passHours_67 : decode cX7_passHours 67 = .ok (.invokevirtual 100, 3) := by decide +kernel
theorem dX7_passHours_70 : decode cX7_passHours 70 = .ok (.iadd, 1) := by decide +kernel
theorem dX7_passHours_71 : decode cX7_passHours 71 = .ok (.istore_n 3, 1) := by decide +kernel
theorem dX7_passHours_72 : decode cX7_passHours 72 = .ok (.iinc 5 1, 3) := by decide +kernel
theorem dX7_passHours_75 : decode cX7_passHours 75 = .ok (.goto (-29), 3) := by decide +kernel
theorem dX7_passHours_78 : decode cX7_passHours 78 = .ok (.aload_n 0, 1) := by decide +kernel
theorem dX7_passHours_79 : decode cX7_passHours 79 = .ok (.dup, 1) := by decide +kernel
theorem dX7_passHours_80 : decode cX7_passHours 80 = .ok (.getfield 40, 3) := by decide +kernel
theorem dX7_passHours_83 : decode cX7_passHours 83 = .ok (.iconst 1, 1) := by decide +kernel
theorem dX7_passHours_84 : decode cX7_passHours 84 = .ok (.iadd, 1) := by decide +kernel
theorem dX7_passHours_85 : decode cX7_passHours 85 = .ok (.putfield 40, 3) := by decide +kernel
theorem dX7_passHours_88 : decode cX7_passHours 88 = .ok (.iinc 4 1, 3) := by decide +kernel
theorem dX7_passHours_91 : decode cX7_passHours 91 = .ok (.goto (-86), 3) := by decide +kernel
theorem dX7_passHours_94 : decode cX7_passHours 94 = .ok (.iload_n 3, 1) := by decide +kernel
theorem dX7_passHours_95 : decode cX7_passHours 95 = .ok (.ireturn, 1) := by decide +kernel
def f_X7_passHours_n46 (x2 : Int32) (k5 : Gr → Gr → Int32 → Int32 → Option (Int32 × Gr × Gr)) : Nat → Gr → Gr → Int32 → Int32 → Int32 → Option (Int32 × Gr × Gr)
  | 0, _, _, _, _, _ => none
  | n + 1, S0, S1, x3, x4, x5 => if 8 ≤ x5 then (lt' (sI S0 9 ((S0.1 9) + 1)) fun S0_7 => lt' (x4 + 1) fun v8 => k5 S0_7 S1 x3 v8) else ((f_X7_hasWeb S0 x5).bind fun u9 => if u9 = 0 then (lt' (x5 + 1) fun v11 => f_X7_passHours_n46 x2 k5 n S0 S1 x3 x4 v11) else ((f_X7_passWeb S0 S1 x5).bind fun u12 => lt' ((x3 + u12.1)) fun v13 => lt' (x5 + 1) fun v14 => f_X7_passHours_n46 x2 k5 n u12.2.1 u12.2.2 v13 x4 v14))
def f_X7_passHours_n24 (x2 : Int32) (k5 : Gr → Gr → Int32 → Int32 → Option (Int32 × Gr × Gr)) : Nat → Gr → Gr → Int32 → Int32 → Int32 → Option (Int32 × Gr × Gr)
  | 0, _, _, _, _, _ => none
  | n + 1, S0, S1, x3, x4, x5 => if 8 ≤ x5 then (f_X7_passHours_n46 x2 k5 fu S0 S1 x3 x4 0) else ((f_X7_moveFleet S0 x5).bind fun u4 => lt' (x5 + 1) fun v5 => f_X7_passHours_n24 x2 k5 n u4 S1 x3 x4 v5)
def f_X7_passHours_n5 (x2 : Int32) : Nat → Gr → Gr → Int32 → Int32 → Option (Int32 × Gr × Gr)
  | 0, _, _, _, _ => none
  | n + 1, S0, S1, x3, x4 => if x2 ≤ x4 then (some (x3, S0, S1)) else (if 9999 ≤ (S0.1 9) then (some (x3, S0, S1)) else (f_X7_passHours_n24 x2 (f_X7_passHours_n5 x2 n) fu S0 S1 x3 x4 0))
def f_X7_passHours (S0 : Gr) (S1 : Gr) (x2 : Int32) : Option (Int32 × Gr × Gr) := f_X7_passHours_n5 x2 fu S0 S1 0 0
set_option maxHeartbeats 4000000 in
set_option maxRecDepth 100000 in
theorem c_X7_passHours (l : Launch) (E : Ec) (q0 q1 : Nat → Nat) (sz : Nat) (S0 : Gr) (S1 : Gr) (x2 : Int32) (Rv : Int32 × Gr × Gr) (h : f_X7_passHours S0 S1 x2 = some Rv) : Met l yX7_passHours (wsM (.code yX7_passHours cX7_passHours 6 (some .int))) ({ frames := 6, cells := 0, slots := 0, locals := 146 } : Room) (va_Pc [.ref (q0 0), .ref (q1 0), .int x2] (ctP E (cw_X7 E q0 S0 ++ (cw_X3 E q1 S1)) sz)) (ctI E (cw_X7 E q0 S0 ++ (cw_X3 E q1 S1)) (cw_X7 E q0 Rv.2.1 ++ (cw_X3 E q1 Rv.2.2)) sz Rv.1) 0 0 (va_A (cw_X7 E q0 S0 ++ (cw_X3 E q1 S1)) sz) := by
  refine ct_metI (by decide) (Nat.le_of_ble_eq_true rfl) ?_
  intro p e s m ar below meth c A QM hx hb hml hown hg X hP hD hS RET ls hl
  have hown : s.vm.findClass RX7 = some m.cls := hown
  have hl : lv_has ls 6 [(0, .ref (q0 0)), (1, .ref (q1 0)), (2, .int x2)] := hl
  have RT : ∀ (v : Int32) (S0 : Gr) (S1 : Gr) (H : Heap) (locs : List Loc) (ls : Array Slot) (pc : Nat), some (v, S0, S1) = some Rv → narrow .int (.int v) = .int v → va_P E.1 vwCl (cw_X7 E q0 S0 ++ (cw_X3 E q1 S1)) H → va_D A (cw_X7 E q0 S0 ++ (cw_X3 E q1 S1)) → va_S A s.heap H locs → decode cX7_passHours pc = .ok (.ireturn, 1) → W p l e ({ frames := 6, cells := 0, slots := 0, locals := 146 } : Room) s m ar below meth c H locs 0 0 QM (F0 m pc ls [.int v]) := by
    intro v S0 S1 H locs ls pc e hn hP hD hS d
    obtain rfl := sm_e e
    exact RET H locs pc ls hn hP hD hS d
  clear RET
  have N46 : ∀ (k5 : Gr → Gr → Int32 → Int32 → Option (Int32 × Gr × Gr)) (hk5 : ∀ (S0 : Gr) (S1 : Gr) (x3 : Int32) (x4 : Int32) (H : Heap) (locs : List Loc) (ls : Array Slot), k5 S0 S1 x3 x4 = some Rv → va_P E.1 vwCl (cw_X7 E q0 S0 ++ (cw_X3 E q1 S1)) H → va_D A (cw_X7 E q0 S0 ++ (cw_X3 E q1 S1)) → va_S A s.heap H locs → lv_has ls 6 [(0, .ref (q0 0)), (1, .ref (q1 0)), (2, .int x2), (3, .int x3), (4, .int x4)] → W p l e ({ frames := 6, cells := 0, slots := 0, locals := 146 } : Room) s m ar below meth c H locs 0 0 QM (F0 m 5 ls [])) (n : Nat) (S0 : Gr) (S1 : Gr) (x3 : Int32) (x4 : Int32) (x5 : Int32) (H : Heap) (locs : List Loc) (ls : Array Slot), f_X7_passHours_n46 x2 k5 n S0 S1 x3 x4 x5 = some Rv → va_P E.1 vwCl (cw_X7 E q0 S0 ++ (cw_X3 E q1 S1)) H → va_D A (cw_X7 E q0 S0 ++ (cw_X3 E q1 S1)) → va_S A s.heap H locs → lv_has ls 6 [(0, .ref (q0 0)), (1, .ref (q1 0)), (2, .int x2), (3, .int x3), (4, .int x4), (5, .int x5)] → W p l e ({ frames := 6, cells := 0, slots := 0, locals := 146 } : Room) s m ar below meth c H locs 0 0 QM (F0 m 46 ls []) := by
    intro k5 hk5 n
    induction n with
    | zero => intro S0 S1 x3 x4 x5 H locs ls h; exact nn_el h
    | succ n ih =>
      intro S0 S1 x3 x4 x5 H locs ls h hP hD hS hl
      refine lv_iload hx hb dX7_passHours_46 (lv_at hl 5 rfl) ?_
      refine lv_bipush (v := 8) hx hb dX7_passHours_48 (by decide) ?_
      refine lv_icmp_ge (tgt := 78) hx hb dX7_passHours_50 (by decide) (fun c6 => ?_) (fun c6 => ?_)
      · have h := it_t h c6
        refine lv_aload_n hx hb dX7_passHours_78 rfl (lv_at hl 0 rfl) ?_
        refine lv_dup hx hb dX7_passHours_79 rfl ?_
        refine va_get (D := E.1) (ci := 6) (v := .int (S0.1 9)) (C := RX7) (T := TX7) (N := 11) hx hb hg in_X7 hown X.1 hP 0 rfl rfl 9 (by decide) (hg _ wf_X7_40) (fun _ h9 => h9) rfl dX7_passHours_80 ?_
        refine lv_iconst (v := 1) hx hb dX7_passHours_83 (by decide) ?_
        refine lv_iadd hx hb dX7_passHours_84 ?_
        obtain ⟨S0_7, eS, h⟩ := lt_el h
        refine va_put (D := E.1) (ci := 6) (v := .int ((S0.1 9) + 1)) (ty := .int) (C := RX7) (T := TX7) (N := 11) hx hb hg in_X7 tyX7 tyX7_ok nmX7 hown X.1 hP hD hS 0 rfl rfl 9 (by decide) (hg _ wf_X7_40) (fun _ h9 => h9) rfl (by decide +kernel) rfl rfl (Nat.le_of_ble_eq_true rfl) dX7_passHours_85 (fun H locs hP hD hS => ?_)
        have hP : va_P E.1 vwCl (cw_X7 E q0 S0_7 ++ (cw_X3 E q1 S1)) H := by rw [eS]; exact hP
        have hD : va_D A (cw_X7 E q0 S0_7 ++ (cw_X3 E q1 S1)) := by rw [eS]; exact hD
        clear eS
        obtain ⟨v8, ev8, h⟩ := lt_el h
        refine lv_iinc (v := v8) (lv' := [(4, .int v8), (0, .ref (q0 0)), (1, .ref (q1 0)), (2, .int x2), (3, .int x3), (5, .int x5)]) hx hb dX7_passHours_88 hl (k := 4) rfl (by rw [ev8]; rfl) (by decide) rfl (fun ls hl => ?_)
        refine lv_goto (tgt := 5) hx hb dX7_passHours_91 (by decide) ?_
        exact hk5 S0_7 S1 x3 v8 _ _ _ h hP hD hS (lv_sub hl [1, 2, 3, 4, 0] rfl)
      · have h := it_f h c6
        refine lv_aload_n hx hb dX7_passHours_53 rfl (lv_at hl 0 rfl) ?_
        refine lv_iload hx hb dX7_passHours_54 (lv_at hl 5 rfl) ?_
        obtain ⟨u9, hc, h⟩ := bd_el h
        have hC : ([0, 1, 2, 3, 4, 5, 6, 7] : List Nat).map (fun i => (cw_X7 E q0 S0 ++ (cw_X3 E q1 S1))[i]?) = (cw_X7 E q0 S0).map some := rfl
        refine ct_iR X hP hD hS [0, 1, 2, 3, 4, 5, 6, 7] hC (va_runV (C := RX7) (As := [.int x5]) (rest := []) ⟨hx, hb, hml, hown, hg⟩ (c_X7_hasWeb l E q0 H.size S0 x5 u9 hc) (cwV 1 hg (gwV wm_X7_56 wi_X7_hasWeb wsl_X7_hasWeb wini_X7 wco_X7_hasWeb) rfl rfl rfl (by decide +kernel) ⟨Nat.le_of_ble_eq_true rfl, Nat.le_of_ble_eq_true rfl⟩) ⟨ct_blind, ct_rv X.1 hP 0 rfl rfl, ct_pre X hP hD hS [0, 1, 2, 3, 4, 5, 6, 7] (by decide) hC _⟩ rfl rfl hl.1 rfl (lv_room (Nat.le_of_ble_eq_true rfl)) dX7_passHours_56 ⟨Nat.zero_le _, Nat.zero_le _⟩) (fun H locs hP hD hS => ?_)
        clear hC
        refine lv_if_eq (tgt := 72) hx hb dX7_passHours_59 (by decide) (fun c10 => ?_) (fun c10 => ?_)
        · have h := it_t h c10
          obtain ⟨v11, ev11, h⟩ := lt_el h
          refine lv_iinc (v := v11) (lv' := [(5, .int v11), (0, .ref (q0 0)), (1, .ref (q1 0)), (2, .int x2), (3, .int x3), (4, .int x4)]) hx hb dX7_passHours_72 hl (k := 5) rfl (by rw [ev11]; rfl) (by decide) rfl (fun ls hl => ?_)
          refine lv_goto (tgt := 46) hx hb dX7_passHours_75 (by decide) ?_
          exact ih S0 S1 x3 x4 v11 _ _ _ h hP hD hS (lv_sub hl [1, 2, 3, 4, 5, 0] rfl)
        · have h := it_f h c10
          refine lv_iload_n hx hb dX7_passHours_62 rfl (lv_at hl 3 rfl) ?_
          refine lv_aload_n hx hb dX7_passHours_63 rfl (lv_at hl 0 rfl) ?_
          refine lv_aload_n hx hb dX7_passHours_64 rfl (lv_at hl 1 rfl) ?_
          refine lv_iload hx hb dX7_passHours_65 (lv_at hl 5 rfl) ?_
          obtain ⟨u12, hc, h⟩ := bd_el h
          refine ct_iA (w1 := cw_X7 E q0 u12.2.1 ++ (cw_X3 E q1 u12.2.2)) X hP hD hS (va_runV (C := RX7) (As := [.ref (q1 0), .int x5]) (rest := [.int x3]) ⟨hx, hb, hml, hown, hg⟩ (c_X7_passWeb l E q0 q1 H.size S0 S1 x5 u12 hc) (cwV 2 hg (gwV wm_X7_100 wi_X7_passWeb wsl_X7_passWeb wini_X7 wco_X7_passWeb) rfl rfl rfl (by decide +kernel) ⟨Nat.le_of_ble_eq_true rfl, Nat.le_of_ble_eq_true rfl⟩) ⟨ct_blind, ct_rv X.1 hP 0 rfl rfl, ct_preA X hP hD hS _⟩ rfl rfl hl.1 rfl (lv_room (Nat.le_of_ble_eq_true rfl)) dX7_passHours_67 ⟨Nat.zero_le _, Nat.zero_le _⟩) (fun H locs hP hD hS => ?_)
          refine lv_iadd hx hb dX7_passHours_70 ?_
          obtain ⟨v13, ev13, h⟩ := lt_el h
          refine lv_top' ev13 ?_
          refine lv_istore_n (lv' := [(3, .int v13), (0, .ref (q0 0)), (1, .ref (q1 0)), (2, .int x2), (4, .int x4), (5, .int x5)]) hx hb dX7_passHours_71 rfl hl (by decide) rfl (fun ls hl => ?_)
          obtain ⟨v14, ev14, h⟩ := lt_el h
          refine lv_iinc (v := v14) (lv' := [(5, .int v14), (3, .int v13), (0, .ref (q0 0)), (1, .ref (q1 0)), (2, .int x2), (4, .int x4)]) hx hb dX7_passHours_72 hl (k := 5) rfl (by rw [ev14]; rfl) (by decide) rfl (fun ls hl => ?_)
          refine lv_goto (tgt := 46) hx hb dX7_passHours_75 (by decide) ?_
          exact ih u12.2.1 u12.2.2 v13 x4 v14 _ _ _ h hP hD hS (lv_sub hl [2, 3, 4, 1, 5, 0] rfl)
  have N24 : ∀ (k5 : Gr → Gr → Int32 → Int32 → Option (Int32 × Gr × Gr)) (hk5 : ∀ (S0 : Gr) (S1 : Gr) (x3 : Int32) (x4 : Int32) (H : Heap) (locs : List Loc) (ls : Array Slot), k5 S0 S1 x3 x4 = some Rv → va_P E.1 vwCl (cw_X7 E q0 S0 ++ (cw_X3 E q1 S1)) H → va_D A (cw_X7 E q0 S0 ++ (cw_X3 E q1 S1)) → va_S A s.heap H locs → lv_has ls 6 [(0, .ref (q0 0)), (1, .ref (q1 0)), (2, .int x2), (3, .int x3), (4, .int x4)] → W p l e ({ frames := 6, cells := 0, slots := 0, locals := 146 } : Room) s m ar below meth c H locs 0 0 QM (F0 m 5 ls [])) (n : Nat) (S0 : Gr) (S1 : Gr) (x3 : Int32) (x4 : Int32) (x5 : Int32) (H : Heap) (locs : List Loc) (ls : Array Slot), f_X7_passHours_n24 x2 k5 n S0 S1 x3 x4 x5 = some Rv → va_P E.1 vwCl (cw_X7 E q0 S0 ++ (cw_X3 E q1 S1)) H → va_D A (cw_X7 E q0 S0 ++ (cw_X3 E q1 S1)) → va_S A s.heap H locs → lv_has ls 6 [(0, .ref (q0 0)), (1, .ref (q1 0)), (2, .int x2), (3, .int x3), (4, .int x4), (5, .int x5)] → W p l e ({ frames := 6, cells := 0, slots := 0, locals := 146 } : Room) s m ar below meth c H locs 0 0 QM (F0 m 24 ls []) := by
    intro k5 hk5 n
    induction n with
    | zero => intro S0 S1 x3 x4 x5 H locs ls h; exact nn_el h
    | succ n ih =>
      intro S0 S1 x3 x4 x5 H locs ls h hP hD hS hl
      refine lv_iload hx hb dX7_passHours_24 (lv_at hl 5 rfl) ?_
      refine lv_bipush (v := 8) hx hb dX7_passHours_26 (by decide) ?_
      refine lv_icmp_ge (tgt := 43) hx hb dX7_passHours_28 (by decide) (fun c3 => ?_) (fun c3 => ?_)
      · have h := it_t h c3
        refine lv_iconst (v := 0) hx hb dX7_passHours_43 (by decide) ?_
        refine lv_istore (lv' := [(5, .int 0), (0, .ref (q0 0)), (1, .ref (q1 0)), (2, .int x2), (3, .int x3), (4, .int x4)]) hx hb dX7_passHours_44 hl (by decide) rfl (fun ls hl => ?_)
        exact N46 k5 hk5 fu S0 S1 x3 x4 0 _ _ _ h hP hD hS (lv_sub hl [1, 2, 3, 4, 5, 0] rfl)
      · have h := it_f h c3
        refine lv_aload_n hx hb dX7_passHours_31 rfl (lv_at hl 0 rfl) ?_
        refine lv_iload hx hb dX7_passHours_32 (lv_at hl 5 rfl) ?_
        obtain ⟨u4, hc, h⟩ := bd_el h
        have hC : ([0, 1, 2, 3, 4, 5, 6, 7] : List Nat).map (fun i => (cw_X7 E q0 S0 ++ (cw_X3 E q1 S1))[i]?) = (cw_X7 E q0 S0).map some := rfl
        refine ct_v (ws' := cw_X7 E q0 u4 ++ (cw_X3 E q1 S1)) X hP hD hS [0, 1, 2, 3, 4, 5, 6, 7] (va_runV (C := RX7) (As := [.int x5]) (rest := []) ⟨hx, hb, hml, hown, hg⟩ (c_X7_moveFleet l E q0 H.size S0 x5 u4 hc) (cwV 1 hg (gwV wm_X7_96 wi_X7_moveFleet wsl_X7_moveFleet wini_X7 wco_X7_moveFleet) rfl rfl rfl (by decide +kernel) ⟨Nat.le_of_ble_eq_true rfl, Nat.le_of_ble_eq_true rfl⟩) ⟨ct_blind, ct_rv X.1 hP 0 rfl rfl, ct_pre X hP hD hS [0, 1, 2, 3, 4, 5, 6, 7] (by decide) hC _⟩ rfl rfl hl.1 rfl (lv_room (Nat.le_of_ble_eq_true rfl)) dX7_passHours_34 ⟨Nat.zero_le _, Nat.zero_le _⟩) hC rfl rfl (fun H locs hP hD hS => ?_)
        clear hC
        obtain ⟨v5, ev5, h⟩ := lt_el h
        refine lv_iinc (v := v5) (lv' := [(5, .int v5), (0, .ref (q0 0)), (1, .ref (q1 0)), (2, .int x2), (3, .int x3), (4, .int x4)]) hx hb dX7_passHours_37 hl (k := 5) rfl (by rw [ev5]; rfl) (by decide) rfl (fun ls hl => ?_)
        refine lv_goto (tgt := 24) hx hb dX7_passHours_40 (by decide) ?_
        exact ih u4 S1 x3 x4 v5 _ _ _ h hP hD hS (lv_sub hl [1, 2, 3, 4, 5, 0] rfl)
  have N5 : ∀ (n : Nat) (S0 : Gr) (S1 : Gr) (x3 : Int32) (x4 : Int32) (H : Heap) (locs : List Loc) (ls : Array Slot), f_X7_passHours_n5 x2 n S0 S1 x3 x4 = some Rv → va_P E.1 vwCl (cw_X7 E q0 S0 ++ (cw_X3 E q1 S1)) H → va_D A (cw_X7 E q0 S0 ++ (cw_X3 E q1 S1)) → va_S A s.heap H locs → lv_has ls 6 [(0, .ref (q0 0)), (1, .ref (q1 0)), (2, .int x2), (3, .int x3), (4, .int x4)] → W p l e ({ frames := 6, cells := 0, slots := 0, locals := 146 } : Room) s m ar below meth c H locs 0 0 QM (F0 m 5 ls []) := by
    intro n
    induction n with
    | zero => intro S0 S1 x3 x4 H locs ls h; exact nn_el h
    | succ n ih =>
      intro S0 S1 x3 x4 H locs ls h hP hD hS hl
      refine lv_iload hx hb dX7_passHours_5 (lv_at hl 4 rfl) ?_
      refine lv_iload_n hx hb dX7_passHours_7 rfl (lv_at hl 2 rfl) ?_
      refine lv_icmp_ge (tgt := 94) hx hb dX7_passHours_8 (by decide) (fun c1 => ?_) (fun c1 => ?_)
      · have h := it_t h c1
        refine lv_iload_n hx hb dX7_passHours_94 rfl (lv_at hl 3 rfl) ?_
        exact RT x3 S0 S1 _ _ _ _ h rfl hP hD hS dX7_passHours_95
      · have h := it_f h c1
        refine lv_aload_n hx hb dX7_passHours_11 rfl (lv_at hl 0 rfl) ?_
        refine va_get (D := E.1) (ci := 6) (v := .int (S0.1 9)) (C := RX7) (T := TX7) (N := 11) hx hb hg in_X7 hown X.1 hP 0 rfl rfl 9 (by decide) (hg _ wf_X7_40) (fun _ h9 => h9) rfl dX7_passHours_12 ?_
        refine lv_sipush (v := 9999) hx hb dX7_passHours_15 (by decide) ?_
        refine lv_icmp_ge (tgt := 94) hx hb dX7_passHours_18 (by decide) (fun c2 => ?_) (fun c2 => ?_)
        · have h := it_t h c2
          refine lv_iload_n hx hb dX7_passHours_94 rfl (lv_at hl 3 rfl) ?_
          exact RT x3 S0 S1 _ _ _ _ h rfl hP hD hS dX7_passHours_95
        · have h := it_f h c2
          refine lv_iconst (v := 0) hx hb dX7_passHours_21 (by decide) ?_
          refine lv_istore (lv' := [(5, .int 0), (0, .ref (q0 0)), (1, .ref (q1 0)), (2, .int x2), (3, .int x3), (4, .int x4)]) hx hb dX7_passHours_22 hl (by decide) rfl (fun ls hl => ?_)
          exact N24 (f_X7_passHours_n5 x2 n) ih fu S0 S1 x3 x4 0 _ _ _ h hP hD hS (lv_sub hl [1, 2, 3, 4, 5, 0] rfl)
  obtain ⟨H, eH⟩ : ∃ z, z = s.heap := ⟨_, rfl⟩
  rw [← eH]
  have hP : va_P E.1 vwCl (cw_X7 E q0 S0 ++ (cw_X3 E q1 S1)) H := by rw [eH]; exact hP
  have hS : va_S A s.heap H [] := by rw [eH]; exact hS
  clear eH
  obtain ⟨locs, el⟩ : ∃ z : List Loc, z = [] := ⟨_, rfl⟩
  rw [← el] at hS ⊢
  clear el
  refine lv_iconst (v := 0) hx hb dX7_passHours_0 (by decide) ?_
  refine lv_istore_n (lv' := [(3, .int 0), (0, .ref (q0 0)), (1, .ref (q1 0)), (2, .int x2)]) hx hb dX7_passHours_1 rfl hl (by decide) rfl (fun ls hl => ?_)
  refine lv_iconst (v := 0) hx hb dX7_passHours_2 (by decide) ?_
  refine lv_istore (lv' := [(4, .int 0), (3, .int 0), (0, .ref (q0 0)), (1, .ref (q1 0)), (2, .int x2)]) hx hb dX7_passHours_3 hl (by decide) rfl (fun ls hl => ?_)
  exact N5 fu S0 S1 0 0 _ _ _ h hP hD hS (lv_sub hl [2, 3, 4, 1, 0] rfl)
theorem dX7_copyFrom_0 : decode cX7_copyFrom 0 = .ok (.aload_n 0, 1) := by decide +kernel
theorem dX7_copyFrom_1 : decode cX7_copyFrom 1 = .ok (.aload_n 1, 1) := by decide +kernel
theorem dX7_copyFrom_2 : decode cX7_copyFrom 2 = .ok (.getfield 9, 3) := by decide +kernel
theorem dX7_copyFrom_5 : decode cX7_copyFrom 5 = .ok (.putfield 9, 3) := by decide +kernel
theorem dX7_copyFrom_8 : decode cX7_copyFrom 8 = .ok (.aload_n 0, 1) := by decide +kernel
theorem dX7_copyFrom_9 : decode cX7_copyFrom 9 = .ok (.aload_n 1, 1) := by decide +kernel
theorem dX7_copyFrom_10 : decode cX7_copyFrom 10 = .ok (.getfield 15, 3) := by decide +kernel
theorem dX7_copyFrom_13 : decode cX7_copyFrom 13 = .ok (.putfield 15, 3) := by decide +kernel
theorem dX7_copyFrom_16 : decode cX7_copyFrom 16 = .ok (.aload_n 1, 1) := by decide +kernel
theorem dX7_copyFrom_17 : decode cX7_copyFrom 17 = .ok (.getfield 18, 3) := by decide +kernel
theorem dX7_copyFrom_20 : decode cX7_copyFrom 20 = .ok (.iconst 0, 1) := by decide +kernel
theorem dX7_copyFrom_21 : decode cX7_copyFrom 21 = .ok (.aload_n 0, 1) := by decide +kernel
theorem dX7_copyFrom_22 : decode cX7_copyFrom 22 = .ok (.getfield 18, 3) := by decide +kernel
theorem dX7_copyFrom_25 : decode cX7_copyFrom 25 = .ok (.iconst 0, 1) := by decide +kernel
theorem dX7_copyFrom_26 : decode cX7_copyFrom 26 = .ok (.bipush 8, 2) := by decide +kernel
theorem dX7_copyFrom_28 : decode cX7_copyFrom 28 = .ok (.invokestatic 50, 3) := by decide +kernel
theorem dX7_copyFrom_31 : decode cX7_copyFrom 31 = .ok (.aload_n 1, 1) := by decide +kernel
theorem dX7_copyFrom_32 : decode cX7_copyFrom 32 = .ok (.getfield 22, 3) := by decide +kernel
theorem dX7_copyFrom_35 : decode cX7_copyFrom 35 = .ok (.iconst 0, 1) := by decide +kernel
theorem dX7_copyFrom_36 : decode cX7_copyFrom 36 = .ok (.aload_n 0, 1) := by decide +kernel
theorem dX7_copyFrom_37 : decode cX7_copyFrom 37 = .ok (.getfield 22, 3) := by decide +kernel
theorem dX7_copyFrom_40 : decode cX7_copyFrom 40 = .ok (.iconst 0, 1) := by decide +kernel
theorem dX7_copyFrom_41 : decode cX7_copyFrom 41 = .ok (.bipush 8, 2) := by decide +kernel
theorem dX7_copyFrom_43 : decode cX7_copyFrom 43 = .ok (.invokestatic 50, 3) := by decide +kernel
theorem dX7_copyFrom_46 : decode cX7_copyFrom 46 = .ok (.aload_n 1, 1) := by decide +kernel
theorem dX7_copyFrom_47 : decode cX7_copyFrom 47 = .ok (.getfield 25, 3) := by decide +kernel
theorem dX7_copyFrom_50 : decode cX7_copyFrom 50 = .ok (.iconst 0, 1) := by decide +kernel
theorem dX7_copyFrom_51 : decode cX7_copyFrom 51 = .ok (.aload_n 0, 1) := by decide +kernel
theorem dX7_copyFrom_52 : decode cX7_copyFrom 52 = .ok (.getfield 25, 3) := by decide +kernel
theorem dX7_copyFrom_55 : decode cX7_copyFrom 55 = .ok (.iconst 0, 1) := by decide +kernel
theorem dX7_copyFrom_56 : decode cX7_copyFrom 56 = .ok (.bipush 64, 2) := by decide +kernel
theorem dX7_copyFrom_58 : decode cX7_copyFrom 58 = .ok (.invokestatic 50, 3) := by decide +kernel
theorem dX7_copyFrom_61 : decode cX7_copyFrom 61 = .ok (.aload_n 1, 1) := by decide +kernel
theorem dX7_copyFrom_62 : decode cX7_copyFrom 62 = .ok (.getfield 28, 3) := by decide +kernel
theorem dX7_copyFrom_65 : decode cX7_copyFrom 65 = .ok (.iconst 0, 1) := by decide +kernel
theorem dX7_copyFrom_66 : decode cX7_copyFrom 66 = .ok (.aload_n 0, 1) := by decide +kernel
theorem dX7_copyFrom_67 : decode cX7_copyFrom 67 = .ok (.getfield 28, 3) := by decide +kernel
theorem dX7_copyFrom_70 : decode cX7_copyFrom 70 = .ok (.iconst 0, 1) := by decide +kernel
theorem dX7_copyFrom_71 : decode cX7_copyFrom 71 = .ok (.bipush 8, 2) := by decide +kernel
theorem dX7_copyFrom_73 : decode cX7_copyFrom 73 = .ok (.invokestatic 50, 3) := by decide +kernel
theorem dX7_copyFrom_76 : decode cX7_copyFrom 76 = .ok (.aload_n 1, 1) := by decide +kernel
theorem dX7_copyFrom_77 : decode cX7_copyFrom 77 = .ok (.getfield 31, 3) := by decide +kernel
theorem dX7_copyFrom_80 : decode cX7_copyFrom 80 = .ok (.iconst 0, 1) := by decide +kernel
theorem dX7_copyFrom_81 : decode cX7_copyFrom 81 = .ok (.aload_n 0, 1) := by decide +kernel
theorem dX7_copyFrom_82 : decode cX7_copyFrom 82 = .ok (.getfield 31, 3) := by decide +kernel
theorem dX7_copyFrom_85 : decode cX7_copyFrom 85 = .ok (.iconst 0, 1) := by decide +kernel
theorem dX7_copyFrom_86 : decode cX7_copyFrom 86 = .ok (.bipush 8, 2) := by decide +kernel
theorem dX7_copyFrom_88 : decode cX7_copyFrom 88 = .ok (.invokestatic 50, 3) := by decide +kernel
theorem dX7_copyFrom_91 : decode cX7_copyFrom 91 = .ok (.aload_n 1, 1) := by decide +kernel
theorem dX7_copyFrom_92 : decode cX7_copyFrom 92 = .ok (.getfield 34, 3) := by decide +kernel
theorem dX7_copyFrom_95 : decode cX7_copyFrom 95 = .ok (.iconst 0, 1) := by decide +kernel
theorem dX7_copyFrom_96 : decode cX7_copyFrom 96 = .ok (.aload_n 0, 1) := by decide +kernel
theorem dX7_copyFrom_97 : decode cX7_copyFrom 97 = .ok (.getfield 34, 3) := by decide +kernel
theorem dX7_copyFrom_100 : decode cX7_copyFrom 100 = .ok (.iconst 0, 1) := by decide +kernel
theorem dX7_copyFrom_101 : decode cX7_copyFrom 101 = .ok (.bipush 8, 2) := by decide +kernel
theorem dX7_copyFrom_103 : decode cX7_copyFrom 103 = .ok (.invokestatic 50, 3) := by decide +kernel
theorem dX7_copyFrom_106 : decode cX7_copyFrom 106 = .ok (.aload_n 1, 1) := by decide +kernel
theorem dX7_copyFrom_107 : decode cX7_copyFrom 107 = .ok (.getfield 37, 3) := by decide +kernel
theorem dX7_copyFrom_110 : decode cX7_copyFrom 110 = .ok (.iconst 0, 1) := by decide +kernel
theorem dX7_copyFrom_111 : decode cX7_copyFrom 111 = .ok (.aload_n 0, 1) := by decide +kernel
theorem dX7_copyFrom_112 : decode cX7_copyFrom 112 = .ok (.getfield 37, 3) := by decide +kernel
theorem dX7_copyFrom_115 : decode cX7_copyFrom 115 = .ok (.iconst 0, 1) := by decide +kernel
theorem dX7_copyFrom_116 : decode cX7_copyFrom 116 = .ok (.bipush 8, 2) := by decide +kernel
theorem dX7_copyFrom_118 : decode cX7_copyFrom 118 = .ok (.invokestatic 50, 3) := by decide +kernel
theorem dX7_copyFrom_121 : decode cX7_copyFrom 121 = .ok (.aload_n 0, 1) := by decide +kernel
theorem dX7_copyFrom_122 : decode cX7_copyFrom 122 = .ok (.aload_n 1, 1) := by decide +kernel
theorem dX7_copyFrom_123 : decode cX7_copyFrom 123 = .ok (.getfield 40, 3) := by decide +kernel
theorem dX7_copyFrom_126 : decode cX7_copyFrom 126 = .ok (.putfield 40, 3) := by decide +kernel
theorem dX7_copyFrom_129 : decode cX7_copyFrom 129 = .ok (.aload_n 0, 1) := by decide +kernel
theorem dX7_copyFrom_130 : decode cX7_copyFrom 130 = .ok (.aload_n 1, 1) := by decide +kernel
theorem dX7_copyFrom_131 : decode cX7_copyFrom 131 = .ok (.getfield 43, 3) := by decide +kernel
theorem dX7_copyFrom_134 : decode cX7_copyFrom 134 = .ok (.putfield 43, 3) := by decide +kernel
theorem dX7_copyFrom_137 : decode cX7_copyFrom 137 = .ok (.return_, 1) := by decide +kernel
def f_X7_copyFrom (S0 : Gr) (S1 : Gr) : Option (Gr) := lt' (sI S0 0 (S1.1 0)) fun S0_1 => lt' (sI S0_1 1 (S1.1 1)) fun S0_2 => cp' 0 0 8 8 8 (lt' (sR S0_2 2 (va_cpy (S1.2 2) (S0_2.2 2) (Int32.toNatClampNeg 0) (Int32.toNatClampNeg 0) (Int32.toNatClampNeg 8))) fun S0_3 => cp' 0 0 8 8 8 (lt' (sR S0_3 3 (va_cpy (S1.2 3) (S0_3.2 3) (Int32.toNatClampNeg 0) (Int32.toNatClampNeg 0) (Int32.toNatClampNeg 8))) fun S0_4 => cp' 0 0 64 64 64 (lt' (sR S0_4 4 (va_cpy (S1.2 4) (S0_4.2 4) (Int32.toNatClampNeg 0) (Int32.toNatClampNeg 0) (Int32.toNatClampNeg 64))) fun S0_5 => cp' 0 0 8 8 8 (lt' (sR S0_5 5 (va_cpy (S1.2 5) (S0_5.2 5) (Int32.toNatClampNeg 0) (Int32.toNatClampNeg 0) (Int32.toNatClampNeg 8))) fun S0_6 => cp' 0 0 8 8 8 (lt' (sR S0_6 6 (va_cpy (S1.2 6) (S0_6.2 6) (Int32.toNatClampNeg 0) (Int32.toNatClampNeg 0) (Int32.toNatClampNeg 8))) fun S0_7 => cp' 0 0 8 8 8 (lt' (sR S0_7 7 (va_cpy (S1.2 7) (S0_7.2 7) (Int32.toNatClampNeg 0) (Int32.toNatClampNeg 0) (Int32.toNatClampNeg 8))) fun S0_8 => cp' 0 0 8 8 8 (lt' (sR S0_8 8 (va_cpy (S1.2 8) (S0_8.2 8) (Int32.toNatClampNeg 0) (Int32.toNatClampNeg 0) (Int32.toNatClampNeg 8))) fun S0_9 => lt' (sI S0_9 9 (S1.1 9)) fun S0_10 => lt' (sI S0_10 10 (S1.1 10)) fun S0_11 => some S0_11)))))))
set_option maxHeartbeats 4000000 in
set_option maxRecDepth 100000 in
theorem c_X7_copyFrom (l : Launch) (E : Ec) (q0 q1 : Nat → Nat) (sz : Nat) (S0 : Gr) (S1 : Gr) (Rv : Gr) (h : f_X7_copyFrom S0 S1 = some Rv) : Met l yX7_copyFrom (wsM (.code yX7_copyFrom cX7_copyFrom 2 none)) ({ frames := 1, cells := 0, slots := 0, locals := 60 } : Room) (va_Pc [.ref (q0 0), .ref (q1 0)] (ctP E (cw_X7 E q0 S0 ++ (cw_X7 E q1 S1)) sz)) (ctV E (cw_X7 E q0 S0 ++ (cw_X7 E q1 S1)) (cw_X7 E q0 Rv ++ (cw_X7 E q1 S1)) sz) 0 0 (va_A (cw_X7 E q0 S0 ++ (cw_X7 E q1 S1)) sz) := by
  refine ct_metV (by decide) (Nat.le_of_ble_eq_true rfl) ?_
  intro p e s m ar below meth c A QM hx hb hml hown hg X hP hD hS RET ls hl
  have hown : s.vm.findClass RX7 = some m.cls := hown
  have hl : lv_has ls 2 [(0, .ref (q0 0)), (1, .ref (q1 0))] := hl
  have RT : ∀ (S0 : Gr) (H : Heap) (locs : List Loc) (ls : Array Slot) (pc : Nat), some S0 = some Rv → va_P E.1 vwCl (cw_X7 E q0 S0 ++ (cw_X7 E q1 S1)) H → va_D A (cw_X7 E q0 S0 ++ (cw_X7 E q1 S1)) → va_S A s.heap H locs → decode cX7_copyFrom pc = .ok (.return_, 1) → W p l e ({ frames := 1, cells := 0, slots := 0, locals := 60 } : Room) s m ar below meth c H locs 0 0 QM (F0 m pc ls []) := by
    intro S0 H locs ls pc e hP hD hS d
    obtain rfl := sm_e e
    exact RET H locs pc ls hP hD hS d
  clear RET
  obtain ⟨H, eH⟩ : ∃ z, z = s.heap := ⟨_, rfl⟩
  rw [← eH]
  have hP : va_P E.1 vwCl (cw_X7 E q0 S0 ++ (cw_X7 E q1 S1)) H := by rw [eH]; exact hP
  have hS : va_S A s.heap H [] := by rw [eH]; exact hS
  clear eH
  obtain ⟨locs, el⟩ : ∃ z : List Loc, z = [] := ⟨_, rfl⟩
  rw [← el] at hS ⊢
  clear el
  refine lv_aload_n hx hb dX7_copyFrom_0 rfl (lv_at hl 0 rfl) ?_
  refine lv_aload_n hx hb dX7_copyFrom_1 rfl (lv_at hl 1 rfl) ?_
  refine va_get (D := E.1) (ci := 6) (v := .int (S1.1 0)) (C := RX7) (T := TX7) (N := 11) hx hb hg in_X7 hown X.1 hP 8 rfl rfl 0 (by decide) (hg _ wf_X7_9) (fun _ h9 => h9) rfl dX7_copyFrom_2 ?_
  obtain ⟨S0_1, eS, h⟩ := lt_el h
  refine va_put (D := E.1) (ci := 6) (v := .int (S1.1 0)) (ty := .int) (C := RX7) (T := TX7) (N := 11) hx hb hg in_X7 tyX7 tyX7_ok nmX7 hown X.1 hP hD hS 0 rfl rfl 0 (by decide) (hg _ wf_X7_9) (fun _ h9 => h9) rfl (by decide +kernel) rfl rfl (Nat.le_of_ble_eq_true rfl) dX7_copyFrom_5 (fun H locs hP hD hS => ?_)
  have hP : va_P E.1 vwCl (cw_X7 E q0 S0_1 ++ (cw_X7 E q1 S1)) H := by rw [eS]; exact hP
  have hD : va_D A (cw_X7 E q0 S0_1 ++ (cw_X7 E q1 S1)) := by rw [eS]; exact hD
  clear eS
  refine lv_aload_n hx hb dX7_copyFrom_8 rfl (lv_at hl 0 rfl) ?_
  refine lv_aload_n hx hb dX7_copyFrom_9 rfl (lv_at hl 1 rfl) ?_
  refine va_get (D := E.1) (ci := 6) (v := .int (S1.1 1)) (C := RX7) (T := TX7) (N := 11) hx hb hg in_X7 hown X.1 hP 8 rfl rfl 1 (by decide) (hg _ wf_X7_15) (fun _ h9 => h9) rfl dX7_copyFrom_10 ?_
  obtain ⟨S0_2, eS, h⟩ := lt_el h
  refine va_put (D := E.1) (ci := 6) (v := .int (S1.1 1)) (ty := .int) (C := RX7) (T := TX7) (N := 11) hx hb hg in_X7 tyX7 tyX7_ok nmX7 hown X.1 hP hD hS 0 rfl rfl 1 (by decide) (hg _ wf_X7_15) (fun _ h9 => h9) rfl (by decide +kernel) rfl rfl (Nat.le_of_ble_eq_true rfl) dX7_copyFrom_13 (fun H locs hP hD hS => ?_)
  have hP : va_P E.1 vwCl (cw_X7 E q0 S0_2 ++ (cw_X7 E q1 S1)) H := by rw [eS]; exact hP
  have hD : va_D A (cw_X7 E q0 S0_2 ++ (cw_X7 E q1 S1)) := by rw [eS]; exact hD
  clear eS
  refine lv_aload_n hx hb dX7_copyFrom_16 rfl (lv_at hl 1 rfl) ?_
  refine va_get (D := E.1) (ci := 6) (v := .ref (q1 1)) (C := RX7) (T := TX7) (N := 11) hx hb hg in_X7 hown X.1 hP 8 rfl rfl 2 (by decide) (hg _ wf_X7_18) (fun _ h9 => h9) rfl dX7_copyFrom_17 ?_
  refine lv_iconst (v := 0) hx hb dX7_copyFrom_20 (by decide) ?_
  refine lv_aload_n hx hb dX7_copyFrom_21 rfl (lv_at hl 0 rfl) ?_
  refine va_get (D := E.1) (ci := 6) (v := .ref (q0 1)) (C := RX7) (T := TX7) (N := 11) hx hb hg in_X7 hown X.1 hP 0 rfl rfl 2 (by decide) (hg _ wf_X7_18) (fun _ h9 => h9) rfl dX7_copyFrom_22 ?_
  refine lv_iconst (v := 0) hx hb dX7_copyFrom_25 (by decide) ?_
  refine lv_bipush (v := 8) hx hb dX7_copyFrom_26 (by decide) ?_
  obtain ⟨h1, h2, h3, h4, h5, h⟩ := cp_el h
  obtain ⟨S0_3, eS, h⟩ := lt_el h
  refine va_copyi (ty := .int) hx hb (hml.trans hl.1.symm) hown (hg _ wm_X7_50) (hg _ wnat_arraycopy) (hg _ wst_arraycopy) (hg _ wini_J10) X.1 hP hD hS 9 1 0 0 rfl rfl rfl rfl rfl h1 h2 h3 h4 h5 (fun _ _ => rfl) (Nat.le_of_ble_eq_true rfl) (Nat.le_of_ble_eq_true rfl) dX7_copyFrom_28 (fun H locs hP hD hS => ?_)
  have hP : va_P E.1 vwCl (cw_X7 E q0 S0_3 ++ (cw_X7 E q1 S1)) H := by rw [eS]; exact hP
  have hD : va_D A (cw_X7 E q0 S0_3 ++ (cw_X7 E q1 S1)) := by rw [eS]; exact hD
  clear eS
  refine lv_aload_n hx hb dX7_copyFrom_31 rfl (lv_at hl 1 rfl) ?_
  refine va_get (D := E.1) (ci := 6) (v := .ref (q1 2)) (C := RX7) (T := TX7) (N := 11) hx hb hg in_X7 hown X.1 hP 8 rfl rfl 3 (by decide) (hg _ wf_X7_22) (fun _ h9 => h9) rfl dX7_copyFrom_32 ?_
  refine lv_iconst (v := 0) hx hb dX7_copyFrom_35 (by decide) ?_
  refine lv_aload_n hx hb dX7_copyFrom_36 rfl (lv_at hl 0 rfl) ?_
  refine va_get (D := E.1) (ci := 6) (v := .ref (q0 2)) (C := RX7) (T := TX7) (N := 11) hx hb hg in_X7 hown X.1 hP 0 rfl rfl 3 (by decide) (hg _ wf_X7_22) (fun _ h9 => h9) rfl dX7_copyFrom_37 ?_
  refine lv_iconst (v := 0) hx hb dX7_copyFrom_40 (by decide) ?_
  refine lv_bipush (v := 8) hx hb dX7_copyFrom_41 (by decide) ?_
  obtain ⟨h1, h2, h3, h4, h5, h⟩ := cp_el h
  obtain ⟨S0_4, eS, h⟩ := lt_el h
  refine va_copyi (ty := .int) hx hb (hml.trans hl.1.symm) hown (hg _ wm_X7_50) (hg _ wnat_arraycopy) (hg _ wst_arraycopy) (hg _ wini_J10) X.1 hP hD hS 10 2 0 0 rfl rfl rfl rfl rfl h1 h2 h3 h4 h5 (fun _ _ => rfl) (Nat.le_of_ble_eq_true rfl) (Nat.le_of_ble_eq_true rfl) dX7_copyFrom_43 (fun H locs hP hD hS => ?_)
  have hP : va_P E.1 vwCl (cw_X7 E q0 S0_4 ++ (cw_X7 E q1 S1)) H := by rw [eS]; exact hP
  have hD : va_D A (cw_X7 E q0 S0_4 ++ (cw_X7 E q1 S1)) := by rw [eS]; exact hD
  clear eS
  refine lv_aload_n hx hb dX7_copyFrom_46 rfl (lv_at hl 1 rfl) ?_
  refine va_get (D := E.1) (ci := 6) (v := .ref (q1 3)) (C := RX7) (T := TX7) (N := 11) hx hb hg in_X7 hown X.1 hP 8 rfl rfl 4 (by decide) (hg _ wf_X7_25) (fun _ h9 => h9) rfl dX7_copyFrom_47 ?_
  refine lv_iconst (v := 0) hx hb dX7_copyFrom_50 (by decide) ?_
  refine lv_aload_n hx hb dX7_copyFrom_51 rfl (lv_at hl 0 rfl) ?_
  refine va_get (D := E.1) (ci := 6) (v := .ref (q0 3)) (C := RX7) (T := TX7) (N := 11) hx hb hg in_X7 hown X.1 hP 0 rfl rfl 4 (by decide) (hg _ wf_X7_25) (fun _ h9 => h9) rfl dX7_copyFrom_52 ?_
  refine lv_iconst (v := 0) hx hb dX7_copyFrom_55 (by decide) ?_
  refine lv_bipush (v := 64) hx hb dX7_copyFrom_56 (by decide) ?_
  obtain ⟨h1, h2, h3, h4, h5, h⟩ := cp_el h
  obtain ⟨S0_5, eS, h⟩ := lt_el h
  refine va_copyi (ty := .int) hx hb (hml.trans hl.1.symm) hown (hg _ wm_X7_50) (hg _ wnat_arraycopy) (hg _ wst_arraycopy) (hg _ wini_J10) X.1 hP hD hS 11 3 0 0 rfl rfl rfl rfl rfl h1 h2 h3 h4 h5 (fun _ _ => rfl) (Nat.le_of_ble_eq_true rfl) (Nat.le_of_ble_eq_true rfl) dX7_copyFrom_58 (fun H locs hP hD hS => ?_)
  have hP : va_P E.1 vwCl (cw_X7 E q0 S0_5 ++ (cw_X7 E q1 S1)) H := by rw [eS]; exact hP
  have hD : va_D A (cw_X7 E q0 S0_5 ++ (cw_X7 E q1 S1)) := by rw [eS]; exact hD
  clear eS
  refine lv_aload_n hx hb dX7_copyFrom_61 rfl (lv_at hl 1 rfl) ?_
  refine va_get (D := E.1) (ci := 6) (v := .ref (q1 4)) (C := RX7) (T := TX7) (N := 11) hx hb hg in_X7 hown X.1 hP 8 rfl rfl 5 (by decide) (hg _ wf_X7_28) (fun _ h9 => h9) rfl dX7_copyFrom_62 ?_
  refine lv_iconst (v := 0) hx hb dX7_copyFrom_65 (by decide) ?_
  refine lv_aload_n hx hb dX7_copyFrom_66 rfl (lv_at hl 0 rfl) ?_
  refine va_get (D := E.1) (ci := 6) (v := .ref (q0 4)) (C := RX7) (T := TX7) (N := 11) hx hb hg in_X7 hown X.1 hP 0 rfl rfl 5 (by decide) (hg _ wf_X7_28) (fun _ h9 => h9) rfl dX7_copyFrom_67 ?_
  refine lv_iconst (v := 0) hx hb dX7_copyFrom_70 (by decide) ?_
  refine lv_bipush (v := 8) hx hb dX7_copyFrom_71 (by decide) ?_
  obtain ⟨h1, h2, h3, h4, h5, h⟩ := cp_el h
  obtain ⟨S0_6, eS, h⟩ := lt_el h
  refine va_copyi (ty := .int) hx hb (hml.trans hl.1.symm) hown (hg _ wm_X7_50) (hg _ wnat_arraycopy) (hg _ wst_arraycopy) (hg _ wini_J10) X.1 hP hD hS 12 4 0 0 rfl rfl rfl rfl rfl h1 h2 h3 h4 h5 (fun _ _ => rfl) (Nat.le_of_ble_eq_true rfl) (Nat.le_of_ble_eq_true rfl) dX7_copyFrom_73 (fun H locs hP hD hS => ?_)
  have hP : va_P E.1 vwCl (cw_X7 E q0 S0_6 ++ (cw_X7 E q1 S1)) H := by rw [eS]; exact hP
  have hD : va_D A (cw_X7 E q0 S0_6 ++ (cw_X7 E q1 S1)) := by rw [eS]; exact hD
  clear eS
  refine lv_aload_n hx hb dX7_copyFrom_76 rfl (lv_at hl 1 rfl) ?_
  refine va_get (D := E.1) (ci := 6) (v := .ref (q1 5)) (C := RX7) (T := TX7) (N := 11) hx hb hg in_X7 hown X.1 hP 8 rfl rfl 6 (by decide) (hg _ wf_X7_31) (fun _ h9 => h9) rfl dX7_copyFrom_77 ?_
  refine lv_iconst (v := 0) hx hb dX7_copyFrom_80 (by decide) ?_
  refine lv_aload_n hx hb dX7_copyFrom_81 rfl (lv_at hl 0 rfl) ?_
  refine va_get (D := E.1) (ci := 6) (v := .ref (q0 5)) (C := RX7) (T := TX7) (N := 11) hx hb hg in_X7 hown X.1 hP 0 rfl rfl 6 (by decide) (hg _ wf_X7_31) (fun _ h9 => h9) rfl dX7_copyFrom_82 ?_
  refine lv_iconst (v := 0) hx hb dX7_copyFrom_85 (by decide) ?_
  refine lv_bipush (v := 8) hx hb dX7_copyFrom_86 (by decide) ?_
  obtain ⟨h1, h2, h3, h4, h5, h⟩ := cp_el h
  obtain ⟨S0_7, eS, h⟩ := lt_el h
  refine va_copyi (ty := .int) hx hb (hml.trans hl.1.symm) hown (hg _ wm_X7_50) (hg _ wnat_arraycopy) (hg _ wst_arraycopy) (hg _ wini_J10) X.1 hP hD hS 13 5 0 0 rfl rfl rfl rfl rfl h1 h2 h3 h4 h5 (fun _ _ => rfl) (Nat.le_of_ble_eq_true rfl) (Nat.le_of_ble_eq_true rfl) dX7_copyFrom_88 (fun H locs hP hD hS => ?_)
  have hP : va_P E.1 vwCl (cw_X7 E q0 S0_7 ++ (cw_X7 E q1 S1)) H := by rw [eS]; exact hP
  have hD : va_D A (cw_X7 E q0 S0_7 ++ (cw_X7 E q1 S1)) := by rw [eS]; exact hD
  clear eS
  refine lv_aload_n hx hb dX7_copyFrom_91 rfl (lv_at hl 1 rfl) ?_
  refine va_get (D := E.1) (ci := 6) (v := .ref (q1 6)) (C := RX7) (T := TX7) (N := 11) hx hb hg in_X7 hown X.1 hP 8 rfl rfl 7 (by decide) (hg _ wf_X7_34) (fun _ h9 => h9) rfl dX7_copyFrom_92 ?_
  refine lv_iconst (v := 0) hx hb dX7_copyFrom_95 (by decide) ?_
  refine lv_aload_n hx hb dX7_copyFrom_96 rfl (lv_at hl 0 rfl) ?_
  refine va_get (D := E.1) (ci := 6) (v := .ref (q0 6)) (C := RX7) (T := TX7) (N := 11) hx hb hg in_X7 hown X.1 hP 0 rfl rfl 7 (by decide) (hg _ wf_X7_34) (fun _ h9 => h9) rfl dX7_copyFrom_97 ?_
  refine lv_iconst (v := 0) hx hb dX7_copyFrom_100 (by decide) ?_
  refine lv_bipush (v := 8) hx hb dX7_copyFrom_101 (by decide) ?_
  obtain ⟨h1, h2, h3, h4, h5, h⟩ := cp_el h
  obtain ⟨S0_8, eS, h⟩ := lt_el h
  refine va_copyi (ty := .int) hx hb (hml.trans hl.1.symm) hown (hg _ wm_X7_50) (hg _ wnat_arraycopy) (hg _ wst_arraycopy) (hg _ wini_J10) X.1 hP hD hS 14 6 0 0 rfl rfl rfl rfl rfl h1 h2 h3 h4 h5 (fun _ _ => rfl) (Nat.le_of_ble_eq_true rfl) (Nat.le_of_ble_eq_true rfl) dX7_copyFrom_103 (fun H locs hP hD hS => ?_)
  have hP : va_P E.1 vwCl (cw_X7 E q0 S0_8 ++ (cw_X7 E q1 S1)) H := by rw [eS]; exact hP
  have hD : va_D A (cw_X7 E q0 S0_8 ++ (cw_X7 E q1 S1)) := by rw [eS]; exact hD
  clear eS
  refine lv_aload_n hx hb dX7_copyFrom_106 rfl (lv_at hl 1 rfl) ?_
  refine va_get (D := E.1) (ci := 6) (v := .ref (q1 7)) (C := RX7) (T := TX7) (N := 11) hx hb hg in_X7 hown X.1 hP 8 rfl rfl 8 (by decide) (hg _ wf_X7_37) (fun _ h9 => h9) rfl dX7_copyFrom_107 ?_
  refine lv_iconst (v := 0) hx hb dX7_copyFrom_110 (by decide) ?_
  refine lv_aload_n hx hb dX7_copyFrom_111 rfl (lv_at hl 0 rfl) ?_
  refine va_get (D := E.1) (ci := 6) (v := .ref (q0 7)) (C := RX7) (T := TX7) (N := 11) hx hb hg in_X7 hown X.1 hP 0 rfl rfl 8 (by decide) (hg _ wf_X7_37) (fun _ h9 => h9) rfl dX7_copyFrom_112 ?_
  refine lv_iconst (v := 0) hx hb dX7_copyFrom_115 (by decide) ?_
  refine lv_bipush (v := 8) hx hb dX7_copyFrom_116 (by decide) ?_
  obtain ⟨h1, h2, h3, h4, h5, h⟩ := cp_el h
  obtain ⟨S0_9, eS, h⟩ := lt_el h
  refine va_copyi (ty := .int) hx hb (hml.trans hl.1.symm) hown (hg _ wm_X7_50) (hg _ wnat_arraycopy) (hg _ wst_arraycopy) (hg _ wini_J10) X.1 hP hD hS 15 7 0 0 rfl rfl rfl rfl rfl h1 h2 h3 h4 h5 (fun _ _ => rfl) (Nat.le_of_ble_eq_true rfl) (Nat.le_of_ble_eq_true rfl) dX7_copyFrom_118 (fun H locs hP hD hS => ?_)
  have hP : va_P E.1 vwCl (cw_X7 E q0 S0_9 ++ (cw_X7 E q1 S1)) H := by rw [eS]; exact hP
  have hD : va_D A (cw_X7 E q0 S0_9 ++ (cw_X7 E q1 S1)) := by rw [eS]; exact hD
  clear eS
  refine lv_aload_n hx hb dX7_copyFrom_121 rfl (lv_at hl 0 rfl) ?_
  refine lv_aload_n hx hb dX7_copyFrom_122 rfl (lv_at hl 1 rfl) ?_
  refine va_get (D := E.1) (ci := 6) (v := .int (S1.1 9)) (C := RX7) (T := TX7) (N := 11) hx hb hg in_X7 hown X.1 hP 8 rfl rfl 9 (by decide) (hg _ wf_X7_40) (fun _ h9 => h9) rfl dX7_copyFrom_123 ?_
  obtain ⟨S0_10, eS, h⟩ := lt_el h
  refine va_put (D := E.1) (ci := 6) (v := .int (S1.1 9)) (ty := .int) (C := RX7) (T := TX7) (N := 11) hx hb hg in_X7 tyX7 tyX7_ok nmX7 hown X.1 hP hD hS 0 rfl rfl 9 (by decide) (hg _ wf_X7_40) (fun _ h9 => h9) rfl (by decide +kernel) rfl rfl (Nat.le_of_ble_eq_true rfl) dX7_copyFrom_126 (fun H locs hP hD hS => ?_)
  have hP : va_P E.1 vwCl (cw_X7 E q0 S0_10 ++ (cw_X7 E q1 S1)) H := by rw [eS]; exact hP
  have hD : va_D A (cw_X7 E q0 S0_10 ++ (cw_X7 E q1 S1)) := by rw [eS]; exact hD
  clear eS
  refine lv_aload_n hx hb dX7_copyFrom_129 rfl (lv_at hl 0 rfl) ?_
  refine lv_aload_n hx hb dX7_copyFrom_130 rfl (lv_at hl 1 rfl) ?_
  refine va_get (D := E.1) (ci := 6) (v := .int (S1.1 10)) (C := RX7) (T := TX7) (N := 11) hx hb hg in_X7 hown X.1 hP 8 rfl rfl 10 (by decide) (hg _ wf_X7_43) (fun _ h9 => h9) rfl dX7_copyFrom_131 ?_
  obtain ⟨S0_11, eS, h⟩ := lt_el h
  refine va_put (D := E.1) (ci := 6) (v := .int (S1.1 10)) (ty := .int) (C := RX7) (T := TX7) (N := 11) hx hb hg in_X7 tyX7 tyX7_ok nmX7 hown X.1 hP hD hS 0 rfl rfl 10 (by decide) (hg _ wf_X7_43) (fun _ h9 => h9) rfl (by decide +kernel) rfl rfl (Nat.le_of_ble_eq_true rfl) dX7_copyFrom_134 (fun H locs hP hD hS => ?_)
  have hP : va_P E.1 vwCl (cw_X7 E q0 S0_11 ++ (cw_X7 E q1 S1)) H := by rw [eS]; exact hP
  have hD : va_D A (cw_X7 E q0 S0_11 ++ (cw_X7 E q1 S1)) := by rw [eS]; exact hD
  clear eS
  exact RT S0_11 _ _ _ _ h hP hD hS dX7_copyFrom_137
theorem dX7_allSlackSpokes_0 : decode cX7_allSlackSpokes 0 = .ok (.iconst 0, 1) := by decide +kernel
theorem dX7_allSlackSpokes_1 : decode cX7_allSlackSpokes 1 = .ok (.istore_n 1, 1) := by decide +kernel
theorem dX7_allSlackSpokes_2 : decode cX7_allSlackSpokes 2 = .ok (.iconst 0, 1) := by decide +kernel
theorem dX7_allSlackSpokes_3 : decode cX7_allSlackSpokes 3 = .ok (.istore_n 2, 1) := by decide +kernel
theorem dX7_allSlackSpokes_4 : decode cX7_allSlackSpokes 4 = .ok (.iload_n 2, 1) := by decide +kernel
theorem dX7_allSlackSpokes_5 : decode cX7_allSlackSpokes 5 = .ok (.bipush 8, 2) := by decide +kernel
theorem dX7_allSlackSpokes_7 : decode cX7_allSlackSpokes 7 = .ok (.if_icmp .ge 17, 3) := by decide +kernel
theorem dX7_allSlackSpokes_10 : decode cX7_allSlackSpokes 10 = .ok (.iload_n 1, 1) := by decide +kernel
theorem dX7_allSlackSpokes_11 : decode cX7_allSlackSpokes 11 = .ok (.aload_n 0, 1) := by decide +kernel
theorem dX7_allSlackSpokes_12 : decode cX7_allSlackSpokes 12 = .ok (.iload_n 2, 1) := by decide +kernel
theorem dX7_allSlackSpokes_13 : decode cX7_allSlackSpokes 13 = .ok (.invokevirtual 78, 3) := by decide +kernel
theorem dX7_allSlackSpokes_16 : decode cX7_allSlackSpokes 16 = .ok (.iadd, 1) := by decide +kernel
theorem dX7_allSlackSpokes_17 : decode cX7_allSlackSpokes 17 = .ok (.istore_n 1, 1) := by decide +kernel
theorem dX7_allSlackSpokes_18 : decode cX7_allSlackSpokes 18 = .ok (.iinc 2 1, 3) := by decide +kernel
theorem dX7_allSlackSpokes_21 : decode cX7_allSlackSpokes 21 = .ok (.goto (-17), 3) := by decide +kernel
theorem dX7_allSlackSpokes_24 : decode cX7_allSlackSpokes 24 = .ok (.iload_n 1, 1) := by decide +kernel
theorem dX7_allSlackSpokes_25 : decode cX7_allSlackSpokes 25 = .ok (.ireturn, 1) := by decide +kernel
def f_X7_allSlackSpokes_n4 (S0 : Gr) : Nat → Int32 → Int32 → Option (Int32)
  | 0, _, _ => none
  | n + 1, x1, x2 => if 8 ≤ x2 then (some x1) else ((f_X7_slackSpokes S0 x2).bind fun u2 => lt' ((x1 + u2)) fun v3 => lt' (x2 + 1) fun v4 => f_X7_allSlackSpokes_n4 S0 n v3 v4)
def f_X7_allSlackSpokes (S0 : Gr) : Option (Int32) := f_X7_allSlackSpokes_n4 S0 fu 0 0
set_option maxHeartbeats 4000000 in
set_option maxRecDepth 100000 in
theorem c_X7_allSlackSpokes (l : Launch) (E : Ec) (q0 : Nat → Nat) (sz : Nat) (S0 : Gr) (Rv : Int32) (h : f_X7_allSlackSpokes S0 = some Rv) : Met l yX7_allSlackSpokes (wsM (.code yX7_allSlackSpokes cX7_allSlackSpokes 3 (some .int))) ({ frames := 3, cells := 0, slots := 0, locals := 65 } : Room) (va_Pc [.ref (q0 0)] (ctP E (cw_X7 E q0 S0) sz)) (ctI E (cw_X7 E q0 S0) (cw_X7 E q0 S0) sz Rv) 0 0 (va_A (cw_X7 E q0 S0) sz) := by
  refine ct_metI (by decide) (Nat.le_of_ble_eq_true rfl) ?_
  intro p e s m ar below meth c A QM hx hb hml hown hg X hP hD hS RET ls hl
  have hown : s.vm.findClass RX7 = some m.cls := hown
  have hl : lv_has ls 3 [(0, .ref (q0 0))] := hl
  have RT : ∀ (v : Int32) (H : Heap) (locs : List Loc) (ls : Array Slot) (pc : Nat), some v = some Rv → narrow .int (.int v) = .int v → va_P E.1 vwCl (cw_X7 E q0 S0) H → va_D A (cw_X7 E q0 S0) → va_S A s.heap H locs → decode cX7_allSlackSpokes pc = .ok (.ireturn, 1) → W p l e ({ frames := 3, cells := 0, slots := 0, locals := 65 } : Room) s m ar below meth c H locs 0 0 QM (F0 m pc ls [.int v]) := by
    intro v H locs ls pc e hn hP hD hS d
    obtain rfl := sm_e e
    exact RET H locs pc ls hn hP hD hS d
  clear RET
  have N4 : ∀ (n : Nat) (x1 : Int32) (x2 : Int32) (H : Heap) (locs : List Loc) (ls : Array Slot), f_X7_allSlackSpokes_n4 S0 n x1 x2 = some Rv → va_P E.1 vwCl (cw_X7 E q0 S0) H → va_D A (cw_X7 E q0 S0) → va_S A s.heap H locs → lv_has ls 3 [(0, .ref (q0 0)), (1, .int x1), (2, .int x2)] → W p l e ({ frames := 3, cells := 0, slots := 0, locals := 65 } : Room) s m ar below meth c H locs 0 0 QM (F0 m 4 ls []) := by
    intro n
    induction n with
    | zero => intro x1 x2 H locs ls h; exact nn_el h
    | succ n ih =>
      intro x1 x2 H locs ls h hP hD hS hl
      refine lv_iload_n hx hb dX7_allSlackSpokes_4 rfl (lv_at hl 2 rfl) ?_
      refine lv_bipush (v := 8) hx hb dX7_allSlackSpokes_5 (by decide) ?_
      refine lv_icmp_ge (tgt := 24) hx hb dX7_allSlackSpokes_7 (by decide) (fun c1 => ?_) (fun c1 => ?_)
      · have h := it_t h c1
        refine lv_iload_n hx hb dX7_allSlackSpokes_24 rfl (lv_at hl 1 rfl) ?_
        exact RT x1 _ _ _ _ h rfl hP hD hS dX7_allSlackSpokes_25
      · have h := it_f h c1
        refine lv_iload_n hx hb dX7_allSlackSpokes_10 rfl (lv_at hl 1 rfl) ?_
        refine lv_aload_n hx hb dX7_allSlackSpokes_11 rfl (lv_at hl 0 rfl) ?_
        refine lv_iload_n hx hb dX7_allSlackSpokes_12 rfl (lv_at hl 2 rfl) ?_
        obtain ⟨u2, hc, h⟩ := bd_el h
        refine ct_iA (w1 := cw_X7 E q0 S0) X hP hD hS (va_runV (C := RX7) (As := [.int x2]) (rest := [.int x1]) ⟨hx, hb, hml, hown, hg⟩ (c_X7_slackSpokes l E q0 H.size S0 x2 u2 hc) (cwV 1 hg (gwV wm_X7_78 wi_X7_slackSpokes wsl_X7_slackSpokes wini_X7 wco_X7_slackSpokes) rfl rfl rfl (by decide +kernel) ⟨Nat.le_of_ble_eq_true rfl, Nat.le_of_ble_eq_true rfl⟩) ⟨ct_blind, ct_rv X.1 hP 0 rfl rfl, ct_preA X hP hD hS _⟩ rfl rfl hl.1 rfl (lv_room (Nat.le_of_ble_eq_true rfl)) dX7_allSlackSpokes_13 ⟨Nat.zero_le _, Nat.zero_le _⟩) (fun H locs hP hD hS => ?_)
        refine lv_iadd hx hb dX7_allSlackSpokes_16 ?_
        obtain ⟨v3, ev3, h⟩ := lt_el h
        refine lv_top' ev3 ?_
        refine lv_istore_n (lv' := [(1, .int v3), (0, .ref (q0 0)), (2, .int x2)]) hx hb dX7_allSlackSpokes_17 rfl hl (by decide) rfl (fun ls hl => ?_)
        obtain ⟨v4, ev4, h⟩ := lt_el h
        refine lv_iinc (v := v4) (lv' := [(2, .int v4), (1, .int v3), (0, .ref (q0 0))]) hx hb dX7_allSlackSpokes_18 hl (k := 2) rfl (by rw [ev4]; rfl) (by decide) rfl (fun ls hl => ?_)
        refine lv_goto (tgt := 4) hx hb dX7_allSlackSpokes_21 (by decide) ?_
        exact ih v3 v4 _ _ _ h hP hD hS (lv_sub hl [2, 1, 0] rfl)
  obtain ⟨H, eH⟩ : ∃ z, z = s.heap := ⟨_, rfl⟩
  rw [← eH]
  have hP : va_P E.1 vwCl (cw_X7 E q0 S0) H := by rw [eH]; exact hP
  have hS : va_S A s.heap H [] := by rw [eH]; exact hS
  clear eH
  obtain ⟨locs, el⟩ : ∃ z : List Loc, z = [] := ⟨_, rfl⟩
  rw [← el] at hS ⊢
  clear el
  refine lv_iconst (v := 0) hx hb dX7_allSlackSpokes_0 (by decide) ?_
  refine lv_istore_n (lv' := [(1, .int 0), (0, .ref (q0 0))]) hx hb dX7_allSlackSpokes_1 rfl hl (by decide) rfl (fun ls hl => ?_)
  refine lv_iconst (v := 0) hx hb dX7_allSlackSpokes_2 (by decide) ?_
  refine lv_istore_n (lv' := [(2, .int 0), (1, .int 0), (0, .ref (q0 0))]) hx hb dX7_allSlackSpokes_3 rfl hl (by decide) rfl (fun ls hl => ?_)
  exact N4 fu 0 0 _ _ _ h hP hD hS (lv_sub hl [2, 1, 0] rfl)
theorem dX7_takeBack_0 : decode cX7_takeBack 0 = .ok (.iconst 0, 1) := by decide +kernel
theorem dX7_takeBack_1 : decode cX7_takeBack 1 = .ok (.istore_n 2, 1) := by decide +kernel
theorem dX7_takeBack_2 : decode cX7_takeBack 2 = .ok (.iload_n 2, 1) := by decide +kernel
theorem dX7_takeBack_3 : decode cX7_takeBack 3 = .ok (.bipush 8, 2) := by decide +kernel
theorem dX7_takeBack_5 : decode cX7_takeBack 5 = .ok (.if_icmp .ge 38, 3) := by decide +kernel
theorem dX7_takeBack_8 : decode cX7_takeBack 8 = .ok (.aload_n 1, 1) := by decide +kernel
theorem dX7_takeBack_9 : decode cX7_takeBack 9 = .ok (.iload_n 2, 1) := by decide +kernel
theorem dX7_takeBack_10 : decode cX7_takeBack 10 = .ok (.invokevirtual 56, 3) := by decide +kernel
theorem dX7_takeBack_13 : decode cX7_takeBack 13 = .ok (.ifCond .eq 24, 3) := by decide +kernel
theorem dX7_takeBack_16 : decode cX7_takeBack 16 = .ok (.aload_n 1, 1) := by decide +kernel
theorem dX7_takeBack_17 : decode cX7_takeBack 17 = .ok (.getfield 25, 3) := by decide +kernel
theorem dX7_takeBack_20 : decode cX7_takeBack 20 = .ok (.iload_n 2, 1) := by decide +kernel
theorem dX7_takeBack_21 : decode cX7_takeBack 21 = .ok (.bipush 8, 2) := by decide +kernel
theorem dX7_takeBack_23 : decode cX7_takeBack 23 = .ok (.imul, 1) := by decide +kernel
theorem dX7_takeBack_24 : decode cX7_takeBack 24 = .ok (.aload_n 0, 1) := by decide +kernel
theorem dX7_takeBack_25 : decode cX7_takeBack 25 = .ok (.getfield 25, 3) := by decide +kernel
theorem dX7_takeBack_28 : decode cX7_takeBack 28 = .ok (.iload_n 2, 1) := by decide +kernel
theorem dX7_takeBack_29 : decode cX7_takeBack 29 = .ok (.bipush 8, 2) := by decide +kernel
theorem dX7_takeBack_31 : decode cX7_takeBack 31 = .ok (.imul, 1) := by decide +kernel
theorem dX7_takeBack_32 : decode cX7_takeBack 32 = .ok (.bipush 8, 2) := by decide +kernel
theorem dX7_takeBack_34 : decode cX7_takeBack 34 = .ok (.invokestatic 50, 3) := by decide +kernel
theorem dX7_takeBack_37 : decode cX7_takeBack 37 = .ok (.iinc 2 1, 3) := by decide +kernel
theorem dX7_takeBack_40 : decode cX7_takeBack 40 = .ok (.goto (-38), 3) := by decide +kernel
theorem dX7_takeBack_43 : decode cX7_takeBack 43 = .ok (.iconst 0, 1) := by decide +kernel
theorem dX7_takeBack_44 : decode cX7_takeBack 44 = .ok (.istore_n 2, 1) := by decide +kernel
theorem dX7_takeBack_45 : decode cX7_takeBack 45 = .ok (.iload_n 2, 1) := by decide +kernel
theorem dX7_takeBack_46 : decode cX7_takeBack 46 = .ok (.bipush 8, 2) := by decide +kernel
theorem dX7_takeBack_48 : decode cX7_takeBack 48 = .ok (.if_icmp .ge 53, 3) := by decide +kernel
theorem dX7_takeBack_51 : decode cX7_takeBack 51 = .ok (.aload_n 1, 1) := by decide +kernel
theorem dX7_takeBack_52 : decode cX7_takeBack 52 = .ok (.iload_n 2, 1) := by decide +kernel
theorem dX7_takeBack_53 : decode cX7_takeBack 53 = .ok (.invokevirtual 60, 3) := by decide +kernel
theorem dX7_takeBack_56 : decode cX7_takeBack 56 = .ok (.ifCond .eq 39, 3) := by decide +kernel
theorem dX7_takeBack_59 : decode cX7_takeBack 59 = .ok (.aload_n 0, 1) := by decide +kernel
theorem dX7_takeBack_60 : decode cX7_takeBack 60 = .ok (.getfield 28, 3) := by decide +kernel
theorem dX7_takeBack_63 : decode cX7_takeBack 63 = .ok (.iload_n 2, 1) := by decide +kernel
theorem dX7_takeBack_64 : decode cX7_takeBack 64 = .ok (.aload_n 1, 1) := by decide +kernel
theorem dX7_takeBack_65 : decode cX7_takeBack 65 = .ok (.getfield 28, 3) := by decide +kernel
theorem dX7_takeBack_68 : decode cX7_takeBack 68 = .ok (.iload_n 2, 1) := by decide +kernel
theorem dX7_takeBack_69 : decode cX7_takeBack 69 = .ok (.iaload, 1) := by decide +kernel
theorem dX7_takeBack_70 : decode cX7_takeBack 70 = .ok (.iastore, 1) := by decide +kernel
theorem dX7_takeBack_71 : decode cX7_takeBack 71 = .ok (.aload_n 0, 1) := by decide +kernel
theorem dX7_takeBack_72 : decode cX7_takeBack 72 = .ok (.getfield 31, 3) := by decide +kernel
theorem dX7_takeBack_75 : decode cX7_takeBack 75 = .ok (.iload_n 2, 1) := by decide +kernel
theorem dX7_takeBack_76 : decode cX7_takeBack 76 = .ok (.aload_n 1, 1) := by decide +kernel
theorem dX7_takeBack_77 : decode cX7_takeBack 77 = .ok (.getfield 31, 3) := by decide +kernel
theorem dX7_takeBack_80 : decode cX7_takeBack 80 = .ok (.iload_n 2, 1) := by decide +kernel
theorem dX7_takeBack_81 : decode cX7_takeBack 81 = .ok (.iaload, 1) := by decide +kernel
theorem dX7_takeBack_82 : decode cX7_takeBack 82 = .ok (.iastore, 1) := by decide +kernel
theorem dX7_takeBack_83 : decode cX7_takeBack 83 = .ok (.aload_n 0, 1) := by decide +kernel
theorem dX7_takeBack_84 : decode cX7_takeBack 84 = .ok (.getfield 37, 3) := by decide +kernel
theorem dX7_takeBack_87 : decode cX7_takeBack 87 = .ok (.iload_n 2, 1) := by decide +kernel
theorem dX7_takeBack_88 : decode cX7_takeBack 88 = .ok (.aload_n 1, 1) := by decide +kernel
theorem dX7_takeBack_89 : decode cX7_takeBack 89 = .ok (.getfield 37, 3) := by decide +kernel
theorem dX7_takeBack_92 : decode cX7_takeBack 92 = .ok (.iload_n 2, 1) := by decide +kernel
theorem dX7_takeBack_93 : decode cX7_takeBack 93 = .ok (.iaload, 1) := by decide +kernel
theorem dX7_takeBack_94 : decode cX7_takeBack 94 = .ok (.iastore, 1) := by decide +kernel
theorem dX7_takeBack_95 : decode cX7_takeBack 95 = .ok (.iinc 2 1, 3) := by decide +kernel
theorem dX7_takeBack_98 : decode cX7_takeBack 98 = .ok (.goto (-53), 3) := by decide +kernel
theorem dX7_takeBack_101 : decode cX7_takeBack 101 = .ok (.aload_n 0, 1) := by decide +kernel
theorem dX7_takeBack_102 : decode cX7_takeBack 102 = .ok (.aload_n 1, 1) := by decide +kernel
theorem dX7_takeBack_103 : decode cX7_takeBack 103 = .ok (.getfield 40, 3) := by decide +kernel
theorem dX7_takeBack_106 : decode cX7_takeBack 106 = .ok (.putfield 40, 3) := by decide +kernel
theorem dX7_takeBack_109 : decode cX7_takeBack 109 = .ok (.aload_n 0, 1) := by decide +kernel
theorem dX7_takeBack_110 : decode cX7_takeBack 110 = .ok (.aload_n 1, 1) := by decide +kernel
theorem dX7_takeBack_111 : decode cX7_takeBack 111 = .ok (.getfield 43, 3) := by decide +kernel
theorem dX7_takeBack_114 : decode cX7_takeBack 114 = .ok (.putfield 43, 3) := by decide +kernel
theorem dX7_takeBack_117 : decode cX7_takeBack 117 = .ok (.return_, 1) := by decide +kernel
def f_X7_takeBack_n45 (S1 : Gr) : Nat → Gr → Int32 → Option (Gr)
  | 0, _, _ => none
  | n + 1, S0, x2 => if 8 ≤ x2 then (lt' (sI S0 9 (S1.1 9)) fun S0_8 => lt' (sI S0_8 10 (S1.1 10)) fun S0_9 => some S0_9) else ((f_X7_hasFleet S1 x2).bind fun u10 => if u10 = 0 then (lt' (x2 + 1) fun v12 => f_X7_takeBack_n45 S1 n S0 v12) else (rd' (S1.2 5) 8 x2 fun v13 => ck' 8 x2 (lt' (sA S0 5 (Int32.toNatClampNeg x2) v13) fun S0_14 => rd' (S1.2 6) 8 x2 fun v15 => ck' 8 x2 (lt' (sA S0_14 6 (Int32.toNatClampNeg x2) v15) fun S0_16 => rd' (S1.2 8) 8 x2 fun v17 => ck' 8 x2 (lt' (sA S0_16 8 (Int32.toNatClampNeg x2) v17) fun S0_18 => lt' (x2 + 1) fun v19 => f_X7_takeBack_n45 S1 n S0_18 v19)))))
def f_X7_takeBack_n2 (S1 : Gr) : Nat → Gr → Int32 → Option (Gr)
  | 0, _, _ => none
  | n + 1, S0, x2 => if 8 ≤ x2 then (f_X7_takeBack_n45 S1 fu S0 0) else ((f_X7_hasWeb S1 x2).bind fun u2 => if u2 = 0 then (lt' (x2 + 1) fun v4 => f_X7_takeBack_n2 S1 n S0 v4) else (cp' (x2 * 8) (x2 * 8) 8 64 64 (lt' (sR S0 4 (va_cpy (S1.2 4) (S0.2 4) (Int32.toNatClampNeg (x2 * 8)) (Int32.toNatClampNeg (x2 * 8)) (Int32.toNatClampNeg 8))) fun S0_5 => lt' (x2 + 1) fun v6 => f_X7_takeBack_n2 S1 n S0_5 v6)))
def f_X7_takeBack (S0 : Gr) (S1 : Gr) : Option (Gr) := f_X7_takeBack_n2 S1 fu S0 0
set_option maxHeartbeats 4000000 in
set_option maxRecDepth 100000 in
theorem c_X7_takeBack (l : Launch) (E : Ec) (q0 q1 : Nat → Nat) (sz : Nat) (S0 : Gr) (S1 : Gr) (Rv : Gr) (h : f_X7_takeBack S0 S1 = some Rv) : Met l yX7_takeBack (wsM (.code yX7_takeBack cX7_takeBack 3 none)) ({ frames := 1, cells := 0, slots := 0, locals := 60 } : Room) (va_Pc [.ref (q0 0), .ref (q1 0)] (ctP E (cw_X7 E q0 S0 ++ (cw_X7 E q1 S1)) sz)) (ctV E (cw_X7 E q0 S0 ++ (cw_X7 E q1 S1)) (cw_X7 E q0 Rv ++ (cw_X7 E q1 S1)) sz) 0 0 (va_A (cw_X7 E q0 S0 ++ (cw_X7 E q1 S1)) sz) := by
  refine ct_metV (by decide) (Nat.le_of_ble_eq_true rfl) ?_
  intro p e s m ar below meth c A QM hx hb hml hown hg X hP hD hS RET ls hl
  have hown : s.vm.findClass RX7 = some m.cls := hown
  have hl : lv_has ls 3 [(0, .ref (q0 0)), (1, .ref (q1 0))] := hl
  have RT : ∀ (S0 : Gr) (H : Heap) (locs : List Loc) (ls : Array Slot) (pc : Nat), some S0 = some Rv → va_P E.1 vwCl (cw_X7 E q0 S0 ++ (cw_X7 E q1 S1)) H → va_D A (cw_X7 E q0 S0 ++ (cw_X7 E q1 S1)) → va_S A s.heap H locs → decode cX7_takeBack pc = .ok (.return_, 1) → W p l e ({ frames := 1, cells := 0, slots := 0, locals := 60 } : Room) s m ar below meth c H locs 0 0 QM (F0 m pc ls []) := by
    intro S0 H locs ls pc e hP hD hS d
    obtain rfl := sm_e e
    exact RET H locs pc ls hP hD hS d
  clear RET
  have N45 : ∀ (n : Nat) (S0 : Gr) (x2 : Int32) (H : Heap) (locs : List Loc) (ls : Array Slot), f_X7_takeBack_n45 S1 n S0 x2 = some Rv → va_P E.1 vwCl (cw_X7 E q0 S0 ++ (cw_X7 E q1 S1)) H → va_D A (cw_X7 E q0 S0 ++ (cw_X7 E q1 S1)) → va_S A s.heap H locs → lv_has ls 3 [(0, .ref (q0 0)), (1, .ref (q1 0)), (2, .int x2)] → W p l e ({ frames := 1, cells := 0, slots := 0, locals := 60 } : Room) s m ar below meth c H locs 0 0 QM (F0 m 45 ls []) := by
    intro n
    induction n with
    | zero => intro S0 x2 H locs ls h; exact nn_el h
    | succ n ih =>
      intro S0 x2 H locs ls h hP hD hS hl
      refine lv_iload_n hx hb dX7_takeBack_45 rfl (lv_at hl 2 rfl) ?_
      refine lv_bipush (v := 8) hx hb dX7_takeBack_46 (by decide) ?_
      refine lv_icmp_ge (tgt := 101) hx hb dX7_takeBack_48 (by decide) (fun c7 => ?_) (fun c7 => ?_)
      · have h := it_t h c7
        refine lv_aload_n hx hb dX7_takeBack_101 rfl (lv_at hl 0 rfl) ?_
        refine lv_aload_n hx hb dX7_takeBack_102 rfl (lv_at hl 1 rfl) ?_
        refine va_get (D := E.1) (ci := 6) (v := .int (S1.1 9)) (C := RX7) (T := TX7) (N := 11) hx hb hg in_X7 hown X.1 hP 8 rfl rfl 9 (by decide) (hg _ wf_X7_40) (fun _ h9 => h9) rfl dX7_takeBack_103 ?_
        obtain ⟨S0_8, eS, h⟩ := lt_el h
        refine va_put (D := E.1) (ci := 6) (v := .int (S1.1 9)) (ty := .int) (C := RX7) (T := TX7) (N := 11) hx hb hg in_X7 tyX7 tyX7_ok nmX7 hown X.1 hP hD hS 0 rfl rfl 9 (by decide) (hg _ wf_X7_40) (fun _ h9 => h9) rfl (by decide +kernel) rfl rfl (Nat.le_of_ble_eq_true rfl) dX7_takeBack_106 (fun H locs hP hD hS => ?_)
        have hP : va_P E.1 vwCl (cw_X7 E q0 S0_8 ++ (cw_X7 E q1 S1)) H := by rw [eS]; exact hP
        have hD : va_D A (cw_X7 E q0 S0_8 ++ (cw_X7 E q1 S1)) := by rw [eS]; exact hD
        clear eS
        refine lv_aload_n hx hb dX7_takeBack_109 rfl (lv_at hl 0 rfl) ?_
        refine lv_aload_n hx hb dX7_takeBack_110 rfl (lv_at hl 1 rfl) ?_
        refine va_get (D := E.1) (ci := 6) (v := .int (S1.1 10)) (C := RX7) (T := TX7) (N := 11) hx hb hg in_X7 hown X.1 hP 8 rfl rfl 10 (by decide) (hg _ wf_X7_43) (fun _ h9 => h9) rfl dX7_takeBack_111 ?_
        obtain ⟨S0_9, eS, h⟩ := lt_el h
        refine va_put (D := E.1) (ci := 6) (v := .int (S1.1 10)) (ty := .int) (C := RX7) (T := TX7) (N := 11) hx hb hg in_X7 tyX7 tyX7_ok nmX7 hown X.1 hP hD hS 0 rfl rfl 10 (by decide) (hg _ wf_X7_43) (fun _ h9 => h9) rfl (by decide +kernel) rfl rfl (Nat.le_of_ble_eq_true rfl) dX7_takeBack_114 (fun H locs hP hD hS => ?_)
        have hP : va_P E.1 vwCl (cw_X7 E q0 S0_9 ++ (cw_X7 E q1 S1)) H := by rw [eS]; exact hP
        have hD : va_D A (cw_X7 E q0 S0_9 ++ (cw_X7 E q1 S1)) := by rw [eS]; exact hD
        clear eS
        exact RT S0_9 _ _ _ _ h hP hD hS dX7_takeBack_117
      · have h := it_f h c7
        refine lv_aload_n hx hb dX7_takeBack_51 rfl (lv_at hl 1 rfl) ?_
        refine lv_iload_n hx hb dX7_takeBack_52 rfl (lv_at hl 2 rfl) ?_
        obtain ⟨u10, hc, h⟩ := bd_el h
        have hC : ([8, 9, 10, 11, 12, 13, 14, 15] : List Nat).map (fun i => (cw_X7 E q0 S0 ++ (cw_X7 E q1 S1))[i]?) = (cw_X7 E q1 S1).map some := rfl
        refine ct_iR X hP hD hS [8, 9, 10, 11, 12, 13, 14, 15] hC (va_runV (C := RX7) (As := [.int x2]) (rest := []) ⟨hx, hb, hml, hown, hg⟩ (c_X7_hasFleet l E q1 H.size S1 x2 u10 hc) (cwV 1 hg (gwV wm_X7_60 wi_X7_hasFleet wsl_X7_hasFleet wini_X7 wco_X7_hasFleet) rfl rfl rfl (by decide +kernel) ⟨Nat.le_of_ble_eq_true rfl, Nat.le_of_ble_eq_true rfl⟩) ⟨ct_blind, ct_rv X.1 hP 8 rfl rfl, ct_pre X hP hD hS [8, 9, 10, 11, 12, 13, 14, 15] (by decide) hC _⟩ rfl rfl hl.1 rfl (lv_room (Nat.le_of_ble_eq_true rfl)) dX7_takeBack_53 ⟨Nat.zero_le _, Nat.zero_le _⟩) (fun H locs hP hD hS => ?_)
        clear hC
        refine lv_if_eq (tgt := 95) hx hb dX7_takeBack_56 (by decide) (fun c11 => ?_) (fun c11 => ?_)
        · have h := it_t h c11
          obtain ⟨v12, ev12, h⟩ := lt_el h
          refine lv_iinc (v := v12) (lv' := [(2, .int v12), (0, .ref (q0 0)), (1, .ref (q1 0))]) hx hb dX7_takeBack_95 hl (k := 2) rfl (by rw [ev12]; rfl) (by decide) rfl (fun ls hl => ?_)
          refine lv_goto (tgt := 45) hx hb dX7_takeBack_98 (by decide) ?_
          exact ih S0 v12 _ _ _ h hP hD hS (lv_sub hl [1, 2, 0] rfl)
        · have h := it_f h c11
          refine lv_aload_n hx hb dX7_takeBack_59 rfl (lv_at hl 0 rfl) ?_
          refine va_get (D := E.1) (ci := 6) (v := .ref (q0 4)) (C := RX7) (T := TX7) (N := 11) hx hb hg in_X7 hown X.1 hP 0 rfl rfl 5 (by decide) (hg _ wf_X7_28) (fun _ h9 => h9) rfl dX7_takeBack_60 ?_
          refine lv_iload_n hx hb dX7_takeBack_63 rfl (lv_at hl 2 rfl) ?_
          refine lv_aload_n hx hb dX7_takeBack_64 rfl (lv_at hl 1 rfl) ?_
          refine va_get (D := E.1) (ci := 6) (v := .ref (q1 4)) (C := RX7) (T := TX7) (N := 11) hx hb hg in_X7 hown X.1 hP 8 rfl rfl 5 (by decide) (hg _ wf_X7_28) (fun _ h9 => h9) rfl dX7_takeBack_65 ?_
          refine lv_iload_n hx hb dX7_takeBack_68 rfl (lv_at hl 2 rfl) ?_
          obtain ⟨hi, v13, ev13, h⟩ := rd_el h
          refine va_iald hx hb X.1 hP 12 0 rfl rfl hi dX7_takeBack_69 ?_
          refine lv_top' ev13 ?_
          obtain ⟨hi, h⟩ := ck_el h
          obtain ⟨S0_14, eS, h⟩ := lt_el h
          refine va_iast hx hb X.1 hP hD hS 4 0 rfl rfl hi dX7_takeBack_70 (fun H locs hP hD hS => ?_)
          have hP : va_P E.1 vwCl (cw_X7 E q0 S0_14 ++ (cw_X7 E q1 S1)) H := by rw [eS]; exact hP
          have hD : va_D A (cw_X7 E q0 S0_14 ++ (cw_X7 E q1 S1)) := by rw [eS]; exact hD
          clear eS
          refine lv_aload_n hx hb dX7_takeBack_71 rfl (lv_at hl 0 rfl) ?_
          refine va_get (D := E.1) (ci := 6) (v := .ref (q0 5)) (C := RX7) (T := TX7) (N := 11) hx hb hg in_X7 hown X.1 hP 0 rfl rfl 6 (by decide) (hg _ wf_X7_31) (fun _ h9 => h9) rfl dX7_takeBack_72 ?_
          refine lv_iload_n hx hb dX7_takeBack_75 rfl (lv_at hl 2 rfl) ?_
          refine lv_aload_n hx hb dX7_takeBack_76 rfl (lv_at hl 1 rfl) ?_
          refine va_get (D := E.1) (ci := 6) (v := .ref (q1 5)) (C := RX7) (T := TX7) (N := 11) hx hb hg in_X7 hown X.1 hP 8 rfl rfl 6 (by decide) (hg _ wf_X7_31) (fun _ h9 => h9) rfl dX7_takeBack_77 ?_
          refine lv_iload_n hx hb dX7_takeBack_80 rfl (lv_at hl 2 rfl) ?_
          obtain ⟨hi, v15, ev15, h⟩ := rd_el h
          refine va_iald hx hb X.1 hP 13 0 rfl rfl hi dX7_takeBack_81 ?_
          refine lv_top' ev15 ?_
          obtain ⟨hi, h⟩ := ck_el h
          obtain ⟨S0_16, eS, h⟩ := lt_el h
          refine va_iast hx hb X.1 hP hD hS 5 0 rfl rfl hi dX7_takeBack_82 (fun H locs hP hD hS => ?_)
          have hP : va_P E.1 vwCl (cw_X7 E q0 S0_16 ++ (cw_X7 E q1 S1)) H := by rw [eS]; exact hP
          have hD : va_D A (cw_X7 E q0 S0_16 ++ (cw_X7 E q1 S1)) := by rw [eS]; exact hD
          clear eS
          refine lv_aload_n hx hb dX7_takeBack_83 rfl (lv_at hl 0 rfl) ?_
          refine va_get (D := E.1) (ci := 6) (v := .ref (q0 7)) (C := RX7) (T := TX7) (N := 11) hx hb hg in_X7 hown X.1 hP 0 rfl rfl 8 (by decide) (hg _ wf_X7_37) (fun _ h9 => h9) rfl dX7_takeBack_84 ?_
          refine lv_iload_n hx hb dX7_takeBack_87 rfl (lv_at hl 2 rfl) ?_
          refine lv_aload_n hx hb dX7_takeBack_88 rfl (lv_at hl 1 rfl) ?_
          refine va_get (D := E.1) (ci := 6) (v := .ref (q1 7)) (C := RX7) (T := TX7) (N := 11) hx hb hg in_X7 hown X.1 hP 8 rfl rfl 8 (by decide) (hg _ wf_X7_37) (fun _ h9 => h9) rfl dX7_takeBack_89 ?_
          refine lv_iload_n hx hb dX7_takeBack_92 rfl (lv_at hl 2 rfl) ?_
          obtain ⟨hi, v17, ev17, h⟩ := rd_el h
          refine va_iald hx hb X.1 hP 15 0 rfl rfl hi dX7_takeBack_93 ?_
          refine lv_top' ev17 ?_
          obtain ⟨hi, h⟩ := ck_el h
          obtain ⟨S0_18, eS, h⟩ := lt_el h
          refine va_iast hx hb X.1 hP hD hS 7 0 rfl rfl hi dX7_takeBack_94 (fun H locs hP hD hS => ?_)
          have hP : va_P E.1 vwCl (cw_X7 E q0 S0_18 ++ (cw_X7 E q1 S1)) H := by rw [eS]; exact hP
          have hD : va_D A (cw_X7 E q0 S0_18 ++ (cw_X7 E q1 S1)) := by rw [eS]; exact hD
          clear eS
          obtain ⟨v19, ev19, h⟩ := lt_el h
          refine lv_iinc (v := v19) (lv' := [(2, .int v19), (0, .ref (q0 0)), (1, .ref (q1 0))]) hx hb dX7_takeBack_95 hl (k := 2) rfl (by rw [ev19]; rfl) (by decide) rfl (fun ls hl => ?_)
          refine lv_goto (tgt := 45) hx hb dX7_takeBack_98 (by decide) ?_
          exact ih S0_18 v19 _ _ _ h hP hD hS (lv_sub hl [1, 2, 0] rfl)
  have N2 : ∀ (n : Nat) (S0 : Gr) (x2 : Int32) (H : Heap) (locs : List Loc) (ls : Array Slot), f_X7_takeBack_n2 S1 n S0 x2 = some Rv → va_P E.1 vwCl (cw_X7 E q0 S0 ++ (cw_X7 E q1 S1)) H → va_D A (cw_X7 E q0 S0 ++ (cw_X7 E q1 S1)) → va_S A s.heap H locs → lv_has ls 3 [(0, .ref (q0 0)), (1, .ref (q1 0)), (2, .int x2)] → W p l e ({ frames := 1, cells := 0, slots := 0, locals := 60 } : Room) s m ar below meth c H locs 0 0 QM (F0 m 2 ls []) := by
    intro n
    induction n with
    | zero => intro S0 x2 H locs ls h; exact nn_el h
    | succ n ih =>
      intro S0 x2 H locs ls h hP hD hS hl
      refine lv_iload_n hx hb dX7_takeBack_2 rfl (lv_at hl 2 rfl) ?_
      refine lv_bipush (v := 8) hx hb dX7_takeBack_3 (by decide) ?_
      refine lv_icmp_ge (tgt := 43) hx hb dX7_takeBack_5 (by decide) (fun c1 => ?_) (fun c1 => ?_)
      · have h := it_t h c1
        refine lv_iconst (v := 0) hx hb dX7_takeBack_43 (by decide) ?_
        refine lv_istore_n (lv' := [(2, .int 0), (0, .ref (q0 0)), (1, .ref (q1 0))]) hx hb dX7_takeBack_44 rfl hl (by decide) rfl (fun ls hl => ?_)
        exact N45 fu S0 0 _ _ _ h hP hD hS (lv_sub hl [1, 2, 0] rfl)
      · have h := it_f h c1
        refine lv_aload_n hx hb dX7_takeBack_8 rfl (lv_at hl 1 rfl) ?_
        refine lv_iload_n hx hb dX7_takeBack_9 rfl (lv_at hl 2 rfl) ?_
        obtain ⟨u2, hc, h⟩ := bd_el h
        have hC : ([8, 9, 10, 11, 12, 13, 14, 15] : List Nat).map (fun i => (cw_X7 E q0 S0 ++ (cw_X7 E q1 S1))[i]?) = (cw_X7 E q1 S1).map some := rfl
        refine ct_iR X hP hD hS [8, 9, 10, 11, 12, 13, 14, 15] hC (va_runV (C := RX7) (As := [.int x2]) (rest := []) ⟨hx, hb, hml, hown, hg⟩ (c_X7_hasWeb l E q1 H.size S1 x2 u2 hc) (cwV 1 hg (gwV wm_X7_56 wi_X7_hasWeb wsl_X7_hasWeb wini_X7 wco_X7_hasWeb) rfl rfl rfl (by decide +kernel) ⟨Nat.le_of_ble_eq_true rfl, Nat.le_of_ble_eq_true rfl⟩) ⟨ct_blind, ct_rv X.1 hP 8 rfl rfl, ct_pre X hP hD hS [8, 9, 10, 11, 12, 13, 14, 15] (by decide) hC _⟩ rfl rfl hl.1 rfl (lv_room (Nat.le_of_ble_eq_true rfl)) dX7_takeBack_10 ⟨Nat.zero_le _, Nat.zero_le _⟩) (fun H locs hP hD hS => ?_)
        clear hC
        refine lv_if_eq (tgt := 37) hx hb dX7_takeBack_13 (by decide) (fun c3 => ?_) (fun c3 => ?_)
        · have h := it_t h c3
          obtain ⟨v4, ev4, h⟩ := lt_el h
          refine lv_iinc (v := v4) (lv' := [(2, .int v4), (0, .ref (q0 0)), (1, .ref (q1 0))]) hx hb dX7_takeBack_37 hl (k := 2) rfl (by rw [ev4]; rfl) (by decide) rfl (fun ls hl => ?_)
          refine lv_goto (tgt := 2) hx hb dX7_takeBack_40 (by decide) ?_
          exact ih S0 v4 _ _ _ h hP hD hS (lv_sub hl [1, 2, 0] rfl)
        · have h := it_f h c3
          refine lv_aload_n hx hb dX7_takeBack_16 rfl (lv_at hl 1 rfl) ?_
          refine va_get (D := E.1) (ci := 6) (v := .ref (q1 3)) (C := RX7) (T := TX7) (N := 11) hx hb hg in_X7 hown X.1 hP 8 rfl rfl 4 (by decide) (hg _ wf_X7_25) (fun _ h9 => h9) rfl dX7_takeBack_17 ?_
          refine lv_iload_n hx hb dX7_takeBack_20 rfl (lv_at hl 2 rfl) ?_
          refine lv_bipush (v := 8) hx hb dX7_takeBack_21 (by decide) ?_
          refine lv_imul hx hb dX7_takeBack_23 ?_
          refine lv_aload_n hx hb dX7_takeBack_24 rfl (lv_at hl 0 rfl) ?_
          refine va_get (D := E.1) (ci := 6) (v := .ref (q0 3)) (C := RX7) (T := TX7) (N := 11) hx hb hg in_X7 hown X.1 hP 0 rfl rfl 4 (by decide) (hg _ wf_X7_25) (fun _ h9 => h9) rfl dX7_takeBack_25 ?_
          refine lv_iload_n hx hb dX7_takeBack_28 rfl (lv_at hl 2 rfl) ?_
          refine lv_bipush (v := 8) hx hb dX7_takeBack_29 (by decide) ?_
          refine lv_imul hx hb dX7_takeBack_31 ?_
          refine lv_bipush (v := 8) hx hb dX7_takeBack_32 (by decide) ?_
          obtain ⟨h1, h2, h3, h4, h5, h⟩ := cp_el h
          obtain ⟨S0_5, eS, h⟩ := lt_el h
          refine va_copyi (ty := .int) hx hb (hml.trans hl.1.symm) hown (hg _ wm_X7_50) (hg _ wnat_arraycopy) (hg _ wst_arraycopy) (hg _ wini_J10) X.1 hP hD hS 11 3 0 0 rfl rfl rfl rfl rfl h1 h2 h3 h4 h5 (fun _ _ => rfl) (Nat.le_of_ble_eq_true rfl) (Nat.le_of_ble_eq_true rfl) dX7_takeBack_34 (fun H locs hP hD hS => ?_)
          have hP : va_P E.1 vwCl (cw_X7 E q0 S0_5 ++ (cw_X7 E q1 S1)) H := by rw [eS]; exact hP
          have hD : va_D A (cw_X7 E q0 S0_5 ++ (cw_X7 E q1 S1)) := by rw [eS]; exact hD
          clear eS
          obtain ⟨v6, ev6, h⟩ := lt_el h
          refine lv_iinc (v := v6) (lv' := [(2, .int v6), (0, .ref (q0 0)), (1, .ref (q1 0))]) hx hb dX7_takeBack_37 hl (k := 2) rfl (by rw [ev6]; rfl) (by decide) rfl (fun ls hl => ?_)
          refine lv_goto (tgt := 2) hx hb dX7_takeBack_40 (by decide) ?_
          exact ih S0_5 v6 _ _ _ h hP hD hS (lv_sub hl [1, 2, 0] rfl)
  obtain ⟨H, eH⟩ : ∃ z, z = s.heap := ⟨_, rfl⟩
  rw [← eH]
  have hP : va_P E.1 vwCl (cw_X7 E q0 S0 ++ (cw_X7 E q1 S1)) H := by rw [eH]; exact hP
  have hS : va_S A s.heap H [] := by rw [eH]; exact hS
  clear eH
  obtain ⟨locs, el⟩ : ∃ z : List Loc, z = [] := ⟨_, rfl⟩
  rw [← el] at hS ⊢
  clear el
  refine lv_iconst (v := 0) hx hb dX7_takeBack_0 (by decide) ?_
  refine lv_istore_n (lv' := [(2, .int 0), (0, .ref (q0 0)), (1, .ref (q1 0))]) hx hb dX7_takeBack_1 rfl hl (by decide) rfl (fun ls hl => ?_)
  exact N2 fu S0 0 _ _ _ h hP hD hS (lv_sub hl [1, 2, 0] rfl)
