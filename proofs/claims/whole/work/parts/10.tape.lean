theorem dX11_within_0 : decode cX11_within 0 = .ok (.iload_n 0, 1) := by decide +kernel
theorem dX11_within_1 : decode cX11_within 1 = .ok (.iload_n 1, 1) := by decide +kernel
theorem dX11_within_2 : decode cX11_within 2 = .ok (.if_icmp .lt 12, 3) := by decide +kernel
theorem dX11_within_5 : decode cX11_within 5 = .ok (.iload_n 0, 1) := by decide +kernel
theorem dX11_within_6 : decode cX11_within 6 = .ok (.iload_n 2, 1) := by decide +kernel
theorem dX11_within_7 : decode cX11_within 7 = .ok (.if_icmp .gt 7, 3) := by decide +kernel
theorem dX11_within_10 : decode cX11_within 10 = .ok (.iconst 1, 1) := by decide +kernel
theorem dX11_within_11 : decode cX11_within 11 = .ok (.goto 4, 3) := by decide +kernel
theorem dX11_within_14 : decode cX11_within 14 = .ok (.iconst 0, 1) := by decide +kernel
theorem dX11_within_15 : decode cX11_within 15 = .ok (.ireturn, 1) := by decide +kernel
def f_X11_within (x0 : Int32) (x1 : Int32) (x2 : Int32) : Option (Int32) := if x0 < x1 then (some 0) else (if x2 < x0 then (some 0) else (some 1))
set_option maxHeartbeats 4000000 in
set_option maxRecDepth 100000 in
theorem c_X11_within (l : Launch) (E : Ec) (sz : Nat) (x0 : Int32) (x1 : Int32) (x2 : Int32) (Rv : Int32) (h : f_X11_within x0 x1 x2 = some Rv) : Met l yX11_within (wsM (.code yX11_within cX11_within 3 (some .boolean))) ({ frames := 0, cells := 0, slots := 0, locals := 0 } : Room) (va_Pc [.int x0, .int x1, .int x2] (ctP E ([]) sz)) (ctI E ([]) ([]) sz Rv) 0 0 (va_A ([]) sz) := by
  refine ct_metI (by decide) (Nat.le_of_ble_eq_true rfl) ?_
  intro p e s m ar below meth c A QM hx hb hml hown hg X hP hD hS RET ls hl
  have hown : s.vm.findClass RX11 = some m.cls := hown
  have hl : lv_has ls 3 [(0, .int x0), (1, .int x1), (2, .int x2)] := hl
  have RT : ∀ (v : Int32) (H : Heap) (locs : List Loc) (ls : Array Slot) (pc : Nat), some v = some Rv → narrow .boolean (.int v) = .int v → va_P E.1 vwCl ([]) H → va_D A ([]) → va_S A s.heap H locs → decode cX11_within pc = .ok (.ireturn, 1) → W p l e ({ frames := 0, cells := 0, slots := 0, locals := 0 } : Room) s m ar below meth c H locs 0 0 QM (F0 m pc ls [.int v]) := by
    intro v H locs ls pc e hn hP hD hS d
    obtain rfl := sm_e e
    exact RET H locs pc ls hn hP hD hS d
  clear RET
  obtain ⟨H, eH⟩ : ∃ z, z = s.heap := ⟨_, rfl⟩
  rw [← eH]
  have hP : va_P E.1 vwCl ([]) H := by rw [eH]; exact hP
  have hS : va_S A s.heap H [] := by rw [eH]; exact hS
  clear eH
  obtain ⟨locs, el⟩ : ∃ z : List Loc, z = [] := ⟨_, rfl⟩
  rw [← el] at hS ⊢
  clear el
  refine lv_iload_n hx hb dX11_within_0 rfl (lv_at hl 0 rfl) ?_
  refine lv_iload_n hx hb dX11_within_1 rfl (lv_at hl 1 rfl) ?_
  refine lv_icmp_lt (tgt := 14) hx hb dX11_within_2 (by decide) (fun c1 => ?_) (fun c1 => ?_)
  · have h := it_t h c1
    refine lv_iconst (v := 0) hx hb dX11_within_14 (by decide) ?_
    exact RT 0 _ _ _ _ h (by decide +kernel) hP hD hS dX11_within_15
  · have h := it_f h c1
    refine lv_iload_n hx hb dX11_within_5 rfl (lv_at hl 0 rfl) ?_
    refine lv_iload_n hx hb dX11_within_6 rfl (lv_at hl 2 rfl) ?_
    refine lv_icmp_gt (tgt := 14) hx hb dX11_within_7 (by decide) (fun c2 => ?_) (fun c2 => ?_)
    · have h := it_t h c2
      refine lv_iconst (v := 0) hx hb dX11_within_14 (by decide) ?_
      exact RT 0 _ _ _ _ h (by decide +kernel) hP hD hS dX11_within_15
    · have h := it_f h c2
      refine lv_iconst (v := 1) hx hb dX11_within_10 (by decide) ?_
      refine lv_goto (tgt := 15) hx hb dX11_within_11 (by decide) ?_
      exact RT 1 _ _ _ _ h (by decide +kernel) hP hD hS dX11_within_15
theorem dX8_at_0 : decode cX8_at 0 = .ok (.iload_n 1, 1) := by decide +kernel
theorem dX8_at_1 : decode cX8_at 1 = .ok (.iconst 0, 1) := by decide +kernel
theorem dX8_at_2 : decode cX8_at 2 = .ok (.aload_n 0, 1) := by decide +kernel
theorem dX8_at_3 : decode cX8_at 3 = .ok (.getfield 13, 3) := by decide +kernel
theorem dX8_at_6 : decode cX8_at 6 = .ok (.iconst 1, 1) := by decide +kernel
theorem dX8_at_7 : decode cX8_at 7 = .ok (.isub, 1) := by decide +kernel
theorem dX8_at_8 : decode cX8_at 8 = .ok (.invokestatic 21, 3) := by decide +kernel
theorem dX8_at_11 : decode cX8_at 11 = .ok (.ifCond .eq 12, 3) := by decide +kernel
theorem dX8_at_14 : decode cX8_at 14 = .ok (.aload_n 0, 1) := by decide +kernel
theorem dX8_at_15 : decode cX8_at 15 = .ok (.getfield 9, 3) := by decide +kernel
theorem dX8_at_18 : decode cX8_at 18 = .ok (.iload_n 1, 1) := by decide +kernel
theorem dX8_at_19 : decode cX8_at 19 = .ok (.iaload, 1) := by decide +kernel
theorem dX8_at_20 : decode cX8_at 20 = .ok (.goto 4, 3) := by decide +kernel
theorem dX8_at_23 : decode cX8_at 23 = .ok (.iconst 0, 1) := by decide +kernel
theorem dX8_at_24 : decode cX8_at 24 = .ok (.ireturn, 1) := by decide +kernel
def f_X8_at (S0 : Gr) (x1 : Int32) : Option (Int32) := (f_X11_within x1 0 ((S0.1 1) - 1)).bind fun u1 => if u1 = 0 then (some 0) else (rd' (S0.2 0) 260 x1 fun v3 => some v3)
set_option maxHeartbeats 4000000 in
set_option maxRecDepth 100000 in
theorem c_X8_at (l : Launch) (E : Ec) (q0 : Nat → Nat) (sz : Nat) (S0 : Gr) (x1 : Int32) (Rv : Int32) (h : f_X8_at S0 x1 = some Rv) : Met l yX8_at (wsM (.code yX8_at cX8_at 2 (some .int))) ({ frames := 1, cells := 0, slots := 0, locals := 22 } : Room) (va_Pc [.ref (q0 0), .int x1] (ctP E (cw_X8 E q0 S0) sz)) (ctI E (cw_X8 E q0 S0) (cw_X8 E q0 S0) sz Rv) 0 0 (va_A (cw_X8 E q0 S0) sz) := by
  refine ct_metI (by decide) (Nat.le_of_ble_eq_true rfl) ?_
  intro p e s m ar below meth c A QM hx hb hml hown hg X hP hD hS RET ls hl
  have hown : s.vm.findClass RX8 = some m.cls := hown
  have hl : lv_has ls 2 [(0, .ref (q0 0)), (1, .int x1)] := hl
  have RT : ∀ (v : Int32) (H : Heap) (locs : List Loc) (ls : Array Slot) (pc : Nat), some v = some Rv → narrow .int (.int v) = .int v → va_P E.1 vwCl (cw_X8 E q0 S0) H → va_D A (cw_X8 E q0 S0) → va_S A s.heap H locs → decode cX8_at pc = .ok (.ireturn, 1) → W p l e ({ frames := 1, cells := 0, slots := 0, locals := 22 } : Room) s m ar below meth c H locs 0 0 QM (F0 m pc ls [.int v]) := by
    intro v H locs ls pc e hn hP hD hS d
    obtain rfl := sm_e e
    exact RET H locs pc ls hn hP hD hS d
  clear RET
  obtain ⟨H, eH⟩ : ∃ z, z = s.heap := ⟨_, rfl⟩
  rw [← eH]
  have hP : va_P E.1 vwCl (cw_X8 E q0 S0) H := by rw [eH]; exact hP
  have hS : va_S A s.heap H [] := by rw [eH]; exact hS
  clear eH
  obtain ⟨locs, el⟩ : ∃ z : List Loc, z = [] := ⟨_, rfl⟩
  rw [← el] at hS ⊢
  clear el
  refine lv_iload_n hx hb dX8_at_0 rfl (lv_at hl 1 rfl) ?_
  refine lv_iconst (v := 0) hx hb dX8_at_1 (by decide) ?_
  refine lv_aload_n hx hb dX8_at_2 rfl (lv_at hl 0 rfl) ?_
  refine va_get (D := E.1) (ci := 7) (v := .int (S0.1 1)) (C := RX8) (T := TX8) (N := 2) hx hb hg in_X8 hown X.1 hP 0 rfl rfl 1 (by decide) (hg _ wf_X8_13) (fun _ h9 => h9) rfl dX8_at_3 ?_
  refine lv_iconst (v := 1) hx hb dX8_at_6 (by decide) ?_
  refine lv_isub hx hb dX8_at_7 ?_
  obtain ⟨u1, hc, h⟩ := bd_el h
  refine ct_iN X hP hD hS (va_runSN (As := [.int x1, .int 0, .int ((S0.1 1) - 1)]) (rest := []) ⟨hx, hb, hml, hown, hg⟩ (c_X11_within l E  H.size x1 0 ((S0.1 1) - 1) u1 hc) ⟨va_cnB 3 hg (gw wco_X11_within) rfl rfl rfl (nm_X8_21 X.2.1) (hg _ wini_X11) (by decide +kernel) ⟨Nat.le_of_ble_eq_true rfl, Nat.le_of_ble_eq_true rfl⟩, hg _ wst_X11_within, trivial⟩ ⟨ct_blind, ct_preN X hS _⟩ rfl rfl hl.1 rfl (lv_room (Nat.le_of_ble_eq_true rfl)) dX8_at_8 ⟨Nat.zero_le _, Nat.zero_le _⟩) (fun H locs hP hD hS => ?_)
  refine lv_if_eq (tgt := 23) hx hb dX8_at_11 (by decide) (fun c2 => ?_) (fun c2 => ?_)
  · have h := it_t h c2
    refine lv_iconst (v := 0) hx hb dX8_at_23 (by decide) ?_
    exact RT 0 _ _ _ _ h rfl hP hD hS dX8_at_24
  · have h := it_f h c2
    refine lv_aload_n hx hb dX8_at_14 rfl (lv_at hl 0 rfl) ?_
    refine va_get (D := E.1) (ci := 7) (v := .ref (q0 1)) (C := RX8) (T := TX8) (N := 2) hx hb hg in_X8 hown X.1 hP 0 rfl rfl 0 (by decide) (hg _ wf_X8_9) (fun _ h9 => h9) rfl dX8_at_15 ?_
    refine lv_iload_n hx hb dX8_at_18 rfl (lv_at hl 1 rfl) ?_
    obtain ⟨hi, v3, ev3, h⟩ := rd_el h
    refine va_iald hx hb X.1 hP 1 0 rfl rfl hi dX8_at_19 ?_
    refine lv_top' ev3 ?_
    refine lv_goto (tgt := 24) hx hb dX8_at_20 (by decide) ?_
    exact RT v3 _ _ _ _ h rfl hP hD hS dX8_at_24
theorem dX8_empty_0 : decode cX8_empty 0 = .ok (.aload_n 0, 1) := by decide +kernel
theorem dX8_empty_1 : decode cX8_empty 1 = .ok (.iconst 0, 1) := by decide +kernel
theorem dX8_empty_2 : decode cX8_empty 2 = .ok (.putfield 13, 3) := by decide +kernel
theorem dX8_empty_5 : decode cX8_empty 5 = .ok (.return_, 1) := by decide +kernel
def f_X8_empty (S0 : Gr) : Option (Gr) := lt' (sI S0 1 0) fun S0_1 => some S0_1
set_option maxHeartbeats 4000000 in
set_option maxRecDepth 100000 in
theorem c_X8_empty (l : Launch) (E : Ec) (q0 : Nat → Nat) (sz : Nat) (S0 : Gr) (Rv : Gr) (h : f_X8_empty S0 = some Rv) : Met l yX8_empty (wsM (.code yX8_empty cX8_empty 1 none)) ({ frames := 0, cells := 0, slots := 0, locals := 0 } : Room) (va_Pc [.ref (q0 0)] (ctP E (cw_X8 E q0 S0) sz)) (ctV E (cw_X8 E q0 S0) (cw_X8 E q0 Rv) sz) 0 0 (va_A (cw_X8 E q0 S0) sz) := by
  refine ct_metV (by decide) (Nat.le_of_ble_eq_true rfl) ?_
  intro p e s m ar below meth c A QM hx hb hml hown hg X hP hD hS RET ls hl
  have hown : s.vm.findClass RX8 = some m.cls := hown
  have hl : lv_has ls 1 [(0, .ref (q0 0))] := hl
  have RT : ∀ (S0 : Gr) (H : Heap) (locs : List Loc) (ls : Array Slot) (pc : Nat), some S0 = some Rv → va_P E.1 vwCl (cw_X8 E q0 S0) H → va_D A (cw_X8 E q0 S0) → va_S A s.heap H locs → decode cX8_empty pc = .ok (.return_, 1) → W p l e ({ frames := 0, cells := 0, slots := 0, locals := 0 } : Room) s m ar below meth c H locs 0 0 QM (F0 m pc ls []) := by
    intro S0 H locs ls pc e hP hD hS d
    obtain rfl := sm_e e
    exact RET H locs pc ls hP hD hS d
  clear RET
  obtain ⟨H, eH⟩ : ∃ z, z = s.heap := ⟨_, rfl⟩
  rw [← eH]
  have hP : va_P E.1 vwCl (cw_X8 E q0 S0) H := by rw [eH]; exact hP
  have hS : va_S A s.heap H [] := by rw [eH]; exact hS
  clear eH
  obtain ⟨locs, el⟩ : ∃ z : List Loc, z = [] := ⟨_, rfl⟩
  rw [← el] at hS ⊢
  clear el
  refine lv_aload_n hx hb dX8_empty_0 rfl (lv_at hl 0 rfl) ?_
  refine lv_iconst (v := 0) hx hb dX8_empty_1 (by decide) ?_
  obtain ⟨S0_1, eS, h⟩ := lt_el h
  refine va_put (D := E.1) (ci := 7) (v := .int 0) (ty := .int) (C := RX8) (T := TX8) (N := 2) hx hb hg in_X8 tyX8 tyX8_ok nmX8 hown X.1 hP hD hS 0 rfl rfl 1 (by decide) (hg _ wf_X8_13) (fun _ h9 => h9) rfl (by decide +kernel) rfl rfl (Nat.le_of_ble_eq_true rfl) dX8_empty_2 (fun H locs hP hD hS => ?_)
  have hP : va_P E.1 vwCl (cw_X8 E q0 S0_1) H := by rw [eS]; exact hP
  have hD : va_D A (cw_X8 E q0 S0_1) := by rw [eS]; exact hD
  clear eS
  exact RT S0_1 _ _ _ _ h hP hD hS dX8_empty_5
theorem dX8_has_0 : decode cX8_has 0 = .ok (.iload_n 1, 1) := by decide +kernel
theorem dX8_has_1 : decode cX8_has 1 = .ok (.aload_n 0, 1) := by decide +kernel
theorem dX8_has_2 : decode cX8_has 2 = .ok (.getfield 13, 3) := by decide +kernel
theorem dX8_has_5 : decode cX8_has 5 = .ok (.if_icmp .gt 7, 3) := by decide +kernel
theorem dX8_has_8 : decode cX8_has 8 = .ok (.iconst 1, 1) := by decide +kernel
theorem dX8_has_9 : decode cX8_has 9 = .ok (.goto 4, 3) := by decide +kernel
theorem dX8_has_12 : decode cX8_has 12 = .ok (.iconst 0, 1) := by decide +kernel
theorem dX8_has_13 : decode cX8_has 13 = .ok (.ireturn, 1) := by decide +kernel
def f_X8_has (S0 : Gr) (x1 : Int32) : Option (Int32) := if (S0.1 1) < x1 then (some 0) else (some 1)
set_option maxHeartbeats 4000000 in
set_option maxRecDepth 100000 in
theorem c_X8_has (l : Launch) (E : Ec) (q0 : Nat → Nat) (sz : Nat) (S0 : Gr) (x1 : Int32) (Rv : Int32) (h : f_X8_has S0 x1 = some Rv) : Met l yX8_has (wsM (.code yX8_has cX8_has 2 (some .boolean))) ({ frames := 0, cells := 0, slots := 0, locals := 0 } : Room) (va_Pc [.ref (q0 0), .int x1] (ctP E (cw_X8 E q0 S0) sz)) (ctI E (cw_X8 E q0 S0) (cw_X8 E q0 S0) sz Rv) 0 0 (va_A (cw_X8 E q0 S0) sz) := by
  refine ct_metI (by decide) (Nat.le_of_ble_eq_true rfl) ?_
  intro p e s m ar below meth c A QM hx hb hml hown hg X hP hD hS RET ls hl
  have hown : s.vm.findClass RX8 = some m.cls := hown
  have hl : lv_has ls 2 [(0, .ref (q0 0)), (1, .int x1)] := hl
  have RT : ∀ (v : Int32) (H : Heap) (locs : List Loc) (ls : Array Slot) (pc : Nat), some v = some Rv → narrow .boolean (.int v) = .int v → va_P E.1 vwCl (cw_X8 E q0 S0) H → va_D A (cw_X8 E q0 S0) → va_S A s.heap H locs → decode cX8_has pc = .ok (.ireturn, 1) → W p l e ({ frames := 0, cells := 0, slots := 0, locals := 0 } : Room) s m ar below meth c H locs 0 0 QM (F0 m pc ls [.int v]) := by
    intro v H locs ls pc e hn hP hD hS d
    obtain rfl := sm_e e
    exact RET H locs pc ls hn hP hD hS d
  clear RET
  obtain ⟨H, eH⟩ : ∃ z, z = s.heap := ⟨_, rfl⟩
  rw [← eH]
  have hP : va_P E.1 vwCl (cw_X8 E q0 S0) H := by rw [eH]; exact hP
  have hS : va_S A s.heap H [] := by rw [eH]; exact hS
  clear eH
  obtain ⟨locs, el⟩ : ∃ z : List Loc, z = [] := ⟨_, rfl⟩
  rw [← el] at hS ⊢
  clear el
  refine lv_iload_n hx hb dX8_has_0 rfl (lv_at hl 1 rfl) ?_
  refine lv_aload_n hx hb dX8_has_1 rfl (lv_at hl 0 rfl) ?_
  refine va_get (D := E.1) (ci := 7) (v := .int (S0.1 1)) (C := RX8) (T := TX8) (N := 2) hx hb hg in_X8 hown X.1 hP 0 rfl rfl 1 (by decide) (hg _ wf_X8_13) (fun _ h9 => h9) rfl dX8_has_2 ?_
  refine lv_icmp_gt (tgt := 12) hx hb dX8_has_5 (by decide) (fun c1 => ?_) (fun c1 => ?_)
  · have h := it_t h c1
    refine lv_iconst (v := 0) hx hb dX8_has_12 (by decide) ?_
    exact RT 0 _ _ _ _ h (by decide +kernel) hP hD hS dX8_has_13
  · have h := it_f h c1
    refine lv_iconst (v := 1) hx hb dX8_has_8 (by decide) ?_
    refine lv_goto (tgt := 13) hx hb dX8_has_9 (by decide) ?_
    exact RT 1 _ _ _ _ h (by decide +kernel) hP hD hS dX8_has_13
theorem dX8_size_0 : decode cX8_size 0 = .ok (.aload_n 0, 1) := by decide +kernel
theorem dX8_size_1 : decode cX8_size 1 = .ok (.getfield 13, 3) := by decide +kernel
theorem dX8_size_4 : decode cX8_size 4 = .ok (.ireturn, 1) := by decide +kernel
def f_X8_size (S0 : Gr) : Option (Int32) := some (S0.1 1)
set_option maxHeartbeats 4000000 in
set_option maxRecDepth 100000 in
theorem c_X8_size (l : Launch) (E : Ec) (q0 : Nat → Nat) (sz : Nat) (S0 : Gr) (Rv : Int32) (h : f_X8_size S0 = some Rv) : Met l yX8_size (wsM (.code yX8_size cX8_size 1 (some .int))) ({ frames := 0, cells := 0, slots := 0, locals := 0 } : Room) (va_Pc [.ref (q0 0)] (ctP E (cw_X8 E q0 S0) sz)) (ctI E (cw_X8 E q0 S0) (cw_X8 E q0 S0) sz Rv) 0 0 (va_A (cw_X8 E q0 S0) sz) := by
  refine ct_metI (by decide) (Nat.le_of_ble_eq_true rfl) ?_
  intro p e s m ar below meth c A QM hx hb hml hown hg X hP hD hS RET ls hl
  have hown : s.vm.findClass RX8 = some m.cls := hown
  have hl : lv_has ls 1 [(0, .ref (q0 0))] := hl
  have RT : ∀ (v : Int32) (H : Heap) (locs : List Loc) (ls : Array Slot) (pc : Nat), some v = some Rv → narrow .int (.int v) = .int v → va_P E.1 vwCl (cw_X8 E q0 S0) H → va_D A (cw_X8 E q0 S0) → va_S A s.heap H locs → decode cX8_size pc = .ok (.ireturn, 1) → W p l e ({ frames := 0, cells := 0, slots := 0, locals := 0 } : Room) s m ar below meth c H locs 0 0 QM (F0 m pc ls [.int v]) := by
    intro v H locs ls pc e hn hP hD hS d
    obtain rfl := sm_e e
    exact RET H locs pc ls hn hP hD hS d
  clear RET
  obtain ⟨H, eH⟩ : ∃ z, z = s.heap := ⟨_, rfl⟩
  rw [← eH]
  have hP : va_P E.1 vwCl (cw_X8 E q0 S0) H := by rw [eH]; exact hP
  have hS : va_S A s.heap H [] := by rw [eH]; exact hS
  clear eH
  obtain ⟨locs, el⟩ : ∃ z : List Loc, z = [] := ⟨_, rfl⟩
  rw [← el] at hS ⊢
  clear el
  refine lv_aload_n hx hb dX8_size_0 rfl (lv_at hl 0 rfl) ?_
  refine va_get (D := E.1) (ci := 7) (v := .int (S0.1 1)) (C := RX8) (T := TX8) (N := 2) hx hb hg in_X8 hown X.1 hP 0 rfl rfl 1 (by decide) (hg _ wf_X8_13) (fun _ h9 => h9) rfl dX8_size_1 ?_
  exact RT (S0.1 1) _ _ _ _ h rfl hP hD hS dX8_size_4
theorem dX8_hasRoomFor_0 : decode cX8_hasRoomFor 0 = .ok (.aload_n 0, 1) := by decide +kernel
theorem dX8_hasRoomFor_1 : decode cX8_hasRoomFor 1 = .ok (.getfield 13, 3) := by decide +kernel
theorem dX8_hasRoomFor_4 : decode cX8_hasRoomFor 4 = .ok (.iload_n 1, 1) := by decide +kernel
theorem dX8_hasRoomFor_5 : decode cX8_hasRoomFor 5 = .ok (.iadd, 1) := by decide +kernel
theorem dX8_hasRoomFor_6 : decode cX8_hasRoomFor 6 = .ok (.sipush 260, 3) := by decide +kernel
theorem dX8_hasRoomFor_9 : decode cX8_hasRoomFor 9 = .ok (.if_icmp .gt 7, 3) := by decide +kernel
theorem dX8_hasRoomFor_12 : decode cX8_hasRoomFor 12 = .ok (.iconst 1, 1) := by decide +kernel
theorem dX8_hasRoomFor_13 : decode cX8_hasRoomFor 13 = .ok (.goto 4, 3) := by decide +kernel
theorem dX8_hasRoomFor_16 : decode cX8_hasRoomFor 16 = .ok (.iconst 0, 1) := by decide +kernel
theorem dX8_hasRoomFor_17 : decode cX8_hasRoomFor 17 = .ok (.ireturn, 1) := by decide +kernel
def f_X8_hasRoomFor (S0 : Gr) (x1 : Int32) : Option (Int32) := if 260 < ((S0.1 1) + x1) then (some 0) else (some 1)
set_option maxHeartbeats 4000000 in
set_option maxRecDepth 100000 in
theorem c_X8_hasRoomFor (l : Launch) (E : Ec) (q0 : Nat → Nat) (sz : Nat) (S0 : Gr) (x1 : Int32) (Rv : Int32) (h : f_X8_hasRoomFor S0 x1 = some Rv) : Met l yX8_hasRoomFor (wsM (.code yX8_hasRoomFor cX8_hasRoomFor 2 (some .boolean))) ({ frames := 0, cells := 0, slots := 0, locals := 0 } : Room) (va_Pc [.ref (q0 0), .int x1] (ctP E (cw_X8 E q0 S0) sz)) (ctI E (cw_X8 E q0 S0) (cw_X8 E q0 S0) sz Rv) 0 0 (va_A (cw_X8 E q0 S0) sz) := by
  refine ct_metI (by decide) (Nat.le_of_ble_eq_true rfl) ?_
  intro p e s m ar below meth c A QM hx hb hml hown hg X hP hD hS RET ls hl
  have hown : s.vm.findClass RX8 = some m.cls := hown
  have hl : lv_has ls 2 [(0, .ref (q0 0)), (1, .int x1)] := hl
  have RT : ∀ (v : Int32) (H : Heap) (locs : List Loc) (ls : Array Slot) (pc : Nat), some v = some Rv → narrow .boolean (.int v) = .int v → va_P E.1 vwCl (cw_X8 E q0 S0) H → va_D A (cw_X8 E q0 S0) → va_S A s.heap H locs → decode cX8_hasRoomFor pc = .ok (.ireturn, 1) → W p l e ({ frames := 0, cells := 0, slots := 0, locals := 0 } : Room) s m ar below meth c H locs 0 0 QM (F0 m pc ls [.int v]) := by
    intro v H locs ls pc e hn hP hD hS d
    obtain rfl := sm_e e
    exact RET H locs pc ls hn hP hD hS d
  clear RET
  obtain ⟨H, eH⟩ : ∃ z, z = s.heap := ⟨_, rfl⟩
  rw [← eH]
  have hP : va_P E.1 vwCl (cw_X8 E q0 S0) H := by rw [eH]; exact hP
  have hS : va_S A s.heap H [] := by rw [eH]; exact hS
  clear eH
  obtain ⟨locs, el⟩ : ∃ z : List Loc, z = [] := ⟨_, rfl⟩
  rw [← el] at hS ⊢
  clear el
  refine lv_aload_n hx hb dX8_hasRoomFor_0 rfl (lv_at hl 0 rfl) ?_
  refine va_get (D := E.1) (ci := 7) (v := .int (S0.1 1)) (C := RX8) (T := TX8) (N := 2) hx hb hg in_X8 hown X.1 hP 0 rfl rfl 1 (by decide) (hg _ wf_X8_13) (fun _ h9 => h9) rfl dX8_hasRoomFor_1 ?_
  refine lv_iload_n hx hb dX8_hasRoomFor_4 rfl (lv_at hl 1 rfl) ?_
  refine lv_iadd hx hb dX8_hasRoomFor_5 ?_
  refine lv_sipush (v := 260) hx hb dX8_hasRoomFor_6 (by decide) ?_
  refine lv_icmp_gt (tgt := 16) hx hb dX8_hasRoomFor_9 (by decide) (fun c1 => ?_) (fun c1 => ?_)
  · have h := it_t h c1
    refine lv_iconst (v := 0) hx hb dX8_hasRoomFor_16 (by decide) ?_
    exact RT 0 _ _ _ _ h (by decide +kernel) hP hD hS dX8_hasRoomFor_17
  · have h := it_f h c1
    refine lv_iconst (v := 1) hx hb dX8_hasRoomFor_12 (by decide) ?_
    refine lv_goto (tgt := 17) hx hb dX8_hasRoomFor_13 (by decide) ?_
    exact RT 1 _ _ _ _ h (by decide +kernel) hP hD hS dX8_hasRoomFor_17
theorem dX8_put_0 : decode cX8_put 0 = .ok (.aload_n 0, 1) := by decide +kernel
theorem dX8_put_1 : decode cX8_put 1 = .ok (.getfield 13, 3) := by decide +kernel
theorem dX8_put_4 : decode cX8_put 4 = .ok (.sipush 260, 3) := by decide +kernel
theorem dX8_put_7 : decode cX8_put 7 = .ok (.if_icmp .ge 23, 3) := by decide +kernel
theorem dX8_put_10 : decode cX8_put 10 = .ok (.aload_n 0, 1) := by decide +kernel
theorem dX8_put_11 : decode cX8_put 11 = .ok (.getfield 9, 3) := by decide +kernel
theorem dX8_put_14 : decode cX8_put 14 = .ok (.aload_n 0, 1) := by decide +kernel
theorem dX8_put_15 : decode cX8_put 15 = .ok (.getfield 13, 3) := by decide +kernel
theorem dX8_put_18 : decode cX8_put 18 = .ok (.iload_n 1, 1) := by decide +kernel
theorem dX8_put_19 : decode cX8_put 19 = .ok (.iastore, 1) := by decide +kernel
theorem dX8_put_20 : decode cX8_put 20 = .ok (.aload_n 0, 1) := by decide +kernel
theorem dX8_put_21 : decode cX8_put 21 = .ok (.dup, 1) := by decide +kernel
theorem dX8_put_22 : decode cX8_put 22 = .ok (.getfield 13, 3) := by decide +kernel
theorem dX8_put_25 : decode cX8_put 25 = .ok (.iconst 1, 1) := by decide +kernel
theorem dX8_put_26 : decode cX8_put 26 = .ok (.iadd, 1) := by decide +kernel
theorem dX8_put_27 : decode cX8_put 27 = .ok (.putfield 13, 3) := by decide +kernel
theorem dX8_put_30 : decode cX8_put 30 = .ok (.return_, 1) := by decide +kernel
def f_X8_put (S0 : Gr) (x1 : Int32) : Option (Gr) := if 260 ≤ (S0.1 1) then (some S0) else (ck' 260 (S0.1 1) (lt' (sA S0 0 (Int32.toNatClampNeg (S0.1 1)) x1) fun S0_2 => lt' (sI S0_2 1 ((S0_2.1 1) + 1)) fun S0_3 => some S0_3))
set_option maxHeartbeats 4000000 in
set_option maxRecDepth 100000 in
theorem c_X8_put (l : Launch) (E : Ec) (q0 : Nat → Nat) (sz : Nat) (S0 : Gr) (x1 : Int32) (Rv : Gr) (h : f_X8_put S0 x1 = some Rv) : Met l yX8_put (wsM (.code yX8_put cX8_put 2 none)) ({ frames := 0, cells := 0, slots := 0, locals := 0 } : Room) (va_Pc [.ref (q0 0), .int x1] (ctP E (cw_X8 E q0 S0) sz)) (ctV E (cw_X8 E q0 S0) (cw_X8 E q0 Rv) sz) 0 0 (va_A (cw_X8 E q0 S0) sz) := by
  refine ct_metV (by decide) (Nat.le_of_ble_eq_true rfl) ?_
  intro p e s m ar below meth c A QM hx hb hml hown hg X hP hD hS RET ls hl
  have hown : s.vm.findClass RX8 = some m.cls := hown
  have hl : lv_has ls 2 [(0, .ref (q0 0)), (1, .int x1)] := hl
  have RT : ∀ (S0 : Gr) (H : Heap) (locs : List Loc) (ls : Array Slot) (pc : Nat), some S0 = some Rv → va_P E.1 vwCl (cw_X8 E q0 S0) H → va_D A (cw_X8 E q0 S0) → va_S A s.heap H locs → decode cX8_put pc = .ok (.return_, 1) → W p l e ({ frames := 0, cells := 0, slots := 0, locals := 0 } : Room) s m ar below meth c H locs 0 0 QM (F0 m pc ls []) := by
    intro S0 H locs ls pc e hP hD hS d
    obtain rfl := sm_e e
    exact RET H locs pc ls hP hD hS d
  clear RET
  obtain ⟨H, eH⟩ : ∃ z, z = s.heap := ⟨_, rfl⟩
  rw [← eH]
  have hP : va_P E.1 vwCl (cw_X8 E q0 S0) H := by rw [eH]; exact hP
  have hS : va_S A s.heap H [] := by rw [eH]; exact hS
  clear eH
  obtain ⟨locs, el⟩ : ∃ z : List Loc, z = [] := ⟨_, rfl⟩
  rw [← el] at hS ⊢
  clear el
  refine lv_aload_n hx hb dX8_put_0 rfl (lv_at hl 0 rfl) ?_
  refine va_get (D := E.1) (ci := 7) (v := .int (S0.1 1)) (C := RX8) (T := TX8) (N := 2) hx hb hg in_X8 hown X.1 hP 0 rfl rfl 1 (by decide) (hg _ wf_X8_13) (fun _ h9 => h9) rfl dX8_put_1 ?_
  refine lv_sipush (v := 260) hx hb dX8_put_4 (by decide) ?_
  refine lv_icmp_ge (tgt := 30) hx hb dX8_put_7 (by decide) (fun c1 => ?_) (fun c1 => ?_)
  · have h := it_t h c1
    exact RT S0 _ _ _ _ h hP hD hS dX8_put_30
  · have h := it_f h c1
    refine lv_aload_n hx hb dX8_put_10 rfl (lv_at hl 0 rfl) ?_
    refine va_get (D := E.1) (ci := 7) (v := .ref (q0 1)) (C := RX8) (T := TX8) (N := 2) hx hb hg in_X8 hown X.1 hP 0 rfl rfl 0 (by decide) (hg _ wf_X8_9) (fun _ h9 => h9) rfl dX8_put_11 ?_
    refine lv_aload_n hx hb dX8_put_14 rfl (lv_at hl 0 rfl) ?_
    refine va_get (D := E.1) (ci := 7) (v := .int (S0.1 1)) (C := RX8) (T := TX8) (N := 2) hx hb hg in_X8 hown X.1 hP 0 rfl rfl 1 (by decide) (hg _ wf_X8_13) (fun _ h9 => h9) rfl dX8_put_15 ?_
    refine lv_iload_n hx hb dX8_put_18 rfl (lv_at hl 1 rfl) ?_
    obtain ⟨hi, h⟩ := ck_el h
    obtain ⟨S0_2, eS, h⟩ := lt_el h
    refine va_iast hx hb X.1 hP hD hS 1 0 rfl rfl hi dX8_put_19 (fun H locs hP hD hS => ?_)
    have hP : va_P E.1 vwCl (cw_X8 E q0 S0_2) H := by rw [eS]; exact hP
    have hD : va_D A (cw_X8 E q0 S0_2) := by rw [eS]; exact hD
    clear eS
    refine lv_aload_n hx hb dX8_put_20 rfl (lv_at hl 0 rfl) ?_
    refine lv_dup hx hb dX8_put_21 rfl ?_
    refine va_get (D := E.1) (ci := 7) (v := .int (S0_2.1 1)) (C := RX8) (T := TX8) (N := 2) hx hb hg in_X8 hown X.1 hP 0 rfl rfl 1 (by decide) (hg _ wf_X8_13) (fun _ h9 => h9) rfl dX8_put_22 ?_
    refine lv_iconst (v := 1) hx hb dX8_put_25 (by decide) ?_
    refine lv_iadd hx hb dX8_put_26 ?_
    obtain ⟨S0_3, eS, h⟩ := lt_el h
    refine va_put (D := E.1) (ci := 7) (v := .int ((S0_2.1 1) + 1)) (ty := .int) (C := RX8) (T := TX8) (N := 2) hx hb hg in_X8 tyX8 tyX8_ok nmX8 hown X.1 hP hD hS 0 rfl rfl 1 (by decide) (hg _ wf_X8_13) (fun _ h9 => h9) rfl (by decide +kernel) rfl rfl (Nat.le_of_ble_eq_true rfl) dX8_put_27 (fun H locs hP hD hS => ?_)
    have hP : va_P E.1 vwCl (cw_X8 E q0 S0_3) H := by rw [eS]; exact hP
    have hD : va_D A (cw_X8 E q0 S0_3) := by rw [eS]; exact hD
    clear eS
    exact RT S0_3 _ _ _ _ h hP hD hS dX8_put_30
theorem dX8_putInt_0 : decode cX8_putInt 0 = .ok (.aload_n 0, 1) := by decide +kernel
theorem dX8_putInt_1 : decode cX8_putInt 1 = .ok (.iload_n 1, 1) := by decide +kernel
theorem dX8_putInt_2 : decode cX8_putInt 2 = .ok (.bipush 24, 2) := by decide +kernel
theorem dX8_putInt_4 : decode cX8_putInt 4 = .ok (.iushr, 1) := by decide +kernel
theorem dX8_putInt_5 : decode cX8_putInt 5 = .ok (.invokevirtual 17, 3) := by decide +kernel
theorem dX8_putInt_8 : decode cX8_putInt 8 = .ok (.aload_n 0, 1) := by decide +kernel
theorem dX8_putInt_9 : decode cX8_putInt 9 = .ok (.iload_n 1, 1) := by decide +kernel
theorem dX8_putInt_10 : decode cX8_putInt 10 = .ok (.bipush 16, 2) := by decide +kernel
theorem dX8_putInt_12 : decode cX8_putInt 12 = .ok (.iushr, 1) := by decide +kernel
theorem dX8_putInt_13 : decode cX8_putInt 13 = .ok (.sipush 255, 3) := by decide +kernel
theorem dX8_putInt_16 : decode cX8_putInt 16 = .ok (.iand, 1) := by decide +kernel
theorem dX8_putInt_17 : decode cX8_putInt 17 = .ok (.invokevirtual 17, 3) := by decide +kernel
theorem dX8_putInt_20 : decode cX8_putInt 20 = .ok (.aload_n 0, 1) := by decide +kernel
theorem dX8_putInt_21 : decode cX8_putInt 21 = .ok (.iload_n 1, 1) := by decide +kernel
theorem dX8_putInt_22 : decode cX8_putInt 22 = .ok (.bipush 8, 2) := by decide +kernel
theorem dX8_putInt_24 : decode cX8_putInt 24 = .ok (.iushr, 1) := by decide +kernel
theorem dX8_putInt_25 : decode cX8_putInt 25 = .ok (.sipush 255, 3) := by decide +kernel
theorem dX8_putInt_28 : decode cX8_putInt 28 = .ok (.iand, 1) := by decide +kernel
theorem dX8_putInt_29 : decode cX8_putInt 29 = .ok (.invokevirtual 17, 3) := by decide +kernel
theorem dX8_putInt_32 : decode cX8_putInt 32 = .ok (.aload_n 0, 1) := by decide +kernel
theorem dX8_putInt_33 : decode cX8_putInt 33 = .ok (.iload_n 1, 1) := by decide +kernel
theorem dX8_putInt_34 : decode cX8_putInt 34 = .ok (.sipush 255, 3) := by decide +kernel
theorem dX8_putInt_37 : decode cX8_putInt 37 = .ok (.iand, 1) := by decide +kernel
theorem dX8_putInt_38 : decode cX8_putInt 38 = .ok (.invokevirtual 17, 3) := by decide +kernel
theorem dX8_putInt_41 : decode cX8_putInt 41 = .ok (.return_, 1) := by decide +kernel
def f_X8_putInt (S0 : Gr) (x1 : Int32) : Option (Gr) := lt' (us' x1 24) fun v1 => (f_X8_put S0 v1).bind fun u2 => lt' (us' x1 16) fun v3 => (f_X8_put u2 (v3 &&& 255)).bind fun u4 => lt' (us' x1 8) fun v5 => (f_X8_put u4 (v5 &&& 255)).bind fun u6 => (f_X8_put u6 (x1 &&& 255)).bind fun u7 => some u7
set_option maxHeartbeats 4000000 in
set_option maxRecDepth 100000 in
theorem c_X8_putInt (l : Launch) (E : Ec) (q0 : Nat → Nat) (sz : Nat) (S0 : Gr) (x1 : Int32) (Rv : Gr) (h : f_X8_putInt S0 x1 = some Rv) : Met l yX8_putInt (wsM (.code yX8_putInt cX8_putInt 2 none)) ({ frames := 1, cells := 0, slots := 0, locals := 21 } : Room) (va_Pc [.ref (q0 0), .int x1] (ctP E (cw_X8 E q0 S0) sz)) (ctV E (cw_X8 E q0 S0) (cw_X8 E q0 Rv) sz) 0 0 (va_A (cw_X8 E q0 S0) sz) := by
  refine ct_metV (by decide) (Nat.le_of_ble_eq_true rfl) ?_
  intro p e s m ar below meth c A QM hx hb hml hown hg X hP hD hS RET ls hl
  have hown : s.vm.findClass RX8 = some m.cls := hown
  have hl : lv_has ls 2 [(0, .ref (q0 0)), (1, .int x1)] := hl
  have RT : ∀ (S0 : Gr) (H : Heap) (locs : List Loc) (ls : Array Slot) (pc : Nat), some S0 = some Rv → va_P E.1 vwCl (cw_X8 E q0 S0) H → va_D A (cw_X8 E q0 S0) → va_S A s.heap H locs → decode cX8_putInt pc = .ok (.return_, 1) → W p l e ({ frames := 1, cells := 0, slots := 0, locals := 21 } : Room) s m ar below meth c H locs 0 0 QM (F0 m pc ls []) := by
    intro S0 H locs ls pc e hP hD hS d
    obtain rfl := sm_e e
    exact RET H locs pc ls hP hD hS d
  clear RET
  obtain ⟨H, eH⟩ : ∃ z, z = s.heap := ⟨_, rfl⟩
  rw [← eH]
  have hP : va_P E.1 vwCl (cw_X8 E q0 S0) H := by rw [eH]; exact hP
  have hS : va_S A s.heap H [] := by rw [eH]; exact hS
  clear eH
  obtain ⟨locs, el⟩ : ∃ z : List Loc, z = [] := ⟨_, rfl⟩
  rw [← el] at hS ⊢
  clear el
  refine lv_aload_n hx hb dX8_putInt_0 rfl (lv_at hl 0 rfl) ?_
  refine lv_iload_n hx hb dX8_putInt_1 rfl (lv_at hl 1 rfl) ?_
  refine lv_bipush (v := 24) hx hb dX8_putInt_2 (by decide) ?_
  obtain ⟨v1, ev1, h⟩ := lt_el h
  refine lv_iushr (v := v1) hx hb dX8_putInt_4 ev1.symm ?_
  obtain ⟨u2, hc, h⟩ := bd_el h
  refine ct_vA (w1 := cw_X8 E q0 u2) X hP hD hS (va_runV (C := RX8) (As := [.int v1]) (rest := []) ⟨hx, hb, hml, hown, hg⟩ (c_X8_put l E q0 H.size S0 v1 u2 hc) (cwV 1 hg (gwV wm_X8_17 wi_X8_put wsl_X8_put wini_X8 wco_X8_put) rfl rfl rfl (by decide +kernel) ⟨Nat.le_of_ble_eq_true rfl, Nat.le_of_ble_eq_true rfl⟩) ⟨ct_blind, ct_rv X.1 hP 0 rfl rfl, ct_preA X hP hD hS _⟩ rfl rfl hl.1 rfl (lv_room (Nat.le_of_ble_eq_true rfl)) dX8_putInt_5 ⟨Nat.zero_le _, Nat.zero_le _⟩) (fun H locs hP hD hS => ?_)
  refine lv_aload_n hx hb dX8_putInt_8 rfl (lv_at hl 0 rfl) ?_
  refine lv_iload_n hx hb dX8_putInt_9 rfl (lv_at hl 1 rfl) ?_
  refine lv_bipush (v := 16) hx hb dX8_putInt_10 (by decide) ?_
  obtain ⟨v3, ev3, h⟩ := lt_el h
  refine lv_iushr (v := v3) hx hb dX8_putInt_12 ev3.symm ?_
  refine lv_sipush (v := 255) hx hb dX8_putInt_13 (by decide) ?_
  refine lv_iand hx hb dX8_putInt_16 ?_
  obtain ⟨u4, hc, h⟩ := bd_el h
  refine ct_vA (w1 := cw_X8 E q0 u4) X hP hD hS (va_runV (C := RX8) (As := [.int (v3 &&& 255)]) (rest := []) ⟨hx, hb, hml, hown, hg⟩ (c_X8_put l E q0 H.size u2 (v3 &&& 255) u4 hc) (cwV 1 hg (gwV wm_X8_17 wi_X8_put wsl_X8_put wini_X8 wco_X8_put) rfl rfl rfl (by decide +kernel) ⟨Nat.le_of_ble_eq_true rfl, Nat.le_of_ble_eq_true rfl⟩) ⟨ct_blind, ct_rv X.1 hP 0 rfl rfl, ct_preA X hP hD hS _⟩ rfl rfl hl.1 rfl (lv_room (Nat.le_of_ble_eq_true rfl)) dX8_putInt_17 ⟨Nat.zero_le _, Nat.zero_le _⟩) (fun H locs hP hD hS => ?_)
  refine lv_aload_n hx hb dX8_putInt_20 rfl (lv_at hl 0 rfl) ?_
  refine lv_iload_n hx hb dX8_putInt_21 rfl (lv_at hl 1 rfl) ?_
  refine lv_bipush (v := 8) hx hb dX8_putInt_22 (by decide) ?_
  obtain ⟨v5, ev5, h⟩ := lt_el h
  refine lv_iushr (v := v5) hx hb dX8_putInt_24 ev5.symm ?_
  refine lv_sipush (v := 255) hx hb dX8_putInt_25 (by decide) ?_
  refine lv_iand hx hb dX8_putInt_28 ?_
  obtain ⟨u6, hc, h⟩ := bd_el h
  refine ct_vA (w1 := cw_X8 E q0 u6) X hP hD hS (va_runV (C := RX8) (As := [.int (v5 &&& 255)]) (rest := []) ⟨hx, hb, hml, hown, hg⟩ (c_X8_put l E q0 H.size u4 (v5 &&& 255) u6 hc) (cwV 1 hg (gwV wm_X8_17 wi_X8_put wsl_X8_put wini_X8 wco_X8_put) rfl rfl rfl (by decide +kernel) ⟨Nat.le_of_ble_eq_true rfl, Nat.le_of_ble_eq_true rfl⟩) ⟨ct_blind, ct_rv X.1 hP 0 rfl rfl, ct_preA X hP hD hS _⟩ rfl rfl hl.1 rfl (lv_room (Nat.le_of_ble_eq_true rfl)) dX8_putInt_29 ⟨Nat.zero_le _, Nat.zero_le _⟩) (fun H locs hP hD hS => ?_)
  refine lv_aload_n hx hb dX8_putInt_32 rfl (lv_at hl 0 rfl) ?_
  refine lv_iload_n hx hb dX8_putInt_33 rfl (lv_at hl 1 rfl) ?_
  refine lv_sipush (v := 255) hx hb dX8_putInt_34 (by decide) ?_
  refine lv_iand hx hb dX8_putInt_37 ?_
  obtain ⟨u7, hc, h⟩ := bd_el h
  refine ct_vA (w1 := cw_X8 E q0 u7) X hP hD hS (va_runV (C := RX8) (As := [.int (x1 &&& 255)]) (rest := []) ⟨hx, hb, hml, hown, hg⟩ (c_X8_put l E q0 H.size u6 (x1 &&& 255) u7 hc) (cwV 1 hg (gwV wm_X8_17 wi_X8_put wsl_X8_put wini_X8 wco_X8_put) rfl rfl rfl (by decide +kernel) ⟨Nat.le_of_ble_eq_true rfl, Nat.le_of_ble_eq_true rfl⟩) ⟨ct_blind, ct_rv X.1 hP 0 rfl rfl, ct_preA X hP hD hS _⟩ rfl rfl hl.1 rfl (lv_room (Nat.le_of_ble_eq_true rfl)) dX8_putInt_38 ⟨Nat.zero_le _, Nat.zero_le _⟩) (fun H locs hP hD hS => ?_)
  exact RT u7 _ _ _ _ h hP hD hS dX8_putInt_41
