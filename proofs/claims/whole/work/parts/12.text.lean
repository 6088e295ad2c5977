theorem dX9_failAt_0 : decode cX9_failAt 0 = .ok (.aload_n 0, 1) := by decide +kernel
theorem dX9_failAt_1 : decode cX9_failAt 1 = .ok (.getfield 22, 3) := by decide +kernel
theorem dX9_failAt_4 : decode cX9_failAt 4 = .ok (.ifCond .ne 14, 3) := by decide +kernel
theorem dX9_failAt_7 : decode cX9_failAt 7 = .ok (.aload_n 0, 1) := by decide +kernel
theorem dX9_failAt_8 : decode cX9_failAt 8 = .ok (.sipush (-1000), 3) := by decide +kernel
theorem dX9_failAt_11 : decode cX9_failAt 11 = .ok (.iload_n 1, 1) := by decide +kernel
theorem dX9_failAt_12 : decode cX9_failAt 12 = .ok (.imul, 1) := by decide +kernel
theorem dX9_failAt_13 : decode cX9_failAt 13 = .ok (.iload_n 2, 1) := by decide +kernel
theorem dX9_failAt_14 : decode cX9_failAt 14 = .ok (.isub, 1) := by decide +kernel
theorem dX9_failAt_15 : decode cX9_failAt 15 = .ok (.putfield 22, 3) := by decide +kernel
theorem dX9_failAt_18 : decode cX9_failAt 18 = .ok (.iconst 0, 1) := by decide +kernel
theorem dX9_failAt_19 : decode cX9_failAt 19 = .ok (.ireturn, 1) := by decide +kernel
def f_X9_failAt (S0 : Gr) (x1 : Int32) (x2 : Int32) : Option (Int32 × Gr) := if (S0.1 3) = 0 then (lt' (sI S0 3 (((-1000) * x1) - x2)) fun S0_2 => some (0, S0_2)) else (some (0, S0))
set_option maxHeartbeats 4000000 in
set_option maxRecDepth 100000 in
theorem c_X9_failAt (l : Launch) (E : Ec) (q0 : Nat → Nat) (sz : Nat) (S0 : Gr) (x1 : Int32) (x2 : Int32) (Rv : Int32 × Gr) (h : f_X9_failAt S0 x1 x2 = some Rv) : Met l yX9_failAt (wsM (.code yX9_failAt cX9_failAt 3 (some .boolean))) ({ frames := 0, cells := 0, slots := 0, locals := 0 } : Room) (va_Pc [.ref (q0 0), .int x1, .int x2] (ctP E (cw_X9 E q0 S0) sz)) (ctI E (cw_X9 E q0 S0) (cw_X9 E q0 Rv.2) sz Rv.1) 0 0 (va_A (cw_X9 E q0 S0) sz) := by
  refine ct_metI (by decide) (Nat.le_of_ble_eq_true rfl) ?_
  intro p e s m ar below meth c A QM hx hb hml hown hg X hP hD hS RET ls hl
  have hown : s.vm.findClass RX9 = some m.cls := hown
  have hl : lv_has ls 3 [(0, .ref (q0 0)), (1, .int x1), (2, .int x2)] := hl
  have RT : ∀ (v : Int32) (S0 : Gr) (H : Heap) (locs : List Loc) (ls : Array Slot) (pc : Nat), some (v, S0) = some Rv → narrow .boolean (.int v) = .int v → va_P E.1 vwCl (cw_X9 E q0 S0) H → va_D A (cw_X9 E q0 S0) → va_S A s.heap H locs → decode cX9_failAt pc = .ok (.ireturn, 1) → W p l e ({ frames := 0, cells := 0, slots := 0, locals := 0 } : Room) s m ar below meth c H locs 0 0 QM (F0 m pc ls [.int v]) := by
    intro v S0 H locs ls pc e hn hP hD hS d
    obtain rfl := sm_e e
    exact RET H locs pc ls hn hP hD hS d
  clear RET
  obtain ⟨H, eH⟩ : ∃ z, z = s.heap := ⟨_, rfl⟩
  rw [← eH]
  have hP : va_P E.1 vwCl (cw_X9 E q0 S0) H := by rw [eH]; exact hP
  have hS : va_S A s.heap H [] := by rw [eH]; exact hS
  clear eH
  obtain ⟨locs, el⟩ : ∃ z : List Loc, z = [] := ⟨_, rfl⟩
  rw [← el] at hS ⊢
  clear el
  refine lv_aload_n hx hb dX9_failAt_0 rfl (lv_at hl 0 rfl) ?_
  refine va_get (D := E.1) (ci := 8) (v := .int (S0.1 3)) (C := RX9) (T := TX9) (N := 4) hx hb hg in_X9 hown X.1 hP 0 rfl rfl 3 (by decide) (hg _ wf_X9_22) (fun _ h9 => h9) rfl dX9_failAt_1 ?_
  refine lv_if_ne (tgt := 18) hx hb dX9_failAt_4 (by decide) (fun c1 => ?_) (fun c1 => ?_)
  · have h := it_f h c1
    refine lv_iconst (v := 0) hx hb dX9_failAt_18 (by decide) ?_
    exact RT 0 S0 _ _ _ _ h (by decide +kernel) hP hD hS dX9_failAt_19
  · have h := it_t h c1
    refine lv_aload_n hx hb dX9_failAt_7 rfl (lv_at hl 0 rfl) ?_
    refine lv_sipush (v := (-1000)) hx hb dX9_failAt_8 (by decide) ?_
    refine lv_iload_n hx hb dX9_failAt_11 rfl (lv_at hl 1 rfl) ?_
    refine lv_imul hx hb dX9_failAt_12 ?_
    refine lv_iload_n hx hb dX9_failAt_13 rfl (lv_at hl 2 rfl) ?_
    refine lv_isub hx hb dX9_failAt_14 ?_
    obtain ⟨S0_2, eS, h⟩ := lt_el h
    refine va_put (D := E.1) (ci := 8) (v := .int (((-1000) * x1) - x2)) (ty := .int) (C := RX9) (T := TX9) (N := 4) hx hb hg in_X9 tyX9 tyX9_ok nmX9 hown X.1 hP hD hS 0 rfl rfl 3 (by decide) (hg _ wf_X9_22) (fun _ h9 => h9) rfl (by decide +kernel) rfl rfl (Nat.le_of_ble_eq_true rfl) dX9_failAt_15 (fun H locs hP hD hS => ?_)
    have hP : va_P E.1 vwCl (cw_X9 E q0 S0_2) H := by rw [eS]; exact hP
    have hD : va_D A (cw_X9 E q0 S0_2) := by rw [eS]; exact hD
    clear eS
    refine lv_iconst (v := 0) hx hb dX9_failAt_18 (by decide) ?_
    exact RT 0 S0_2 _ _ _ _ h (by decide +kernel) hP hD hS dX9_failAt_19
theorem dX9_isAt_0 : decode cX9_isAt 0 = .ok (.aload_n 0, 1) := by decide +kernel
theorem dX9_isAt_1 : decode cX9_isAt 1 = .ok (.getfield 19, 3) := by decide +kernel
theorem dX9_isAt_4 : decode cX9_isAt 4 = .ok (.aload_n 0, 1) := by decide +kernel
theorem dX9_isAt_5 : decode cX9_isAt 5 = .ok (.getfield 15, 3) := by decide +kernel
theorem dX9_isAt_8 : decode cX9_isAt 8 = .ok (.if_icmp .ge 33, 3) := by decide +kernel
theorem dX9_isAt_11 : decode cX9_isAt 11 = .ok (.aload_n 0, 1) := by decide +kernel
theorem dX9_isAt_12 : decode cX9_isAt 12 = .ok (.getfield 9, 3) := by decide +kernel
theorem dX9_isAt_15 : decode cX9_isAt 15 = .ok (.aload_n 0, 1) := by decide +kernel
theorem dX9_isAt_16 : decode cX9_isAt 16 = .ok (.getfield 19, 3) := by decide +kernel
theorem dX9_isAt_19 : decode cX9_isAt 19 = .ok (.iaload, 1) := by decide +kernel
theorem dX9_isAt_20 : decode cX9_isAt 20 = .ok (.iload_n 1, 1) := by decide +kernel
theorem dX9_isAt_21 : decode cX9_isAt 21 = .ok (.if_icmp .lt 20, 3) := by decide +kernel
theorem dX9_isAt_24 : decode cX9_isAt 24 = .ok (.aload_n 0, 1) := by decide +kernel
theorem dX9_isAt_25 : decode cX9_isAt 25 = .ok (.getfield 9, 3) := by decide +kernel
theorem dX9_isAt_28 : decode cX9_isAt 28 = .ok (.aload_n 0, 1) := by decide +kernel
theorem dX9_isAt_29 : decode cX9_isAt 29 = .ok (.getfield 19, 3) := by decide +kernel
theorem dX9_isAt_32 : decode cX9_isAt 32 = .ok (.iaload, 1) := by decide +kernel
theorem dX9_isAt_33 : decode cX9_isAt 33 = .ok (.iload_n 2, 1) := by decide +kernel
theorem dX9_isAt_34 : decode cX9_isAt 34 = .ok (.if_icmp .gt 7, 3) := by decide +kernel
theorem dX9_isAt_37 : decode cX9_isAt 37 = .ok (.iconst 1, 1) := by decide +kernel
theorem dX9_isAt_38 : decode cX9_isAt 38 = .ok (.goto 4, 3) := by decide +kernel
theorem dX9_isAt_41 : decode cX9_isAt 41 = .ok (.iconst 0, 1) := by decide +kernel
theorem dX9_isAt_42 : decode cX9_isAt 42 = .ok (.ireturn, 1) := by decide +kernel
def f_X9_isAt (S0 : Gr) (x1 : Int32) (x2 : Int32) : Option (Int32) := if (S0.1 1) ≤ (S0.1 2) then (some 0) else (rd' (S0.2 0) 240 (S0.1 2) fun v2 => if v2 < x1 then (some 0) else (rd' (S0.2 0) 240 (S0.1 2) fun v4 => if x2 < v4 then (some 0) else (some 1)))
set_option maxHeartbeats 4000000 in
set_option maxRecDepth 100000 in
theorem c_X9_isAt (l : Launch) (E : Ec) (q0 : Nat → Nat) (sz : Nat) (S0 : Gr) (x1 : Int32) (x2 : Int32) (Rv : Int32) (h : f_X9_isAt S0 x1 x2 = some Rv) : Met l yX9_isAt (wsM (.code yX9_isAt cX9_isAt 3 (some .boolean))) ({ frames := 0, cells := 0, slots := 0, locals := 0 } : Room) (va_Pc [.ref (q0 0), .int x1, .int x2] (ctP E (cw_X9 E q0 S0) sz)) (ctI E (cw_X9 E q0 S0) (cw_X9 E q0 S0) sz Rv) 0 0 (va_A (cw_X9 E q0 S0) sz) := by
  refine ct_metI (by decide) (Nat.le_of_ble_eq_true rfl) ?_
  intro p e s m ar below meth c A QM hx hb hml hown hg X hP hD hS RET ls hl
  have hown : s.vm.findClass RX9 = some m.cls := hown
  have hl : lv_has ls 3 [(0, .ref (q0 0)), (1, .int x1), (2, .int x2)] := hl
  have RT : ∀ (v : Int32) (H : Heap) (locs : List Loc) (ls : Array Slot) (pc : Nat), some v = some Rv → narrow .boolean (.int v) = .int v → va_P E.1 vwCl (cw_X9 E q0 S0) H → va_D A (cw_X9 E q0 S0) → va_S A s.heap H locs → decode cX9_isAt pc = .ok (.ireturn, 1) → W p l e ({ frames := 0, cells := 0, slots := 0, locals := 0 } : Room) s m ar below meth c H locs 0 0 QM (F0 m pc ls [.int v]) := by
    intro v H locs ls pc e hn hP hD hS d
    obtain rfl := sm_e e
    exact RET H locs pc ls hn hP hD hS d
  clear RET
  obtain ⟨H, eH⟩ : ∃ z, z = s.heap := ⟨_, rfl⟩
  rw [← eH]
  have hP : va_P E.1 vwCl (cw_X9 E q0 S0) H := by rw [eH]; exact hP
  have hS : va_S A s.heap H [] := by rw [eH]; exact hS
  clear eH
  obtain ⟨locs, el⟩ : ∃ z : List Loc, z = [] := ⟨_, rfl⟩
  rw [← el] at hS ⊢
  clear el
  refine lv_aload_n hx hb dX9_isAt_0 rfl (lv_at hl 0 rfl) ?_
  refine va_get (D := E.1) (ci := 8) (v := .int (S0.1 2)) (C := RX9) (T := TX9) (N := 4) hx hb hg in_X9 hown X.1 hP 0 rfl rfl 2 (by decide) (hg _ wf_X9_19) (fun _ h9 => h9) rfl dX9_isAt_1 ?_
  refine lv_aload_n hx hb dX9_isAt_4 rfl (lv_at hl 0 rfl) ?_
  refine va_get (D := E.1) (ci := 8) (v := .int (S0.1 1)) (C := RX9) (T := TX9) (N := 4) hx hb hg in_X9 hown X.1 hP 0 rfl rfl 1 (by decide) (hg _ wf_X9_15) (fun _ h9 => h9) rfl dX9_isAt_5 ?_
  refine lv_icmp_ge (tgt := 41) hx hb dX9_isAt_8 (by decide) (fun c1 => ?_) (fun c1 => ?_)
  · have h := it_t h c1
    refine lv_iconst (v := 0) hx hb dX9_isAt_41 (by decide) ?_
    exact RT 0 _ _ _ _ h (by decide +kernel) hP hD hS dX9_isAt_42
  · have h := it_f h c1
    refine lv_aload_n hx hb dX9_isAt_11 rfl (lv_at hl 0 rfl) ?_
    refine va_get (D := E.1) (ci := 8) (v := .ref (q0 1)) (C := RX9) (T := TX9) (N := 4) hx hb hg in_X9 hown X.1 hP 0 rfl rfl 0 (by decide) (hg _ wf_X9_9) (fun _ h9 => h9) rfl dX9_isAt_12 ?_
    refine lv_aload_n hx hb dX9_isAt_15 rfl (lv_at hl 0 rfl) ?_
    refine va_get (D := E.1) (ci := 8) (v := .int (S0.1 2)) (C := RX9) (T := TX9) (N := 4) hx hb hg in_X9 hown X.1 hP 0 rfl rfl 2 (by decide) (hg _ wf_X9_19) (fun _ h9 => h9) rfl dX9_isAt_16 ?_
    obtain ⟨hi, v2, ev2, h⟩ := rd_el h
    refine va_iald hx hb X.1 hP 1 0 rfl rfl hi dX9_isAt_19 ?_
    refine lv_top' ev2 ?_
    refine lv_iload_n hx hb dX9_isAt_20 rfl (lv_at hl 1 rfl) ?_
    refine lv_icmp_lt (tgt := 41) hx hb dX9_isAt_21 (by decide) (fun c3 => ?_) (fun c3 => ?_)
    · have h := it_t h c3
      refine lv_iconst (v := 0) hx hb dX9_isAt_41 (by decide) ?_
      exact RT 0 _ _ _ _ h (by decide +kernel) hP hD hS dX9_isAt_42
    · have h := it_f h c3
      refine lv_aload_n hx hb dX9_isAt_24 rfl (lv_at hl 0 rfl) ?_
      refine va_get (D := E.1) (ci := 8) (v := .ref (q0 1)) (C := RX9) (T := TX9) (N := 4) hx hb hg in_X9 hown X.1 hP 0 rfl rfl 0 (by decide) (hg _ wf_X9_9) (fun _ h9 => h9) rfl dX9_isAt_25 ?_
      refine lv_aload_n hx hb dX9_isAt_28 rfl (lv_at hl 0 rfl) ?_
      refine va_get (D := E.1) (ci := 8) (v := .int (S0.1 2)) (C := RX9) (T := TX9) (N := 4) hx hb hg in_X9 hown X.1 hP 0 rfl rfl 2 (by decide) (hg _ wf_X9_19) (fun _ h9 => h9) rfl dX9_isAt_29 ?_
      obtain ⟨hi, v4, ev4, h⟩ := rd_el h
      refine va_iald hx hb X.1 hP 1 0 rfl rfl hi dX9_isAt_32 ?_
      refine lv_top' ev4 ?_
      refine lv_iload_n hx hb dX9_isAt_33 rfl (lv_at hl 2 rfl) ?_
      refine lv_icmp_gt (tgt := 41) hx hb dX9_isAt_34 (by decide) (fun c5 => ?_) (fun c5 => ?_)
      · have h := it_t h c5
        refine lv_iconst (v := 0) hx hb dX9_isAt_41 (by decide) ?_
        exact RT 0 _ _ _ _ h (by decide +kernel) hP hD hS dX9_isAt_42
      · have h := it_f h c5
        refine lv_iconst (v := 1) hx hb dX9_isAt_37 (by decide) ?_
        refine lv_goto (tgt := 42) hx hb dX9_isAt_38 (by decide) ?_
        exact RT 1 _ _ _ _ h (by decide +kernel) hP hD hS dX9_isAt_42
theorem dX9_peek_0 : decode cX9_peek 0 = .ok (.aload_n 0, 1) := by decide +kernel
theorem dX9_peek_1 : decode cX9_peek 1 = .ok (.getfield 19, 3) := by decide +kernel
theorem dX9_peek_4 : decode cX9_peek 4 = .ok (.aload_n 0, 1) := by decide +kernel
theorem dX9_peek_5 : decode cX9_peek 5 = .ok (.getfield 15, 3) := by decide +kernel
theorem dX9_peek_8 : decode cX9_peek 8 = .ok (.if_icmp .ge 15, 3) := by decide +kernel
theorem dX9_peek_11 : decode cX9_peek 11 = .ok (.aload_n 0, 1) := by decide +kernel
theorem dX9_peek_12 : decode cX9_peek 12 = .ok (.getfield 9, 3) := by decide +kernel
theorem dX9_peek_15 : decode cX9_peek 15 = .ok (.aload_n 0, 1) := by decide +kernel
theorem dX9_peek_16 : decode cX9_peek 16 = .ok (.getfield 19, 3) := by decide +kernel
theorem dX9_peek_19 : decode cX9_peek 19 = .ok (.iaload, 1) := by decide +kernel
theorem dX9_peek_20 : decode cX9_peek 20 = .ok (.goto 4, 3) := by decide +kernel
theorem dX9_peek_23 : decode cX9_peek 23 = .ok (.iconst (-1), 1) := by decide +kernel
theorem dX9_peek_24 : decode cX9_peek 24 = .ok (.ireturn, 1) := by decide +kernel
def f_X9_peek (S0 : Gr) : Option (Int32) := if (S0.1 1) ≤ (S0.1 2) then (some (-1)) else (rd' (S0.2 0) 240 (S0.1 2) fun v2 => some v2)
set_option maxHeartbeats 4000000 in
set_option maxRecDepth 100000 in
theorem c_X9_peek (l : Launch) (E : Ec) (q0 : Nat → Nat) (sz : Nat) (S0 : Gr) (Rv : Int32) (h : f_X9_peek S0 = some Rv) : Met l yX9_peek (wsM (.code yX9_peek cX9_peek 1 (some .int))) ({ frames := 0, cells := 0, slots := 0, locals := 0 } : Room) (va_Pc [.ref (q0 0)] (ctP E (cw_X9 E q0 S0) sz)) (ctI E (cw_X9 E q0 S0) (cw_X9 E q0 S0) sz Rv) 0 0 (va_A (cw_X9 E q0 S0) sz) := by
  refine ct_metI (by decide) (Nat.le_of_ble_eq_true rfl) ?_
  intro p e s m ar below meth c A QM hx hb hml hown hg X hP hD hS RET ls hl
  have hown : s.vm.findClass RX9 = some m.cls := hown
  have hl : lv_has ls 1 [(0, .ref (q0 0))] := hl
  have RT : ∀ (v : Int32) (H : Heap) (locs : List Loc) (ls : Array Slot) (pc : Nat), some v = some Rv → narrow .int (.int v) = .int v → va_P E.1 vwCl (cw_X9 E q0 S0) H → va_D A (cw_X9 E q0 S0) → va_S A s.heap H locs → decode cX9_peek pc = .ok (.ireturn, 1) → W p l e ({ frames := 0, cells := 0, slots := 0, locals := 0 } : Room) s m ar below meth c H locs 0 0 QM (F0 m pc ls [.int v]) := by
    intro v H locs ls pc e hn hP hD hS d
    obtain rfl := sm_e e
    exact RET H locs pc ls hn hP hD hS d
  clear RET
  obtain ⟨H, eH⟩ : ∃ z, z = s.heap := ⟨_, rfl⟩
  rw [← eH]
  have hP : va_P E.1 vwCl (cw_X9 E q0 S0) H := by rw [eH]; exact hP
  have hS : va_S A s.heap H [] := by rw [eH]; exact hS
  clear eH
  obtain ⟨locs, el⟩ : ∃ z : List Loc, z = [] := ⟨_, rfl⟩
  rw [← el] at hS ⊢
  clear el
  refine lv_aload_n hx hb dX9_peek_0 rfl (lv_at hl 0 rfl) ?_
  refine va_get (D := E.1) (ci := 8) (v := .int (S0.1 2)) (C := RX9) (T := TX9) (N := 4) hx hb hg in_X9 hown X.1 hP 0 rfl rfl 2 (by decide) (hg _ wf_X9_19) (fun _ h9 => h9) rfl dX9_peek_1 ?_
  refine lv_aload_n hx hb dX9_peek_4 rfl (lv_at hl 0 rfl) ?_
  refine va_get (D := E.1) (ci := 8) (v := .int (S0.1 1)) (C := RX9) (T := TX9) (N := 4) hx hb hg in_X9 hown X.1 hP 0 rfl rfl 1 (by decide) (hg _ wf_X9_15) (fun _ h9 => h9) rfl dX9_peek_5 ?_
  refine lv_icmp_ge (tgt := 23) hx hb dX9_peek_8 (by decide) (fun c1 => ?_) (fun c1 => ?_)
  · have h := it_t h c1
    refine lv_iconst (v := (-1)) hx hb dX9_peek_23 (by decide) ?_
    exact RT (-1) _ _ _ _ h rfl hP hD hS dX9_peek_24
  · have h := it_f h c1
    refine lv_aload_n hx hb dX9_peek_11 rfl (lv_at hl 0 rfl) ?_
    refine va_get (D := E.1) (ci := 8) (v := .ref (q0 1)) (C := RX9) (T := TX9) (N := 4) hx hb hg in_X9 hown X.1 hP 0 rfl rfl 0 (by decide) (hg _ wf_X9_9) (fun _ h9 => h9) rfl dX9_peek_12 ?_
    refine lv_aload_n hx hb dX9_peek_15 rfl (lv_at hl 0 rfl) ?_
    refine va_get (D := E.1) (ci := 8) (v := .int (S0.1 2)) (C := RX9) (T := TX9) (N := 4) hx hb hg in_X9 hown X.1 hP 0 rfl rfl 2 (by decide) (hg _ wf_X9_19) (fun _ h9 => h9) rfl dX9_peek_16 ?_
    obtain ⟨hi, v2, ev2, h⟩ := rd_el h
    refine va_iald hx hb X.1 hP 1 0 rfl rfl hi dX9_peek_19 ?_
    refine lv_top' ev2 ?_
    refine lv_goto (tgt := 24) hx hb dX9_peek_20 (by decide) ?_
    exact RT v2 _ _ _ _ h rfl hP hD hS dX9_peek_24
theorem dX9_step_0 : decode cX9_step 0 = .ok (.aload_n 0, 1) := by decide +kernel
theorem dX9_step_1 : decode cX9_step 1 = .ok (.getfield 19, 3) := by decide +kernel
theorem dX9_step_4 : decode cX9_step 4 = .ok (.aload_n 0, 1) := by decide +kernel
theorem dX9_step_5 : decode cX9_step 5 = .ok (.getfield 15, 3) := by decide +kernel
theorem dX9_step_8 : decode cX9_step 8 = .ok (.if_icmp .ge 13, 3) := by decide +kernel
theorem dX9_step_11 : decode cX9_step 11 = .ok (.aload_n 0, 1) := by decide +kernel
theorem dX9_step_12 : decode cX9_step 12 = .ok (.dup, 1) := by decide +kernel
theorem dX9_step_13 : decode cX9_step 13 = .ok (.getfield 19, 3) := by decide +kernel
theorem dX9_step_16 : decode cX9_step 16 = .ok (.iconst 1, 1) := by decide +kernel
theorem dX9_step_17 : decode cX9_step 17 = .ok (.iadd, 1) := by decide +kernel
theorem dX9_step_18 : decode cX9_step 18 = .ok (.putfield 19, 3) := by decide +kernel
theorem dX9_step_21 : decode cX9_step 21 = .ok (.return_, 1) := by decide +kernel
def f_X9_step (S0 : Gr) : Option (Gr) := if (S0.1 1) ≤ (S0.1 2) then (some S0) else (lt' (sI S0 2 ((S0.1 2) + 1)) fun S0_2 => some S0_2)
set_option maxHeartbeats 4000000 in
set_option maxRecDepth 100000 in
theorem c_X9_step (l : Launch) (E : Ec) (q0 : Nat → Nat) (sz : Nat) (S0 : Gr) (Rv : Gr) (h : f_X9_step S0 = some Rv) : Met l yX9_step (wsM (.code yX9_step cX9_step 1 none)) ({ frames := 0, cells := 0, slots := 0, locals := 0 } : Room) (va_Pc [.ref (q0 0)] (ctP E (cw_X9 E q0 S0) sz)) (ctV E (cw_X9 E q0 S0) (cw_X9 E q0 Rv) sz) 0 0 (va_A (cw_X9 E q0 S0) sz) := by
  refine ct_metV (by decide) (Nat.le_of_ble_eq_true rfl) ?_
  intro p e s m ar below meth c A QM hx hb hml hown hg X hP hD hS RET ls hl
  have hown : s.vm.findClass RX9 = some m.cls := hown
  have hl : lv_has ls 1 [(0, .ref (q0 0))] := hl
  have RT : ∀ (S0 : Gr) (H : Heap) (locs : List Loc) (ls : Array Slot) (pc : Nat), some S0 = some Rv → va_P E.1 vwCl (cw_X9 E q0 S0) H → va_D A (cw_X9 E q0 S0) → va_S A s.heap H locs → decode cX9_step pc = .ok (.return_, 1) → W p l e ({ frames := 0, cells := 0, slots := 0, locals := 0 } : Room) s m ar below meth c H locs 0 0 QM (F0 m pc ls []) := by
    intro S0 H locs ls pc e hP hD hS d
    obtain rfl := sm_e e
    exact RET H locs pc ls hP hD hS d
  clear RET
  obtain ⟨H, eH⟩ : ∃ z, z = s.heap := ⟨_, rfl⟩
  rw [← eH]
  have hP : va_P E.1 vwCl (cw_X9 E q0 S0) H := by rw [eH]; exact hP
  have hS : va_S A s.heap H [] := by rw [eH]; exact hS
  clear eH
  obtain ⟨locs, el⟩ : ∃ z : List Loc, z = [] := ⟨_, rfl⟩
  rw [← el] at hS ⊢
  clear el
  refine lv_aload_n hx hb dX9_step_0 rfl (lv_at hl 0 rfl) ?_
  refine va_get (D := E.1) (ci := 8) (v := .int (S0.1 2)) (C := RX9) (T := TX9) (N := 4) hx hb hg in_X9 hown X.1 hP 0 rfl rfl 2 (by decide) (hg _ wf_X9_19) (fun _ h9 => h9) rfl dX9_step_1 ?_
  refine lv_aload_n hx hb dX9_step_4 rfl (lv_at hl 0 rfl) ?_
  refine va_get (D := E.1) (ci := 8) (v := .int (S0.1 1)) (C := RX9) (T := TX9) (N := 4) hx hb hg in_X9 hown X.1 hP 0 rfl rfl 1 (by decide) (hg _ wf_X9_15) (fun _ h9 => h9) rfl dX9_step_5 ?_
  refine lv_icmp_ge (tgt := 21) hx hb dX9_step_8 (by decide) (fun c1 => ?_) (fun c1 => ?_)
  · have h := it_t h c1
    exact RT S0 _ _ _ _ h hP hD hS dX9_step_21
  · have h := it_f h c1
    refine lv_aload_n hx hb dX9_step_11 rfl (lv_at hl 0 rfl) ?_
    refine lv_dup hx hb dX9_step_12 rfl ?_
    refine va_get (D := E.1) (ci := 8) (v := .int (S0.1 2)) (C := RX9) (T := TX9) (N := 4) hx hb hg in_X9 hown X.1 hP 0 rfl rfl 2 (by decide) (hg _ wf_X9_19) (fun _ h9 => h9) rfl dX9_step_13 ?_
    refine lv_iconst (v := 1) hx hb dX9_step_16 (by decide) ?_
    refine lv_iadd hx hb dX9_step_17 ?_
    obtain ⟨S0_2, eS, h⟩ := lt_el h
    refine va_put (D := E.1) (ci := 8) (v := .int ((S0.1 2) + 1)) (ty := .int) (C := RX9) (T := TX9) (N := 4) hx hb hg in_X9 tyX9 tyX9_ok nmX9 hown X.1 hP hD hS 0 rfl rfl 2 (by decide) (hg _ wf_X9_19) (fun _ h9 => h9) rfl (by decide +kernel) rfl rfl (Nat.le_of_ble_eq_true rfl) dX9_step_18 (fun H locs hP hD hS => ?_)
    have hP : va_P E.1 vwCl (cw_X9 E q0 S0_2) H := by rw [eS]; exact hP
    have hD : va_D A (cw_X9 E q0 S0_2) := by rw [eS]; exact hD
    clear eS
    exact RT S0_2 _ _ _ _ h hP hD hS dX9_step_21
theorem dX9_number_0 : decode cX9_number 0 = .ok (.aload_n 0, 1) := by decide +kernel
theorem dX9_number_1 : decode cX9_number 1 = .ok (.getfield 19, 3) := by decide +kernel
theorem dX9_number_4 : decode cX9_number 4 = .ok (.istore_n 2, 1) := by decide +kernel
theorem dX9_number_5 : decode cX9_number 5 = .ok (.iconst 0, 1) := by decide +kernel
theorem dX9_number_6 : decode cX9_number 6 = .ok (.istore_n 3, 1) := by decide +kernel
theorem dX9_number_7 : decode cX9_number 7 = .ok (.iconst 0, 1) := by decide +kernel
theorem dX9_number_8 : decode cX9_number 8 = .ok (.istore 4, 2) := by decide +kernel
theorem dX9_number_10 : decode cX9_number 10 = .ok (.iload 4, 2) := by decide +kernel
theorem dX9_number_12 : decode cX9_number 12 = .ok (.iload_n 1, 1) := by decide +kernel
theorem dX9_number_13 : decode cX9_number 13 = .ok (.if_icmp .ge 37, 3) := by decide +kernel
theorem dX9_number_16 : decode cX9_number 16 = .ok (.aload_n 0, 1) := by decide +kernel
theorem dX9_number_17 : decode cX9_number 17 = .ok (.bipush 48, 2) := by decide +kernel
theorem dX9_number_19 : decode cX9_number 19 = .ok (.bipush 57, 2) := by decide +kernel
theorem dX9_number_21 : decode cX9_number 21 = .ok (.invokevirtual 48, 3) := by decide +kernel
theorem dX9_number_24 : decode cX9_number 24 = .ok (.ifCond .eq 26, 3) := by decide +kernel
theorem dX9_number_27 : decode cX9_number 27 = .ok (.iload_n 3, 1) := by decide +kernel
theorem dX9_number_28 : decode cX9_number 28 = .ok (.bipush 10, 2) := by decide +kernel
theorem dX9_number_30 : decode cX9_number 30 = .ok (.imul, 1) := by decide +kernel
theorem dX9_number_31 : decode cX9_number 31 = .ok (.aload_n 0, 1) := by decide +kernel
theorem dX9_number_32 : decode cX9_number 32 = .ok (.invokevirtual 37, 3) := by decide +kernel
theorem dX9_number_35 : decode cX9_number 35 = .ok (.iadd, 1) := by decide +kernel
theorem dX9_number_36 : decode cX9_number 36 = .ok (.bipush 48, 2) := by decide +kernel
theorem dX9_number_38 : decode cX9_number 38 = .ok (.isub, 1) := by decide +kernel
theorem dX9_number_39 : decode cX9_number 39 = .ok (.istore_n 3, 1) := by decide +kernel
theorem dX9_number_40 : decode cX9_number 40 = .ok (.aload_n 0, 1) := by decide +kernel
theorem dX9_number_41 : decode cX9_number 41 = .ok (.invokevirtual 45, 3) := by decide +kernel
theorem dX9_number_44 : decode cX9_number 44 = .ok (.iinc 4 1, 3) := by decide +kernel
theorem dX9_number_47 : decode cX9_number 47 = .ok (.goto (-37), 3) := by decide +kernel
theorem dX9_number_50 : decode cX9_number 50 = .ok (.aload_n 0, 1) := by decide +kernel
theorem dX9_number_51 : decode cX9_number 51 = .ok (.getfield 19, 3) := by decide +kernel
theorem dX9_number_54 : decode cX9_number 54 = .ok (.iload_n 2, 1) := by decide +kernel
theorem dX9_number_55 : decode cX9_number 55 = .ok (.if_icmp .ne 15, 3) := by decide +kernel
theorem dX9_number_58 : decode cX9_number 58 = .ok (.aload_n 0, 1) := by decide +kernel
theorem dX9_number_59 : decode cX9_number 59 = .ok (.iconst 1, 1) := by decide +kernel
theorem dX9_number_60 : decode cX9_number 60 = .ok (.aload_n 0, 1) := by decide +kernel
theorem dX9_number_61 : decode cX9_number 61 = .ok (.getfield 19, 3) := by decide +kernel
theorem dX9_number_64 : decode cX9_number 64 = .ok (.invokevirtual 41, 3) := by decide +kernel
theorem dX9_number_67 : decode cX9_number 67 = .ok (.pop, 1) := by decide +kernel
theorem dX9_number_68 : decode cX9_number 68 = .ok (.iconst (-1), 1) := by decide +kernel
theorem dX9_number_69 : decode cX9_number 69 = .ok (.ireturn, 1) := by decide +kernel
theorem dX9_number_70 : decode cX9_number 70 = .ok (.aload_n 0, 1) := by decide +kernel
theorem dX9_number_71 : decode cX9_number 71 = .ok (.bipush 48, 2) := by decide +kernel
theorem dX9_number_73 : decode cX9_number 73 = .ok (.bipush 57, 2) := by decide +kernel
theorem dX9_number_75 : decode cX9_number 75 = .ok (.invokevirtual 48, 3) := by decide +kernel
theorem dX9_number_78 : decode cX9_number 78 = .ok (.ifCond .eq 15, 3) := by decide +kernel
theorem dX9_number_81 : decode cX9_number 81 = .ok (.aload_n 0, 1) := by decide +kernel
theorem dX9_number_82 : decode cX9_number 82 = .ok (.iconst 2, 1) := by decide +kernel
theorem dX9_number_83 : decode cX9_number 83 = .ok (.aload_n 0, 1) := by decide +kernel
theorem dX9_number_84 : decode cX9_number 84 = .ok (.getfield 19, 3) := by decide +kernel
theorem dX9_number_87 : decode cX9_number 87 = .ok (.invokevirtual 41, 3) := by decide +kernel
theorem dX9_number_90 : decode cX9_number 90 = .ok (.pop, 1) := by decide +kernel
theorem dX9_number_91 : decode cX9_number 91 = .ok (.iconst (-1), 1) := by decide +kernel
theorem dX9_number_92 : decode cX9_number 92 = .ok (.ireturn, 1) := by decide +kernel
theorem dX9_number_93 : decode cX9_number 93 = .ok (.iload_n 3, 1) := by decide +kernel
theorem dX9_number_94 : decode cX9_number 94 = .ok (.ireturn, 1) := by decide +kernel
def f_X9_number_n50 (x1 : Int32) (S0 : Gr) (x2 : Int32) (x3 : Int32) : Option (Int32 × Gr) := if (S0.1 2) = x2 then ((f_X9_failAt S0 1 (S0.1 2)).bind fun u13 => some ((-1), u13.2)) else ((f_X9_isAt S0 48 57).bind fun u10 => if u10 = 0 then (some (x3, S0)) else ((f_X9_failAt S0 2 (S0.1 2)).bind fun u12 => some ((-1), u12.2)))
def f_X9_number_n10 (x1 : Int32) : Nat → Gr → Int32 → Int32 → Int32 → Option (Int32 × Gr)
  | 0, _, _, _, _ => none
  | n + 1, S0, x2, x3, x4 => if x1 ≤ x4 then (f_X9_number_n50 x1 S0 x2 x3) else ((f_X9_isAt S0 48 57).bind fun u3 => if u3 = 0 then (f_X9_number_n50 x1 S0 x2 x3) else ((f_X9_peek S0).bind fun u5 => lt' ((((x3 * 10) + u5) - 48)) fun v6 => (f_X9_step S0).bind fun u7 => lt' (x4 + 1) fun v8 => f_X9_number_n10 x1 n u7 x2 v6 v8))
def f_X9_number (S0 : Gr) (x1 : Int32) : Option (Int32 × Gr) := lt' ((S0.1 2)) fun v1 => f_X9_number_n10 x1 fu S0 v1 0 0
set_option maxHeartbeats 4000000 in
set_option maxRecDepth 100000 in
theorem c_X9_number (l : Launch) (E : Ec) (q0 : Nat → Nat) (sz : Nat) (S0 : Gr) (x1 : Int32) (Rv : Int32 × Gr) (h : f_X9_number S0 x1 = some Rv) : Met l yX9_number (wsM (.code yX9_number cX9_number 5 (some .int))) ({ frames := 1, cells := 0, slots := 0, locals := 22 } : Room) (va_Pc [.ref (q0 0), .int x1] (ctP E (cw_X9 E q0 S0) sz)) (ctI E (cw_X9 E q0 S0) (cw_X9 E q0 Rv.2) sz Rv.1) 0 0 (va_A (cw_X9 E q0 S0) sz) := by
  refine ct_metI (by decide) (Nat.le_of_ble_eq_true rfl) ?_
  intro p e s m ar below meth c A QM hx hb hml hown hg X hP hD hS RET ls hl
  have hown : s.vm.findClass RX9 = some m.cls := hown
  have hl : lv_has ls 5 [(0, .ref (q0 0)), (1, .int x1)] := hl
  have RT : ∀ (v : Int32) (S0 : Gr) (H : Heap) (locs : List Loc) (ls : Array Slot) (pc : Nat), some (v, S0) = some Rv → narrow .int (.int v) = .int v → va_P E.1 vwCl (cw_X9 E q0 S0) H → va_D A (cw_X9 E q0 S0) → va_S A s.heap H locs → decode cX9_number pc = .ok (.ireturn, 1) → W p l e ({ frames := 1, cells := 0, slots := 0, locals := 22 } : Room) s m ar below meth c H locs 0 0 QM (F0 m pc ls [.int v]) := by
    intro v S0 H locs ls pc e hn hP hD hS d
    obtain rfl := sm_e e
    exact RET H locs pc ls hn hP hD hS d
  clear RET
  have N50 : ∀ (S0 : Gr) (x2 : Int32) (x3 : Int32) (H : Heap) (locs : List Loc) (ls : Array Slot), f_X9_number_n50 x1 S0 x2 x3 = some Rv → va_P E.1 vwCl (cw_X9 E q0 S0) H → va_D A (cw_X9 E q0 S0) → va_S A s.heap H locs → lv_has ls 5 [(0, .ref (q0 0)), (2, .int x2), (3, .int x3)] → W p l e ({ frames := 1, cells := 0, slots := 0, locals := 22 } : Room) s m ar below meth c H locs 0 0 QM (F0 m 50 ls []) := by
    intro S0 x2 x3 H locs ls h hP hD hS hl
    refine lv_aload_n hx hb dX9_number_50 rfl (lv_at hl 0 rfl) ?_
    refine va_get (D := E.1) (ci := 8) (v := .int (S0.1 2)) (C := RX9) (T := TX9) (N := 4) hx hb hg in_X9 hown X.1 hP 0 rfl rfl 2 (by decide) (hg _ wf_X9_19) (fun _ h9 => h9) rfl dX9_number_51 ?_
    refine lv_iload_n hx hb dX9_number_54 rfl (lv_at hl 1 rfl) ?_
    refine lv_icmp_ne (tgt := 70) hx hb dX9_number_55 (by decide) (fun c9 => ?_) (fun c9 => ?_)
    · have h := it_f h c9
      refine lv_aload_n hx hb dX9_number_70 rfl (lv_at hl 0 rfl) ?_
      refine lv_bipush (v := 48) hx hb dX9_number_71 (by decide) ?_
      refine lv_bipush (v := 57) hx hb dX9_number_73 (by decide) ?_
      obtain ⟨u10, hc, h⟩ := bd_el h
      refine ct_iA (w1 := cw_X9 E q0 S0) X hP hD hS (va_runV (C := RX9) (As := [.int 48, .int 57]) (rest := []) ⟨hx, hb, hml, hown, hg⟩ (c_X9_isAt l E q0 H.size S0 48 57 u10 hc) (cwV 2 hg (gwV wm_X9_48 wi_X9_isAt wsl_X9_isAt wini_X9 wco_X9_isAt) rfl rfl rfl (by decide +kernel) ⟨Nat.le_of_ble_eq_true rfl, Nat.le_of_ble_eq_true rfl⟩) ⟨ct_blind, ct_rv X.1 hP 0 rfl rfl, ct_preA X hP hD hS _⟩ rfl rfl hl.1 rfl (lv_room (Nat.le_of_ble_eq_true rfl)) dX9_number_75 ⟨Nat.zero_le _, Nat.zero_le _⟩) (fun H locs hP hD hS => ?_)
      refine lv_if_eq (tgt := 93) hx hb dX9_number_78 (by decide) (fun c11 => ?_) (fun c11 => ?_)
      · have h := it_t h c11
        refine lv_iload_n hx hb dX9_number_93 rfl (lv_at hl 2 rfl) ?_
        exact RT x3 S0 _ _ _ _ h rfl hP hD hS dX9_number_94
      · have h := it_f h c11
        refine lv_aload_n hx hb dX9_number_81 rfl (lv_at hl 0 rfl) ?_
        refine lv_iconst (v := 2) hx hb dX9_number_82 (by decide) ?_
        refine lv_aload_n hx hb dX9_number_83 rfl (lv_at hl 0 rfl) ?_
        refine va_get (D := E.1) (ci := 8) (v := .int (S0.1 2)) (C := RX9) (T := TX9) (N := 4) hx hb hg in_X9 hown X.1 hP 0 rfl rfl 2 (by decide) (hg _ wf_X9_19) (fun _ h9 => h9) rfl dX9_number_84 ?_
        obtain ⟨u12, hc, h⟩ := bd_el h
        refine ct_iA (w1 := cw_X9 E q0 u12.2) X hP hD hS (va_runV (C := RX9) (As := [.int 2, .int (S0.1 2)]) (rest := []) ⟨hx, hb, hml, hown, hg⟩ (c_X9_failAt l E q0 H.size S0 2 (S0.1 2) u12 hc) (cwV 2 hg (gwV wm_X9_41 wi_X9_failAt wsl_X9_failAt wini_X9 wco_X9_failAt) rfl rfl rfl (by decide +kernel) ⟨Nat.le_of_ble_eq_true rfl, Nat.le_of_ble_eq_true rfl⟩) ⟨ct_blind, ct_rv X.1 hP 0 rfl rfl, ct_preA X hP hD hS _⟩ rfl rfl hl.1 rfl (lv_room (Nat.le_of_ble_eq_true rfl)) dX9_number_87 ⟨Nat.zero_le _, Nat.zero_le _⟩) (fun H locs hP hD hS => ?_)
        refine lv_pop hx hb dX9_number_90 rfl ?_
        refine lv_iconst (v := (-1)) hx hb dX9_number_91 (by decide) ?_
        exact RT (-1) u12.2 _ _ _ _ h rfl hP hD hS dX9_number_92
    · have h := it_t h c9
      refine lv_aload_n hx hb dX9_number_58 rfl (lv_at hl 0 rfl) ?_
      refine lv_iconst (v := 1) hx hb dX9_number_59 (by decide) ?_
      refine lv_aload_n hx hb dX9_number_60 rfl (lv_at hl 0 rfl) ?_
      refine va_get (D := E.1) (ci := 8) (v := .int (S0.1 2)) (C := RX9) (T := TX9) (N := 4) hx hb hg in_X9 hown X.1 hP 0 rfl rfl 2 (by decide) (hg _ wf_X9_19) (fun _ h9 => h9) rfl dX9_number_61 ?_
      obtain ⟨u13, hc, h⟩ := bd_el h
      refine ct_iA (w1 := cw_X9 E q0 u13.2) X hP hD hS (va_runV (C := RX9) (As := [.int 1, .int (S0.1 2)]) (rest := []) ⟨hx, hb, hml, hown, hg⟩ (c_X9_failAt l E q0 H.size S0 1 (S0.1 2) u13 hc) (cwV 2 hg (gwV wm_X9_41 wi_X9_failAt wsl_X9_failAt wini_X9 wco_X9_failAt) rfl rfl rfl (by decide +kernel) ⟨Nat.le_of_ble_eq_true rfl, Nat.le_of_ble_eq_true rfl⟩) ⟨ct_blind, ct_rv X.1 hP 0 rfl rfl, ct_preA X hP hD hS _⟩ rfl rfl hl.1 rfl (lv_room (Nat.le_of_ble_eq_true rfl)) dX9_number_64 ⟨Nat.zero_le _, Nat.zero_le _⟩) (fun H locs hP hD hS => ?_)
      refine lv_pop hx hb dX9_number_67 rfl ?_
      refine lv_iconst (v := (-1)) hx hb dX9_number_68 (by decide) ?_
      exact RT (-1) u13.2 _ _ _ _ h rfl hP hD hS dX9_number_69
  have N10 : ∀ (n : Nat) (S0 : Gr) (x2 : Int32) (x3 : Int32) (x4 : Int32) (H : Heap) (locs : List Loc) (ls : Array Slot), f_X9_number_n10 x1 n S0 x2 x3 x4 = some Rv → va_P E.1 vwCl (cw_X9 E q0 S0) H → va_D A (cw_X9 E q0 S0) → va_S A s.heap H locs → lv_has ls 5 [(0, .ref (q0 0)), (1, .int x1), (2, .int x2), (3, .int x3), (4, .int x4)] → W p l e ({ frames := 1, cells := 0, slots := 0, locals := 22 } : Room) s m ar below meth c H locs 0 0 QM (F0 m 10 ls []) := by
    intro n
    induction n with
    | zero => intro S0 x2 x3 x4 H locs ls h; exact nn_el h
    | succ n ih =>
      intro S0 x2 x3 x4 H locs ls h hP hD hS hl
      refine lv_iload hx hb dX9_number_10 (lv_at hl 4 rfl) ?_
      refine lv_iload_n hx hb dX9_number_12 rfl (lv_at hl 1 rfl) ?_
      refine lv_icmp_ge (tgt := 50) hx hb dX9_number_13 (by decide) (fun c2 => ?_) (fun c2 => ?_)
      · have h := it_t h c2
        exact N50  S0 x2 x3 _ _ _ h hP hD hS (lv_sub hl [0, 2, 3] rfl)
      · have h := it_f h c2
        refine lv_aload_n hx hb dX9_number_16 rfl (lv_at hl 0 rfl) ?_
        refine lv_bipush (v := 48) hx hb dX9_number_17 (by decide) ?_
        refine lv_bipush (v := 57) hx hb dX9_number_19 (by decide) ?_
        obtain ⟨u3, hc, h⟩ := bd_el h
        refine ct_iA (w1 := cw_X9 E q0 S0) X hP hD hS (va_runV (C := RX9) (As := [.int 48, .int 57]) (rest := []) ⟨hx, hb, hml, hown, hg⟩ (c_X9_isAt l E q0 H.size S0 48 57 u3 hc) (cwV 2 hg (gwV wm_X9_48 wi_X9_isAt wsl_X9_isAt wini_X9 wco_X9_isAt) rfl rfl rfl (by decide +kernel) ⟨Nat.le_of_ble_eq_true rfl, Nat.le_of_ble_eq_true rfl⟩) ⟨ct_blind, ct_rv X.1 hP 0 rfl rfl, ct_preA X hP hD hS _⟩ rfl rfl hl.1 rfl (lv_room (Nat.le_of_ble_eq_true rfl)) dX9_number_21 ⟨Nat.zero_le _, Nat.zero_le _⟩) (fun H locs hP hD hS => ?_)
        refine lv_if_eq (tgt := 50) hx hb dX9_number_24 (by decide) (fun c4 => ?_) (fun c4 => ?_)
        · have h := it_t h c4
          exact N50  S0 x2 x3 _ _ _ h hP hD hS (lv_sub hl [0, 2, 3] rfl)
        · have h := it_f h c4
          refine lv_iload_n hx hb dX9_number_27 rfl (lv_at hl 3 rfl) ?_
          refine lv_bipush (v := 10) hx hb dX9_number_28 (by decide) ?_
          refine lv_imul hx hb dX9_number_30 ?_
          refine lv_aload_n hx hb dX9_number_31 rfl (lv_at hl 0 rfl) ?_
          obtain ⟨u5, hc, h⟩ := bd_el h
          refine ct_iA (w1 := cw_X9 E q0 S0) X hP hD hS (va_runV (C := RX9) (As := []) (rest := [.int (x3 * 10)]) ⟨hx, hb, hml, hown, hg⟩ (c_X9_peek l E q0 H.size S0 u5 hc) (cwV 0 hg (gwV wm_X9_37 wi_X9_peek wsl_X9_peek wini_X9 wco_X9_peek) rfl rfl rfl (by decide +kernel) ⟨Nat.le_of_ble_eq_true rfl, Nat.le_of_ble_eq_true rfl⟩) ⟨ct_blind, ct_rv X.1 hP 0 rfl rfl, ct_preA X hP hD hS _⟩ rfl rfl hl.1 rfl (lv_room (Nat.le_of_ble_eq_true rfl)) dX9_number_32 ⟨Nat.zero_le _, Nat.zero_le _⟩) (fun H locs hP hD hS => ?_)
          refine lv_iadd hx hb dX9_number_35 ?_
          refine lv_bipush (v := 48) hx hb dX9_number_36 (by decide) ?_
          refine lv_isub hx hb dX9_number_38 ?_
          obtain ⟨v6, ev6, h⟩ := lt_el h
          refine lv_top' ev6 ?_
          refine lv_istore_n (lv' := [(3, .int v6), (0, .ref (q0 0)), (1, .int x1), (2, .int x2), (4, .int x4)]) hx hb dX9_number_39 rfl hl (by decide) rfl (fun ls hl => ?_)
          refine lv_aload_n hx hb dX9_number_40 rfl (lv_at hl 1 rfl) ?_
          obtain ⟨u7, hc, h⟩ := bd_el h
          refine ct_vA (w1 := cw_X9 E q0 u7) X hP hD hS (va_runV (C := RX9) (As := []) (rest := []) ⟨hx, hb, hml, hown, hg⟩ (c_X9_step l E q0 H.size S0 u7 hc) (cwV 0 hg (gwV wm_X9_45 wi_X9_step wsl_X9_step wini_X9 wco_X9_step) rfl rfl rfl (by decide +kernel) ⟨Nat.le_of_ble_eq_true rfl, Nat.le_of_ble_eq_true rfl⟩) ⟨ct_blind, ct_rv X.1 hP 0 rfl rfl, ct_preA X hP hD hS _⟩ rfl rfl hl.1 rfl (lv_room (Nat.le_of_ble_eq_true rfl)) dX9_number_41 ⟨Nat.zero_le _, Nat.zero_le _⟩) (fun H locs hP hD hS => ?_)
          obtain ⟨v8, ev8, h⟩ := lt_el h
          refine lv_iinc (v := v8) (lv' := [(4, .int v8), (3, .int v6), (0, .ref (q0 0)), (1, .int x1), (2, .int x2)]) hx hb dX9_number_44 hl (k := 4) rfl (by rw [ev8]; rfl) (by decide) rfl (fun ls hl => ?_)
          refine lv_goto (tgt := 10) hx hb dX9_number_47 (by decide) ?_
          exact ih u7 x2 v6 v8 _ _ _ h hP hD hS (lv_sub hl [2, 3, 4, 1, 0] rfl)
  obtain ⟨H, eH⟩ : ∃ z, z = s.heap := ⟨_, rfl⟩
  rw [← eH]
  have hP : va_P E.1 vwCl (cw_X9 E q0 S0) H := by rw [eH]; exact hP
  have hS : va_S A s.heap H [] := by rw [eH]; exact hS
  clear eH
  obtain ⟨locs, el⟩ : ∃ z : List Loc, z = [] := ⟨_, rfl⟩
  rw [← el] at hS ⊢
  clear el
  refine lv_aload_n hx hb dX9_number_0 rfl (lv_at hl 0 rfl) ?_
  refine va_get (D := E.1) (ci := 8) (v := .int (S0.1 2)) (C := RX9) (T := TX9) (N := 4) hx hb hg in_X9 hown X.1 hP 0 rfl rfl 2 (by decide) (hg _ wf_X9_19) (fun _ h9 => h9) rfl dX9_number_1 ?_
  obtain ⟨v1, ev1, h⟩ := lt_el h
  refine lv_top' ev1 ?_
  refine lv_istore_n (lv' := [(2, .int v1), (0, .ref (q0 0)), (1, .int x1)]) hx hb dX9_number_4 rfl hl (by decide) rfl (fun ls hl => ?_)
  refine lv_iconst (v := 0) hx hb dX9_number_5 (by decide) ?_
  refine lv_istore_n (lv' := [(3, .int 0), (2, .int v1), (0, .ref (q0 0)), (1, .int x1)]) hx hb dX9_number_6 rfl hl (by decide) rfl (fun ls hl => ?_)
  refine lv_iconst (v := 0) hx hb dX9_number_7 (by decide) ?_
  refine lv_istore (lv' := [(4, .int 0), (3, .int 0), (2, .int v1), (0, .ref (q0 0)), (1, .int x1)]) hx hb dX9_number_8 hl (by decide) rfl (fun ls hl => ?_)
  exact N10 fu S0 v1 0 0 _ _ _ h hP hD hS (lv_sub hl [3, 4, 2, 1, 0] rfl)
theorem dX9_fail_0 : decode cX9_fail 0 = .ok (.aload_n 0, 1) := by decide +kernel
theorem dX9_fail_1 : decode cX9_fail 1 = .ok (.iload_n 1, 1) := by decide +kernel
theorem dX9_fail_2 : decode cX9_fail 2 = .ok (.aload_n 0, 1) := by decide +kernel
theorem dX9_fail_3 : decode cX9_fail 3 = .ok (.getfield 19, 3) := by decide +kernel
theorem dX9_fail_6 : decode cX9_fail 6 = .ok (.invokevirtual 41, 3) := by decide +kernel
theorem dX9_fail_9 : decode cX9_fail 9 = .ok (.ireturn, 1) := by decide +kernel
def f_X9_fail (S0 : Gr) (x1 : Int32) : Option (Int32 × Gr) := (f_X9_failAt S0 x1 (S0.1 2)).bind fun u1 => zb' u1.1 (some (u1.1, u1.2))
set_option maxHeartbeats 4000000 in
set_option maxRecDepth 100000 in
theorem c_X9_fail (l : Launch) (E : Ec) (q0 : Nat → Nat) (sz : Nat) (S0 : Gr) (x1 : Int32) (Rv : Int32 × Gr) (h : f_X9_fail S0 x1 = some Rv) : Met l yX9_fail (wsM (.code yX9_fail cX9_fail 2 (some .boolean))) ({ frames := 1, cells := 0, slots := 0, locals := 22 } : Room) (va_Pc [.ref (q0 0), .int x1] (ctP E (cw_X9 E q0 S0) sz)) (ctI E (cw_X9 E q0 S0) (cw_X9 E q0 Rv.2) sz Rv.1) 0 0 (va_A (cw_X9 E q0 S0) sz) := by
  refine ct_metI (by decide) (Nat.le_of_ble_eq_true rfl) ?_
  intro p e s m ar below meth c A QM hx hb hml hown hg X hP hD hS RET ls hl
  have hown : s.vm.findClass RX9 = some m.cls := hown
  have hl : lv_has ls 2 [(0, .ref (q0 0)), (1, .int x1)] := hl
  have RT : ∀ (v : Int32) (S0 : Gr) (H : Heap) (locs : List Loc) (ls : Array Slot) (pc : Nat), some (v, S0) = some Rv → narrow .boolean (.int v) = .int v → va_P E.1 vwCl (cw_X9 E q0 S0) H → va_D A (cw_X9 E q0 S0) → va_S A s.heap H locs → decode cX9_fail pc = .ok (.ireturn, 1) → W p l e ({ frames := 1, cells := 0, slots := 0, locals := 22 } : Room) s m ar below meth c H locs 0 0 QM (F0 m pc ls [.int v]) := by
    intro v S0 H locs ls pc e hn hP hD hS d
    obtain rfl := sm_e e
    exact RET H locs pc ls hn hP hD hS d
  clear RET
  obtain ⟨H, eH⟩ : ∃ z, z = s.heap := ⟨_, rfl⟩
  rw [← eH]
  have hP : va_P E.1 vwCl (cw_X9 E q0 S0) H := by rw [eH]; exact hP
  have hS : va_S A s.heap H [] := by rw [eH]; exact hS
  clear eH
  obtain ⟨locs, el⟩ : ∃ z : List Loc, z = [] := ⟨_, rfl⟩
  rw [← el] at hS ⊢
  clear el
  refine lv_aload_n hx hb dX9_fail_0 rfl (lv_at hl 0 rfl) ?_
  refine lv_iload_n hx hb dX9_fail_1 rfl (lv_at hl 1 rfl) ?_
  refine lv_aload_n hx hb dX9_fail_2 rfl (lv_at hl 0 rfl) ?_
  refine va_get (D := E.1) (ci := 8) (v := .int (S0.1 2)) (C := RX9) (T := TX9) (N := 4) hx hb hg in_X9 hown X.1 hP 0 rfl rfl 2 (by decide) (hg _ wf_X9_19) (fun _ h9 => h9) rfl dX9_fail_3 ?_
  obtain ⟨u1, hc, h⟩ := bd_el h
  refine ct_iA (w1 := cw_X9 E q0 u1.2) X hP hD hS (va_runV (C := RX9) (As := [.int x1, .int (S0.1 2)]) (rest := []) ⟨hx, hb, hml, hown, hg⟩ (c_X9_failAt l E q0 H.size S0 x1 (S0.1 2) u1 hc) (cwV 2 hg (gwV wm_X9_41 wi_X9_failAt wsl_X9_failAt wini_X9 wco_X9_failAt) rfl rfl rfl (by decide +kernel) ⟨Nat.le_of_ble_eq_true rfl, Nat.le_of_ble_eq_true rfl⟩) ⟨ct_blind, ct_rv X.1 hP 0 rfl rfl, ct_preA X hP hD hS _⟩ rfl rfl hl.1 rfl (lv_room (Nat.le_of_ble_eq_true rfl)) dX9_fail_6 ⟨Nat.zero_le _, Nat.zero_le _⟩) (fun H locs hP hD hS => ?_)
  obtain ⟨hn1, -, h⟩ := zb_el h
  exact RT u1.1 u1.2 _ _ _ _ h hn1 hP hD hS dX9_fail_9
theorem dX9_stepOver_0 : decode cX9_stepOver 0 = .ok (.aload_n 0, 1) := by decide +kernel
theorem dX9_stepOver_1 : decode cX9_stepOver 1 = .ok (.invokevirtual 37, 3) := by decide +kernel
theorem dX9_stepOver_4 : decode cX9_stepOver 4 = .ok (.iload_n 1, 1) := by decide +kernel
theorem dX9_stepOver_5 : decode cX9_stepOver 5 = .ok (.if_icmp .eq 13, 3) := by decide +kernel
theorem dX9_stepOver_8 : decode cX9_stepOver 8 = .ok (.aload_n 0, 1) := by decide +kernel
theorem dX9_stepOver_9 : decode cX9_stepOver 9 = .ok (.iconst 1, 1) := by decide +kernel
theorem dX9_stepOver_10 : decode cX9_stepOver 10 = .ok (.aload_n 0, 1) := by decide +kernel
theorem dX9_stepOver_11 : decode cX9_stepOver 11 = .ok (.getfield 19, 3) := by decide +kernel
theorem dX9_stepOver_14 : decode cX9_stepOver 14 = .ok (.invokevirtual 41, 3) := by decide +kernel
theorem dX9_stepOver_17 : decode cX9_stepOver 17 = .ok (.ireturn, 1) := by decide +kernel
theorem dX9_stepOver_18 : decode cX9_stepOver 18 = .ok (.aload_n 0, 1) := by decide +kernel
theorem dX9_stepOver_19 : decode cX9_stepOver 19 = .ok (.invokevirtual 45, 3) := by decide +kernel
theorem dX9_stepOver_22 : decode cX9_stepOver 22 = .ok (.iconst 1, 1) := by decide +kernel
theorem dX9_stepOver_23 : decode cX9_stepOver 23 = .ok (.ireturn, 1) := by decide +kernel
def f_X9_stepOver (S0 : Gr) (x1 : Int32) : Option (Int32 × Gr) := (f_X9_peek S0).bind fun u1 => if u1 = x1 then ((f_X9_step S0).bind fun u3 => some (1, u3)) else ((f_X9_failAt S0 1 (S0.1 2)).bind fun u4 => zb' u4.1 (some (u4.1, u4.2)))
set_option maxHeartbeats 4000000 in
set_option maxRecDepth 100000 in
theorem c_X9_stepOver (l : Launch) (E : Ec) (q0 : Nat → Nat) (sz : Nat) (S0 : Gr) (x1 : Int32) (Rv : Int32 × Gr) (h : f_X9_stepOver S0 x1 = some Rv) : Met l yX9_stepOver (wsM (.code yX9_stepOver cX9_stepOver 2 (some .boolean))) ({ frames := 1, cells := 0, slots := 0, locals := 22 } : Room) (va_Pc [.ref (q0 0), .int x1] (ctP E (cw_X9 E q0 S0) sz)) (ctI E (cw_X9 E q0 S0) (cw_X9 E q0 Rv.2) sz Rv.1) 0 0 (va_A (cw_X9 E q0 S0) sz) := by
  refine ct_metI (by decide) (Nat.le_of_ble_eq_true rfl) ?_
  intro p e s m ar below meth c A QM hx hb hml hown hg X hP hD hS RET ls hl
  have hown : s.vm.findClass RX9 = some m.cls := hown
  have hl : lv_has ls 2 [(0, .ref (q0 0)), (1, .int x1)] := hl
  have RT : ∀ (v : Int32) (S0 : Gr) (H : Heap) (locs : List Loc) (ls : Array Slot) (pc : Nat), some (v, S0) = some Rv → narrow .boolean (.int v) = .int v → va_P E.1 vwCl (cw_X9 E q0 S0) H → va_D A (cw_X9 E q0 S0) → va_S A s.heap H locs → decode cX9_stepOver pc = .ok (.ireturn, 1) → W p l e ({ frames := 1, cells := 0, slots := 0, locals := 22 } : Room) s m ar below meth c H locs 0 0 QM (F0 m pc ls [.int v]) := by
    intro v S0 H locs ls pc e hn hP hD hS d
    obtain rfl := sm_e e
    exact RET H locs pc ls hn hP hD hS d
  clear RET
  obtain ⟨H, eH⟩ : ∃ z, z = s.heap := ⟨_, rfl⟩
  rw [← eH]
  have hP : va_P E.1 vwCl (cw_X9 E q0 S0) H := by rw [eH]; exact hP
  have hS : va_S A s.heap H [] := by rw [eH]; exact hS
  clear eH
  obtain ⟨locs, el⟩ : ∃ z : List Loc, z = [] := ⟨_, rfl⟩
  rw [← el] at hS ⊢
  clear el
  refine lv_aload_n hx hb dX9_stepOver_0 rfl (lv_at hl 0 rfl) ?_
  obtain ⟨u1, hc, h⟩ := bd_el h
  refine ct_iA (w1 := cw_X9 E q0 S0) X hP hD hS (va_runV (C := RX9) (As := []) (rest := []) ⟨hx, hb, hml, hown, hg⟩ (c_X9_peek l E q0 H.size S0 u1 hc) (cwV 0 hg (gwV wm_X9_37 wi_X9_peek wsl_X9_peek wini_X9 wco_X9_peek) rfl rfl rfl (by decide +kernel) ⟨Nat.le_of_ble_eq_true rfl, Nat.le_of_ble_eq_true rfl⟩) ⟨ct_blind, ct_rv X.1 hP 0 rfl rfl, ct_preA X hP hD hS _⟩ rfl rfl hl.1 rfl (lv_room (Nat.le_of_ble_eq_true rfl)) dX9_stepOver_1 ⟨Nat.zero_le _, Nat.zero_le _⟩) (fun H locs hP hD hS => ?_)
  refine lv_iload_n hx hb dX9_stepOver_4 rfl (lv_at hl 1 rfl) ?_
  refine lv_icmp_eq (tgt := 18) hx hb dX9_stepOver_5 (by decide) (fun c2 => ?_) (fun c2 => ?_)
  · have h := it_t h c2
    refine lv_aload_n hx hb dX9_stepOver_18 rfl (lv_at hl 0 rfl) ?_
    obtain ⟨u3, hc, h⟩ := bd_el h
    refine ct_vA (w1 := cw_X9 E q0 u3) X hP hD hS (va_runV (C := RX9) (As := []) (rest := []) ⟨hx, hb, hml, hown, hg⟩ (c_X9_step l E q0 H.size S0 u3 hc) (cwV 0 hg (gwV wm_X9_45 wi_X9_step wsl_X9_step wini_X9 wco_X9_step) rfl rfl rfl (by decide +kernel) ⟨Nat.le_of_ble_eq_true rfl, Nat.le_of_ble_eq_true rfl⟩) ⟨ct_blind, ct_rv X.1 hP 0 rfl rfl, ct_preA X hP hD hS _⟩ rfl rfl hl.1 rfl (lv_room (Nat.le_of_ble_eq_true rfl)) dX9_stepOver_19 ⟨Nat.zero_le _, Nat.zero_le _⟩) (fun H locs hP hD hS => ?_)
    refine lv_iconst (v := 1) hx hb dX9_stepOver_22 (by decide) ?_
    exact RT 1 u3 _ _ _ _ h (by decide +kernel) hP hD hS dX9_stepOver_23
  · have h := it_f h c2
    refine lv_aload_n hx hb dX9_stepOver_8 rfl (lv_at hl 0 rfl) ?_
    refine lv_iconst (v := 1) hx hb dX9_stepOver_9 (by decide) ?_
    refine lv_aload_n hx hb dX9_stepOver_10 rfl (lv_at hl 0 rfl) ?_
    refine va_get (D := E.1) (ci := 8) (v := .int (S0.1 2)) (C := RX9) (T := TX9) (N := 4) hx hb hg in_X9 hown X.1 hP 0 rfl rfl 2 (by decide) (hg _ wf_X9_19) (fun _ h9 => h9) rfl dX9_stepOver_11 ?_
    obtain ⟨u4, hc, h⟩ := bd_el h
    refine ct_iA (w1 := cw_X9 E q0 u4.2) X hP hD hS (va_runV (C := RX9) (As := [.int 1, .int (S0.1 2)]) (rest := []) ⟨hx, hb, hml, hown, hg⟩ (c_X9_failAt l E q0 H.size S0 1 (S0.1 2) u4 hc) (cwV 2 hg (gwV wm_X9_41 wi_X9_failAt wsl_X9_failAt wini_X9 wco_X9_failAt) rfl rfl rfl (by decide +kernel) ⟨Nat.le_of_ble_eq_true rfl, Nat.le_of_ble_eq_true rfl⟩) ⟨ct_blind, ct_rv X.1 hP 0 rfl rfl, ct_preA X hP hD hS _⟩ rfl rfl hl.1 rfl (lv_room (Nat.le_of_ble_eq_true rfl)) dX9_stepOver_14 ⟨Nat.zero_le _, Nat.zero_le _⟩) (fun H locs hP hD hS => ?_)
    obtain ⟨hn1, -, h⟩ := zb_el h
    exact RT u4.1 u4.2 _ _ _ _ h hn1 hP hD hS dX9_stepOver_17
theorem dX9_take_0 : decode cX9_take 0 = .ok (.aload_n 0, 1) := by decide +kernel
theorem dX9_take_1 : decode cX9_take 1 = .ok (.iload_n 2, 1) := by decide +kernel
theorem dX9_take_2 : decode cX9_take 2 = .ok (.sipush 240, 3) := by decide +kernel
theorem dX9_take_5 : decode cX9_take 5 = .ok (.invokestatic 25, 3) := by decide +kernel
theorem dX9_take_8 : decode cX9_take 8 = .ok (.putfield 15, 3) := by decide +kernel
theorem dX9_take_11 : decode cX9_take 11 = .ok (.iconst 0, 1) := by decide +kernel
theorem dX9_take_12 : decode cX9_take 12 = .ok (.istore_n 3, 1) := by decide +kernel
theorem dX9_take_13 : decode cX9_take 13 = .ok (.iload_n 3, 1) := by decide +kernel
theorem dX9_take_14 : decode cX9_take 14 = .ok (.aload_n 0, 1) := by decide +kernel
theorem dX9_take_15 : decode cX9_take 15 = .ok (.getfield 15, 3) := by decide +kernel
theorem dX9_take_18 : decode cX9_take 18 = .ok (.if_icmp .ge 20, 3) := by decide +kernel
theorem dX9_take_21 : decode cX9_take 21 = .ok (.aload_n 0, 1) := by decide +kernel
theorem dX9_take_22 : decode cX9_take 22 = .ok (.getfield 9, 3) := by decide +kernel
theorem dX9_take_25 : decode cX9_take 25 = .ok (.iload_n 3, 1) := by decide +kernel
theorem dX9_take_26 : decode cX9_take 26 = .ok (.aload_n 1, 1) := by decide +kernel
theorem dX9_take_27 : decode cX9_take 27 = .ok (.iload_n 3, 1) := by decide +kernel
theorem dX9_take_28 : decode cX9_take 28 = .ok (.invokevirtual 31, 3) := by decide +kernel
theorem dX9_take_31 : decode cX9_take 31 = .ok (.iastore, 1) := by decide +kernel
theorem dX9_take_32 : decode cX9_take 32 = .ok (.iinc 3 1, 3) := by decide +kernel
theorem dX9_take_35 : decode cX9_take 35 = .ok (.goto (-22), 3) := by decide +kernel
theorem dX9_take_38 : decode cX9_take 38 = .ok (.aload_n 0, 1) := by decide +kernel
theorem dX9_take_39 : decode cX9_take 39 = .ok (.iconst 0, 1) := by decide +kernel
theorem dX9_take_40 : decode cX9_take 40 = .ok (.putfield 19, 3) := by decide +kernel
theorem dX9_take_43 : decode cX9_take 43 = .ok (.aload_n 0, 1) := by decide +kernel
theorem dX9_take_44 : decode cX9_take 44 = .ok (.iconst 0, 1) := by decide +kernel
theorem dX9_take_45 : decode cX9_take 45 = .ok (.putfield 22, 3) := by decide +kernel
theorem dX9_take_48 : decode cX9_take 48 = .ok (.return_, 1) := by decide +kernel
def f_X9_take_n13 (S1 : Gr) (x2 : Int32) : Nat → Gr → Int32 → Option (Gr)
  | 0, _, _ => none
  | n + 1, S0, x3 => if (S0.1 1) ≤ x3 then (lt' (sI S0 2 0) fun S0_4 => lt' (sI S0_4 3 0) fun S0_5 => some S0_5) else ((f_X8_at S1 x3).bind fun u6 => ck' 240 x3 (lt' (sA S0 0 (Int32.toNatClampNeg x3) u6) fun S0_7 => lt' (x3 + 1) fun v8 => f_X9_take_n13 S1 x2 n S0_7 v8))
def f_X9_take (S0 : Gr) (S1 : Gr) (x2 : Int32) : Option (Gr) := lt' (mn' x2 240) fun v1 => lt' (sI S0 1 v1) fun S0_2 => f_X9_take_n13 S1 x2 fu S0_2 0
set_option maxHeartbeats 4000000 in
set_option maxRecDepth 100000 in
theorem c_X9_take (l : Launch) (E : Ec) (q0 q1 : Nat → Nat) (sz : Nat) (S0 : Gr) (S1 : Gr) (x2 : Int32) (Rv : Gr) (h : f_X9_take S0 S1 x2 = some Rv) : Met l yX9_take (wsM (.code yX9_take cX9_take 4 none)) ({ frames := 2, cells := 0, slots := 0, locals := 43 } : Room) (va_Pc [.ref (q0 0), .ref (q1 0), .int x2] (ctP E (cw_X9 E q0 S0 ++ (cw_X8 E q1 S1)) sz)) (ctV E (cw_X9 E q0 S0 ++ (cw_X8 E q1 S1)) (cw_X9 E q0 Rv ++ (cw_X8 E q1 S1)) sz) 0 0 (va_A (cw_X9 E q0 S0 ++ (cw_X8 E q1 S1)) sz) := by
  refine ct_metV (by decide) (Nat.le_of_ble_eq_true rfl) ?_
  intro p e s m ar below meth c A QM hx hb hml hown hg X hP hD hS RET ls hl
  have hown : s.vm.findClass RX9 = some m.cls := hown
  have hl : lv_has ls 4 [(0, .ref (q0 0)), (1, .ref (q1 0)), (2, .int x2)] := hl
  have RT : ∀ (S0 : Gr) (H : Heap) (locs : List Loc) (ls : Array Slot) (pc : Nat), some S0 = some Rv → va_P E.1 vwCl (cw_X9 E q0 S0 ++ (cw_X8 E q1 S1)) H → va_D A (cw_X9 E q0 S0 ++ (cw_X8 E q1 S1)) → va_S A s.heap H locs → decode cX9_take pc = .ok (.return_, 1) → W p l e ({ frames := 2, cells := 0, slots := 0, locals := 43 } : Room) s m ar below meth c H locs 0 0 QM (F0 m pc ls []) := by
    intro S0 H locs ls pc e hP hD hS d
    obtain rfl := sm_e e
    exact RET H locs pc ls hP hD hS d
  clear RET
  have N13 : ∀ (n : Nat) (S0 : Gr) (x3 : Int32) (H : Heap) (locs : List Loc) (ls : Array Slot), f_X9_take_n13 S1 x2 n S0 x3 = some Rv → va_P E.1 vwCl (cw_X9 E q0 S0 ++ (cw_X8 E q1 S1)) H → va_D A (cw_X9 E q0 S0 ++ (cw_X8 E q1 S1)) → va_S A s.heap H locs → lv_has ls 4 [(0, .ref (q0 0)), (1, .ref (q1 0)), (3, .int x3)] → W p l e ({ frames := 2, cells := 0, slots := 0, locals := 43 } : Room) s m ar below meth c H locs 0 0 QM (F0 m 13 ls []) := by
    intro n
    induction n with
    | zero => intro S0 x3 H locs ls h; exact nn_el h
    | succ n ih =>
      intro S0 x3 H locs ls h hP hD hS hl
      refine lv_iload_n hx hb dX9_take_13 rfl (lv_at hl 2 rfl) ?_
      refine lv_aload_n hx hb dX9_take_14 rfl (lv_at hl 0 rfl) ?_
      refine va_get (D := E.1) (ci := 8) (v := .int (S0.1 1)) (C := RX9) (T := TX9) (N := 4) hx hb hg in_X9 hown X.1 hP 0 rfl rfl 1 (by decide) (hg _ wf_X9_15) (fun _ h9 => h9) rfl dX9_take_15 ?_
      refine lv_icmp_ge (tgt := 38) hx hb dX9_take_18 (by decide) (fun c3 => ?_) (fun c3 => ?_)
      · have h := it_t h c3
        refine lv_aload_n hx hb dX9_take_38 rfl (lv_at hl 0 rfl) ?_
        refine lv_iconst (v := 0) hx hb dX9_take_39 (by decide) ?_
        obtain ⟨S0_4, eS, h⟩ := lt_el h
        refine va_put (D := E.1) (ci := 8) (v := .int 0) (ty := .int) (C := RX9) (T := TX9) (N := 4) hx hb hg in_X9 tyX9 tyX9_ok nmX9 hown X.1 hP hD hS 0 rfl rfl 2 (by decide) (hg _ wf_X9_19) (fun _ h9 => h9) rfl (by decide +kernel) rfl rfl (Nat.le_of_ble_eq_true rfl) dX9_take_40 (fun H locs hP hD hS => ?_)
        have hP : va_P E.1 vwCl (cw_X9 E q0 S0_4 ++ (cw_X8 E q1 S1)) H := by rw [eS]; exact hP
        have hD : va_D A (cw_X9 E q0 S0_4 ++ (cw_X8 E q1 S1)) := by rw [eS]; exact hD
        clear eS
        refine lv_aload_n hx hb dX9_take_43 rfl (lv_at hl 0 rfl) ?_
        refine lv_iconst (v := 0) hx hb dX9_take_44 (by decide) ?_
        obtain ⟨S0_5, eS, h⟩ := lt_el h
        refine va_put (D := E.1) (ci := 8) (v := .int 0) (ty := .int) (C := RX9) (T := TX9) (N := 4) hx hb hg in_X9 tyX9 tyX9_ok nmX9 hown X.1 hP hD hS 0 rfl rfl 3 (by decide) (hg _ wf_X9_22) (fun _ h9 => h9) rfl (by decide +kernel) rfl rfl (Nat.le_of_ble_eq_true rfl) dX9_take_45 (fun H locs hP hD hS => ?_)
        have hP : va_P E.1 vwCl (cw_X9 E q0 S0_5 ++ (cw_X8 E q1 S1)) H := by rw [eS]; exact hP
        have hD : va_D A (cw_X9 E q0 S0_5 ++ (cw_X8 E q1 S1)) := by rw [eS]; exact hD
        clear eS
        exact RT S0_5 _ _ _ _ h hP hD hS dX9_take_48
      · have h := it_f h c3
        refine lv_aload_n hx hb dX9_take_21 rfl (lv_at hl 0 rfl) ?_
        refine va_get (D := E.1) (ci := 8) (v := .ref (q0 1)) (C := RX9) (T := TX9) (N := 4) hx hb hg in_X9 hown X.1 hP 0 rfl rfl 0 (by decide) (hg _ wf_X9_9) (fun _ h9 => h9) rfl dX9_take_22 ?_
        refine lv_iload_n hx hb dX9_take_25 rfl (lv_at hl 2 rfl) ?_
        refine lv_aload_n hx hb dX9_take_26 rfl (lv_at hl 1 rfl) ?_
        refine lv_iload_n hx hb dX9_take_27 rfl (lv_at hl 2 rfl) ?_
        obtain ⟨u6, hc, h⟩ := bd_el h
        have hC : ([2, 3] : List Nat).map (fun i => (cw_X9 E q0 S0 ++ (cw_X8 E q1 S1))[i]?) = (cw_X8 E q1 S1).map some := rfl
        refine ct_iR X hP hD hS [2, 3] hC (va_runV (C := RX8) (As := [.int x3]) (rest := [.int x3, .ref (q0 1)]) ⟨hx, hb, hml, hown, hg⟩ (c_X8_at l E q1 H.size S1 x3 u6 hc) (cwV 1 hg (gwV wm_X9_31 wi_X8_at wsl_X8_at wini_X8 wco_X8_at) rfl rfl rfl (by decide +kernel) ⟨Nat.le_of_ble_eq_true rfl, Nat.le_of_ble_eq_true rfl⟩) ⟨ct_blind, ct_rv X.1 hP 2 rfl rfl, ct_pre X hP hD hS [2, 3] (by decide) hC _⟩ rfl rfl hl.1 rfl (lv_room (Nat.le_of_ble_eq_true rfl)) dX9_take_28 ⟨Nat.zero_le _, Nat.zero_le _⟩) (fun H locs hP hD hS => ?_)
        clear hC
        obtain ⟨hi, h⟩ := ck_el h
        obtain ⟨S0_7, eS, h⟩ := lt_el h
        refine va_iast hx hb X.1 hP hD hS 1 0 rfl rfl hi dX9_take_31 (fun H locs hP hD hS => ?_)
        have hP : va_P E.1 vwCl (cw_X9 E q0 S0_7 ++ (cw_X8 E q1 S1)) H := by rw [eS]; exact hP
        have hD : va_D A (cw_X9 E q0 S0_7 ++ (cw_X8 E q1 S1)) := by rw [eS]; exact hD
        clear eS
        obtain ⟨v8, ev8, h⟩ := lt_el h
        refine lv_iinc (v := v8) (lv' := [(3, .int v8), (0, .ref (q0 0)), (1, .ref (q1 0))]) hx hb dX9_take_32 hl (k := 2) rfl (by rw [ev8]; rfl) (by decide) rfl (fun ls hl => ?_)
        refine lv_goto (tgt := 13) hx hb dX9_take_35 (by decide) ?_
        exact ih S0_7 v8 _ _ _ h hP hD hS (lv_sub hl [1, 2, 0] rfl)
  obtain ⟨H, eH⟩ : ∃ z, z = s.heap := ⟨_, rfl⟩
  rw [← eH]
  have hP : va_P E.1 vwCl (cw_X9 E q0 S0 ++ (cw_X8 E q1 S1)) H := by rw [eH]; exact hP
  have hS : va_S A s.heap H [] := by rw [eH]; exact hS
  clear eH
  obtain ⟨locs, el⟩ : ∃ z : List Loc, z = [] := ⟨_, rfl⟩
  rw [← el] at hS ⊢
  clear el
  refine lv_aload_n hx hb dX9_take_0 rfl (lv_at hl 0 rfl) ?_
  refine lv_iload_n hx hb dX9_take_1 rfl (lv_at hl 2 rfl) ?_
  refine lv_sipush (v := 240) hx hb dX9_take_2 (by decide) ?_
  obtain ⟨v1, ev1, h⟩ := lt_el h
  refine va_mmin hx hb (hml.trans hl.1.symm) hown (hg _ wm_X9_25) (hg _ wst_Mmin) (hg _ wini_J9) (hg _ wco_Mmin) (Nat.le_of_ble_eq_true rfl) (Nat.le_of_ble_eq_true rfl) (Nat.zero_le _) (Nat.zero_le _) dX9_take_5 ?_
  refine lv_top' ev1 ?_
  obtain ⟨S0_2, eS, h⟩ := lt_el h
  refine va_put (D := E.1) (ci := 8) (v := .int v1) (ty := .int) (C := RX9) (T := TX9) (N := 4) hx hb hg in_X9 tyX9 tyX9_ok nmX9 hown X.1 hP hD hS 0 rfl rfl 1 (by decide) (hg _ wf_X9_15) (fun _ h9 => h9) rfl (by decide +kernel) rfl rfl (Nat.le_of_ble_eq_true rfl) dX9_take_8 (fun H locs hP hD hS => ?_)
  have hP : va_P E.1 vwCl (cw_X9 E q0 S0_2 ++ (cw_X8 E q1 S1)) H := by rw [eS]; exact hP
  have hD : va_D A (cw_X9 E q0 S0_2 ++ (cw_X8 E q1 S1)) := by rw [eS]; exact hD
  clear eS
  refine lv_iconst (v := 0) hx hb dX9_take_11 (by decide) ?_
  refine lv_istore_n (lv' := [(3, .int 0), (0, .ref (q0 0)), (1, .ref (q1 0)), (2, .int x2)]) hx hb dX9_take_12 rfl hl (by decide) rfl (fun ls hl => ?_)
  exact N13 fu S0_2 0 _ _ _ h hP hD hS (lv_sub hl [1, 2, 0] rfl)
