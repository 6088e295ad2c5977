theorem dX2_takeRarest_0 : decode cX2_takeRarest 0 = .ok (.iconst 0, 1) := by decide +kernel
theorem dX2_takeRarest_1 : decode cX2_takeRarest 1 = .ok (.istore_n 2, 1) := by decide +kernel
theorem dX2_takeRarest_2 : decode cX2_takeRarest 2 = .ok (.iconst 1, 1) := by decide +kernel
theorem dX2_takeRarest_3 : decode cX2_takeRarest 3 = .ok (.istore_n 3, 1) := by decide +kernel
theorem dX2_takeRarest_4 : decode cX2_takeRarest 4 = .ok (.iload_n 3, 1) := by decide +kernel
theorem dX2_takeRarest_5 : decode cX2_takeRarest 5 = .ok (.iload_n 1, 1) := by decide +kernel
theorem dX2_takeRarest_6 : decode cX2_takeRarest 6 = .ok (.if_icmp .ge 44, 3) := by decide +kernel
theorem dX2_takeRarest_9 : decode cX2_takeRarest 9 = .ok (.aload_n 0, 1) := by decide +kernel
theorem dX2_takeRarest_10 : decode cX2_takeRarest 10 = .ok (.getfield 27, 3) := by decide +kernel
theorem dX2_takeRarest_13 : decode cX2_takeRarest 13 = .ok (.iload_n 3, 1) := by decide +kernel
theorem dX2_takeRarest_14 : decode cX2_takeRarest 14 = .ok (.baload, 1) := by decide +kernel
theorem dX2_takeRarest_15 : decode cX2_takeRarest 15 = .ok (.ifCond .ne 29, 3) := by decide +kernel
theorem dX2_takeRarest_18 : decode cX2_takeRarest 18 = .ok (.aload_n 0, 1) := by decide +kernel
theorem dX2_takeRarest_19 : decode cX2_takeRarest 19 = .ok (.getfield 27, 3) := by decide +kernel
theorem dX2_takeRarest_22 : decode cX2_takeRarest 22 = .ok (.iload_n 2, 1) := by decide +kernel
theorem dX2_takeRarest_23 : decode cX2_takeRarest 23 = .ok (.baload, 1) := by decide +kernel
theorem dX2_takeRarest_24 : decode cX2_takeRarest 24 = .ok (.ifCond .ne 18, 3) := by decide +kernel
theorem dX2_takeRarest_27 : decode cX2_takeRarest 27 = .ok (.aload_n 0, 1) := by decide +kernel
theorem dX2_takeRarest_28 : decode cX2_takeRarest 28 = .ok (.getfield 21, 3) := by decide +kernel
theorem dX2_takeRarest_31 : decode cX2_takeRarest 31 = .ok (.iload_n 3, 1) := by decide +kernel
theorem dX2_takeRarest_32 : decode cX2_takeRarest 32 = .ok (.iaload, 1) := by decide +kernel
theorem dX2_takeRarest_33 : decode cX2_takeRarest 33 = .ok (.aload_n 0, 1) := by decide +kernel
theorem dX2_takeRarest_34 : decode cX2_takeRarest 34 = .ok (.getfield 21, 3) := by decide +kernel
theorem dX2_takeRarest_37 : decode cX2_takeRarest 37 = .ok (.iload_n 2, 1) := by decide +kernel
theorem dX2_takeRarest_38 : decode cX2_takeRarest 38 = .ok (.iaload, 1) := by decide +kernel
theorem dX2_takeRarest_39 : decode cX2_takeRarest 39 = .ok (.if_icmp .ge 5, 3) := by decide +kernel
theorem dX2_takeRarest_42 : decode cX2_takeRarest 42 = .ok (.iload_n 3, 1) := by decide +kernel
theorem dX2_takeRarest_43 : decode cX2_takeRarest 43 = .ok (.istore_n 2, 1) := by decide +kernel
theorem dX2_takeRarest_44 : decode cX2_takeRarest 44 = .ok (.iinc 3 1, 3) := by decide +kernel
theorem dX2_takeRarest_47 : decode cX2_takeRarest 47 = .ok (.goto (-43), 3) := by decide +kernel
theorem dX2_takeRarest_50 : decode cX2_takeRarest 50 = .ok (.aload_n 0, 1) := by decide +kernel
theorem dX2_takeRarest_51 : decode cX2_takeRarest 51 = .ok (.getfield 27, 3) := by decide +kernel
theorem dX2_takeRarest_54 : decode cX2_takeRarest 54 = .ok (.iload_n 2, 1) := by decide +kernel
theorem dX2_takeRarest_55 : decode cX2_takeRarest 55 = .ok (.iconst 1, 1) := by decide +kernel
theorem dX2_takeRarest_56 : decode cX2_takeRarest 56 = .ok (.bastore, 1) := by decide +kernel
theorem dX2_takeRarest_57 : decode cX2_takeRarest 57 = .ok (.iload_n 2, 1) := by decide +kernel
theorem dX2_takeRarest_58 : decode cX2_takeRarest 58 = .ok (.ireturn, 1) := by decide +kernel
def f_X2_takeRarest_n4 (x1 : Int32) : Nat → Gr → Int32 → Int32 → Option (Int32 × Gr)
  | 0, _, _, _ => none
  | n + 1, S0, x2, x3 => if x1 ≤ x3 then (ck' 23 x2 (lt' (sA S0 5 (Int32.toNatClampNeg x2) (vp_nar .boolean 1)) fun S0_2 => some (x2, S0_2))) else (rd' (S0.2 5) 23 x3 fun v3 => if v3 = 0 then (rd' (S0.2 5) 23 x2 fun v6 => if v6 = 0 then (rd' (S0.2 3) 23 x3 fun v9 => rd' (S0.2 3) 23 x2 fun v10 => if v10 ≤ v9 then (lt' (x3 + 1) fun v12 => f_X2_takeRarest_n4 x1 n S0 x2 v12) else (lt' (x3 + 1) fun v13 => f_X2_takeRarest_n4 x1 n S0 x3 v13)) else (lt' (x3 + 1) fun v8 => f_X2_takeRarest_n4 x1 n S0 x3 v8)) else (lt' (x3 + 1) fun v5 => f_X2_takeRarest_n4 x1 n S0 x2 v5))
def f_X2_takeRarest (S0 : Gr) (x1 : Int32) : Option (Int32 × Gr) := f_X2_takeRarest_n4 x1 fu S0 0 1
set_option maxHeartbeats 4000000 in
set_option maxRecDepth 100000 in
theorem c_X2_takeRarest (l : Launch) (E : Ec) (q0 : Nat → Nat) (sz : Nat) (S0 : Gr) (x1 : Int32) (Rv : Int32 × Gr) (h : f_X2_takeRarest S0 x1 = some Rv) : Met l yX2_takeRarest (wsM (.code yX2_takeRarest cX2_takeRarest 4 (some .int))) ({ frames := 0, cells := 0, slots := 0, locals := 0 } : Room) (va_Pc [.ref (q0 0), .int x1] (ctP E (cw_X2 E q0 S0) sz)) (ctI E (cw_X2 E q0 S0) (cw_X2 E q0 Rv.2) sz Rv.1) 0 0 (va_A (cw_X2 E q0 S0) sz) := by
  refine ct_metI (by decide) (Nat.le_of_ble_eq_true rfl) ?_
  intro p e s m ar below meth c A QM hx hb hml hown hg X hP hD hS RET ls hl
  have hown : s.vm.findClass RX2 = some m.cls := hown
  have hl : lv_has ls 4 [(0, .ref (q0 0)), (1, .int x1)] := hl
  have RT : ∀ (v : Int32) (S0 : Gr) (H : Heap) (locs : List Loc) (ls : Array Slot) (pc : Nat), some (v, S0) = some Rv → narrow .int (.int v) = .int v → va_P E.1 vwCl (cw_X2 E q0 S0) H → va_D A (cw_X2 E q0 S0) → va_S A s.heap H locs → decode cX2_takeRarest pc = .ok (.ireturn, 1) → W p l e ({ frames := 0, cells := 0, slots := 0, locals := 0 } : Room) s m ar below meth c H locs 0 0 QM (F0 m pc ls [.int v]) := by
    intro v S0 H locs ls pc e hn hP hD hS d
    obtain rfl := sm_e e
    exact RET H locs pc ls hn hP hD hS d
  clear RET
  have N4 : ∀ (n : Nat) (S0 : Gr) (x2 : Int32) (x3 : Int32) (H : Heap) (locs : List Loc) (ls : Array Slot), f_X2_takeRarest_n4 x1 n S0 x2 x3 = some Rv → va_P E.1 vwCl (cw_X2 E q0 S0) H → va_D A (cw_X2 E q0 S0) → va_S A s.heap H locs → lv_has ls 4 [(0, .ref (q0 0)), (1, .int x1), (2, .int x2), (3, .int x3)] → W p l e ({ frames := 0, cells := 0, slots := 0, locals := 0 } : Room) s m ar below meth c H locs 0 0 QM (F0 m 4 ls []) := by
    intro n
    induction n with
    | zero => intro S0 x2 x3 H locs ls h; exact nn_el h
    | succ n ih =>
      intro S0 x2 x3 H locs ls h hP hD hS hl
      refine lv_iload_n hx hb dX2_takeRarest_4 rfl (lv_at hl 3 rfl) ?_
      refine lv_iload_n hx hb dX2_takeRarest_5 rfl (lv_at hl 1 rfl) ?_
      refine lv_icmp_ge (tgt := 50) hx hb dX2_takeRarest_6 (by decide) (fun c1 => ?_) (fun c1 => ?_)
      · have h := it_t h c1
        refine lv_aload_n hx hb dX2_takeRarest_50 rfl (lv_at hl 0 rfl) ?_
        refine va_get (D := E.1) (ci := 1) (v := .ref (q0 6)) (C := RX2) (T := TX2) (N := 6) hx hb hg in_X2 hown X.1 hP 0 rfl rfl 5 (by decide) (hg _ wf_X2_27) (fun _ h9 => h9) rfl dX2_takeRarest_51 ?_
        refine lv_iload_n hx hb dX2_takeRarest_54 rfl (lv_at hl 2 rfl) ?_
        refine lv_iconst (v := 1) hx hb dX2_takeRarest_55 (by decide) ?_
        obtain ⟨hi, h⟩ := ck_el h
        obtain ⟨S0_2, eS, h⟩ := lt_el h
        refine va_zast hx hb X.1 hP hD hS 6 1 rfl rfl hi dX2_takeRarest_56 (fun H locs hP hD hS => ?_)
        have hP : va_P E.1 vwCl (cw_X2 E q0 S0_2) H := by rw [eS]; exact hP
        have hD : va_D A (cw_X2 E q0 S0_2) := by rw [eS]; exact hD
        clear eS
        refine lv_iload_n hx hb dX2_takeRarest_57 rfl (lv_at hl 2 rfl) ?_
        exact RT x2 S0_2 _ _ _ _ h rfl hP hD hS dX2_takeRarest_58
      · have h := it_f h c1
        refine lv_aload_n hx hb dX2_takeRarest_9 rfl (lv_at hl 0 rfl) ?_
        refine va_get (D := E.1) (ci := 1) (v := .ref (q0 6)) (C := RX2) (T := TX2) (N := 6) hx hb hg in_X2 hown X.1 hP 0 rfl rfl 5 (by decide) (hg _ wf_X2_27) (fun _ h9 => h9) rfl dX2_takeRarest_10 ?_
        refine lv_iload_n hx hb dX2_takeRarest_13 rfl (lv_at hl 3 rfl) ?_
        obtain ⟨hi, v3, ev3, h⟩ := rd_el h
        refine va_zald hx hb X.1 hP 6 1 rfl rfl hi dX2_takeRarest_14 ?_
        refine lv_top' ev3 ?_
        refine lv_if_ne (tgt := 44) hx hb dX2_takeRarest_15 (by decide) (fun c4 => ?_) (fun c4 => ?_)
        · have h := it_f h c4
          obtain ⟨v5, ev5, h⟩ := lt_el h
          refine lv_iinc (v := v5) (lv' := [(3, .int v5), (0, .ref (q0 0)), (1, .int x1), (2, .int x2)]) hx hb dX2_takeRarest_44 hl (k := 3) rfl (by rw [ev5]; rfl) (by decide) rfl (fun ls hl => ?_)
          refine lv_goto (tgt := 4) hx hb dX2_takeRarest_47 (by decide) ?_
          exact ih S0 x2 v5 _ _ _ h hP hD hS (lv_sub hl [1, 2, 3, 0] rfl)
        · have h := it_t h c4
          refine lv_aload_n hx hb dX2_takeRarest_18 rfl (lv_at hl 0 rfl) ?_
          refine va_get (D := E.1) (ci := 1) (v := .ref (q0 6)) (C := RX2) (T := TX2) (N := 6) hx hb hg in_X2 hown X.1 hP 0 rfl rfl 5 (by decide) (hg _ wf_X2_27) (fun _ h9 => h9) rfl dX2_takeRarest_19 ?_
          refine lv_iload_n hx hb dX2_takeRarest_22 rfl (lv_at hl 2 rfl) ?_
          obtain ⟨hi, v6, ev6, h⟩ := rd_el h
          refine va_zald hx hb X.1 hP 6 1 rfl rfl hi dX2_takeRarest_23 ?_
          refine lv_top' ev6 ?_
          refine lv_if_ne (tgt := 42) hx hb dX2_takeRarest_24 (by decide) (fun c7 => ?_) (fun c7 => ?_)
          · have h := it_f h c7
            refine lv_iload_n hx hb dX2_takeRarest_42 rfl (lv_at hl 3 rfl) ?_
            refine lv_istore_n (lv' := [(2, .int x3), (0, .ref (q0 0)), (1, .int x1), (3, .int x3)]) hx hb dX2_takeRarest_43 rfl hl (by decide) rfl (fun ls hl => ?_)
            obtain ⟨v8, ev8, h⟩ := lt_el h
            refine lv_iinc (v := v8) (lv' := [(3, .int v8), (2, .int x3), (0, .ref (q0 0)), (1, .int x1)]) hx hb dX2_takeRarest_44 hl (k := 3) rfl (by rw [ev8]; rfl) (by decide) rfl (fun ls hl => ?_)
            refine lv_goto (tgt := 4) hx hb dX2_takeRarest_47 (by decide) ?_
            exact ih S0 x3 v8 _ _ _ h hP hD hS (lv_sub hl [2, 3, 1, 0] rfl)
          · have h := it_t h c7
            refine lv_aload_n hx hb dX2_takeRarest_27 rfl (lv_at hl 0 rfl) ?_
            refine va_get (D := E.1) (ci := 1) (v := .ref (q0 4)) (C := RX2) (T := TX2) (N := 6) hx hb hg in_X2 hown X.1 hP 0 rfl rfl 3 (by decide) (hg _ wf_X2_21) (fun _ h9 => h9) rfl dX2_takeRarest_28 ?_
            refine lv_iload_n hx hb dX2_takeRarest_31 rfl (lv_at hl 3 rfl) ?_
            obtain ⟨hi, v9, ev9, h⟩ := rd_el h
            refine va_iald hx hb X.1 hP 4 0 rfl rfl hi dX2_takeRarest_32 ?_
            refine lv_top' ev9 ?_
            refine lv_aload_n hx hb dX2_takeRarest_33 rfl (lv_at hl 0 rfl) ?_
            refine va_get (D := E.1) (ci := 1) (v := .ref (q0 4)) (C := RX2) (T := TX2) (N := 6) hx hb hg in_X2 hown X.1 hP 0 rfl rfl 3 (by decide) (hg _ wf_X2_21) (fun _ h9 => h9) rfl dX2_takeRarest_34 ?_
            refine lv_iload_n hx hb dX2_takeRarest_37 rfl (lv_at hl 2 rfl) ?_
            obtain ⟨hi, v10, ev10, h⟩ := rd_el h
            refine va_iald hx hb X.1 hP 4 0 rfl rfl hi dX2_takeRarest_38 ?_
            refine lv_top' ev10 ?_
            refine lv_icmp_ge (tgt := 44) hx hb dX2_takeRarest_39 (by decide) (fun c11 => ?_) (fun c11 => ?_)
            · have h := it_t h c11
              obtain ⟨v12, ev12, h⟩ := lt_el h
              refine lv_iinc (v := v12) (lv' := [(3, .int v12), (0, .ref (q0 0)), (1, .int x1), (2, .int x2)]) hx hb dX2_takeRarest_44 hl (k := 3) rfl (by rw [ev12]; rfl) (by decide) rfl (fun ls hl => ?_)
              refine lv_goto (tgt := 4) hx hb dX2_takeRarest_47 (by decide) ?_
              exact ih S0 x2 v12 _ _ _ h hP hD hS (lv_sub hl [1, 2, 3, 0] rfl)
            · have h := it_f h c11
              refine lv_iload_n hx hb dX2_takeRarest_42 rfl (lv_at hl 3 rfl) ?_
              refine lv_istore_n (lv' := [(2, .int x3), (0, .ref (q0 0)), (1, .int x1), (3, .int x3)]) hx hb dX2_takeRarest_43 rfl hl (by decide) rfl (fun ls hl => ?_)
              obtain ⟨v13, ev13, h⟩ := lt_el h
              refine lv_iinc (v := v13) (lv' := [(3, .int v13), (2, .int x3), (0, .ref (q0 0)), (1, .int x1)]) hx hb dX2_takeRarest_44 hl (k := 3) rfl (by rw [ev13]; rfl) (by decide) rfl (fun ls hl => ?_)
              refine lv_goto (tgt := 4) hx hb dX2_takeRarest_47 (by decide) ?_
              exact ih S0 x3 v13 _ _ _ h hP hD hS (lv_sub hl [2, 3, 1, 0] rfl)
  obtain ⟨H, eH⟩ : ∃ z, z = s.heap := ⟨_, rfl⟩
  rw [← eH]
  have hP : va_P E.1 vwCl (cw_X2 E q0 S0) H := by rw [eH]; exact hP
  have hS : va_S A s.heap H [] := by rw [eH]; exact hS
  clear eH
  obtain ⟨locs, el⟩ : ∃ z : List Loc, z = [] := ⟨_, rfl⟩
  rw [← el] at hS ⊢
  clear el
  refine lv_iconst (v := 0) hx hb dX2_takeRarest_0 (by decide) ?_
  refine lv_istore_n (lv' := [(2, .int 0), (0, .ref (q0 0)), (1, .int x1)]) hx hb dX2_takeRarest_1 rfl hl (by decide) rfl (fun ls hl => ?_)
  refine lv_iconst (v := 1) hx hb dX2_takeRarest_2 (by decide) ?_
  refine lv_istore_n (lv' := [(3, .int 1), (2, .int 0), (0, .ref (q0 0)), (1, .int x1)]) hx hb dX2_takeRarest_3 rfl hl (by decide) rfl (fun ls hl => ?_)
  exact N4 fu S0 0 1 _ _ _ h hP hD hS (lv_sub hl [2, 3, 1, 0] rfl)
theorem dX2_shortestCode_0 : decode cX2_shortestCode 0 = .ok (.iconst 0, 1) := by decide +kernel
theorem dX2_shortestCode_1 : decode cX2_shortestCode 1 = .ok (.istore 4, 2) := by decide +kernel
theorem dX2_shortestCode_3 : decode cX2_shortestCode 3 = .ok (.iload 4, 2) := by decide +kernel
theorem dX2_shortestCode_5 : decode cX2_shortestCode 5 = .ok (.iload_n 2, 1) := by decide +kernel
theorem dX2_shortestCode_6 : decode cX2_shortestCode 6 = .ok (.if_icmp .ge 57, 3) := by decide +kernel
theorem dX2_shortestCode_9 : decode cX2_shortestCode 9 = .ok (.iload 4, 2) := by decide +kernel
theorem dX2_shortestCode_11 : decode cX2_shortestCode 11 = .ok (.bipush 23, 2) := by decide +kernel
theorem dX2_shortestCode_13 : decode cX2_shortestCode 13 = .ok (.if_icmp .ge 50, 3) := by decide +kernel
theorem dX2_shortestCode_16 : decode cX2_shortestCode 16 = .ok (.aload_n 1, 1) := by decide +kernel
theorem dX2_shortestCode_17 : decode cX2_shortestCode 17 = .ok (.iload 4, 2) := by decide +kernel
theorem dX2_shortestCode_19 : decode cX2_shortestCode 19 = .ok (.invokevirtual 37, 3) := by decide +kernel
theorem dX2_shortestCode_22 : decode cX2_shortestCode 22 = .ok (.ifCond .ne 6, 3) := by decide +kernel
theorem dX2_shortestCode_25 : decode cX2_shortestCode 25 = .ok (.bipush (-3), 2) := by decide +kernel
theorem dX2_shortestCode_27 : decode cX2_shortestCode 27 = .ok (.ireturn, 1) := by decide +kernel
theorem dX2_shortestCode_28 : decode cX2_shortestCode 28 = .ok (.aload_n 0, 1) := by decide +kernel
theorem dX2_shortestCode_29 : decode cX2_shortestCode 29 = .ok (.getfield 21, 3) := by decide +kernel
theorem dX2_shortestCode_32 : decode cX2_shortestCode 32 = .ok (.iload 4, 2) := by decide +kernel
theorem dX2_shortestCode_34 : decode cX2_shortestCode 34 = .ok (.aload_n 1, 1) := by decide +kernel
theorem dX2_shortestCode_35 : decode cX2_shortestCode 35 = .ok (.iload 4, 2) := by decide +kernel
theorem dX2_shortestCode_37 : decode cX2_shortestCode 37 = .ok (.invokevirtual 37, 3) := by decide +kernel
theorem dX2_shortestCode_40 : decode cX2_shortestCode 40 = .ok (.iastore, 1) := by decide +kernel
theorem dX2_shortestCode_41 : decode cX2_shortestCode 41 = .ok (.aload_n 0, 1) := by decide +kernel
theorem dX2_shortestCode_42 : decode cX2_shortestCode 42 = .ok (.getfield 24, 3) := by decide +kernel
theorem dX2_shortestCode_45 : decode cX2_shortestCode 45 = .ok (.iload 4, 2) := by decide +kernel
theorem dX2_shortestCode_47 : decode cX2_shortestCode 47 = .ok (.iconst 0, 1) := by decide +kernel
theorem dX2_shortestCode_48 : decode cX2_shortestCode 48 = .ok (.iastore, 1) := by decide +kernel
theorem dX2_shortestCode_49 : decode cX2_shortestCode 49 = .ok (.aload_n 0, 1) := by decide +kernel
theorem dX2_shortestCode_50 : decode cX2_shortestCode 50 = .ok (.getfield 27, 3) := by decide +kernel
theorem dX2_shortestCode_53 : decode cX2_shortestCode 53 = .ok (.iload 4, 2) := by decide +kernel
theorem dX2_shortestCode_55 : decode cX2_shortestCode 55 = .ok (.iconst 0, 1) := by decide +kernel
theorem dX2_shortestCode_56 : decode cX2_shortestCode 56 = .ok (.bastore, 1) := by decide +kernel
theorem dX2_shortestCode_57 : decode cX2_shortestCode 57 = .ok (.iinc 4 1, 3) := by decide +kernel
theorem dX2_shortestCode_60 : decode cX2_shortestCode 60 = .ok (.goto (-57), 3) := by decide +kernel
theorem dX2_shortestCode_63 : decode cX2_shortestCode 63 = .ok (.iconst 0, 1) := by decide +kernel
theorem dX2_shortestCode_64 : decode cX2_shortestCode 64 = .ok (.istore 4, 2) := by decide +kernel
theorem dX2_shortestCode_66 : decode cX2_shortestCode 66 = .ok (.iconst 0, 1) := by decide +kernel
theorem dX2_shortestCode_67 : decode cX2_shortestCode 67 = .ok (.istore 5, 2) := by decide +kernel
theorem dX2_shortestCode_69 : decode cX2_shortestCode 69 = .ok (.iload_n 2, 1) := by decide +kernel
theorem dX2_shortestCode_70 : decode cX2_shortestCode 70 = .ok (.istore 6, 2) := by decide +kernel
theorem dX2_shortestCode_72 : decode cX2_shortestCode 72 = .ok (.iload 6, 2) := by decide +kernel
theorem dX2_shortestCode_74 : decode cX2_shortestCode 74 = .ok (.iconst 2, 1) := by decide +kernel
theorem dX2_shortestCode_75 : decode cX2_shortestCode 75 = .ok (.iload_n 2, 1) := by decide +kernel
theorem dX2_shortestCode_76 : decode cX2_shortestCode 76 = .ok (.imul, 1) := by decide +kernel
theorem dX2_shortestCode_77 : decode cX2_shortestCode 77 = .ok (.iconst 1, 1) := by decide +kernel
theorem dX2_shortestCode_78 : decode cX2_shortestCode 78 = .ok (.isub, 1) := by decide +kernel
theorem dX2_shortestCode_79 : decode cX2_shortestCode 79 = .ok (.if_icmp .ge 109, 3) := by decide +kernel
theorem dX2_shortestCode_82 : decode cX2_shortestCode 82 = .ok (.iload 6, 2) := by decide +kernel
theorem dX2_shortestCode_84 : decode cX2_shortestCode 84 = .ok (.bipush 23, 2) := by decide +kernel
theorem dX2_shortestCode_86 : decode cX2_shortestCode 86 = .ok (.if_icmp .ge 102, 3) := by decide +kernel
theorem dX2_shortestCode_89 : decode cX2_shortestCode 89 = .ok (.aload_n 0, 1) := by decide +kernel
theorem dX2_shortestCode_90 : decode cX2_shortestCode 90 = .ok (.iload 6, 2) := by decide +kernel
theorem dX2_shortestCode_92 : decode cX2_shortestCode 92 = .ok (.invokevirtual 46, 3) := by decide +kernel
theorem dX2_shortestCode_95 : decode cX2_shortestCode 95 = .ok (.istore 7, 2) := by decide +kernel
theorem dX2_shortestCode_97 : decode cX2_shortestCode 97 = .ok (.aload_n 0, 1) := by decide +kernel
theorem dX2_shortestCode_98 : decode cX2_shortestCode 98 = .ok (.iload 6, 2) := by decide +kernel
theorem dX2_shortestCode_100 : decode cX2_shortestCode 100 = .ok (.invokevirtual 46, 3) := by decide +kernel
theorem dX2_shortestCode_103 : decode cX2_shortestCode 103 = .ok (.istore 8, 2) := by decide +kernel
theorem dX2_shortestCode_105 : decode cX2_shortestCode 105 = .ok (.aload_n 0, 1) := by decide +kernel
theorem dX2_shortestCode_106 : decode cX2_shortestCode 106 = .ok (.getfield 21, 3) := by decide +kernel
theorem dX2_shortestCode_109 : decode cX2_shortestCode 109 = .ok (.iload 6, 2) := by decide +kernel
theorem dX2_shortestCode_111 : decode cX2_shortestCode 111 = .ok (.aload_n 0, 1) := by decide +kernel
theorem dX2_shortestCode_112 : decode cX2_shortestCode 112 = .ok (.getfield 21, 3) := by decide +kernel
theorem dX2_shortestCode_115 : decode cX2_shortestCode 115 = .ok (.iload 7, 2) := by decide +kernel
theorem dX2_shortestCode_117 : decode cX2_shortestCode 117 = .ok (.iaload, 1) := by decide +kernel
theorem dX2_shortestCode_118 : decode cX2_shortestCode 118 = .ok (.aload_n 0, 1) := by decide +kernel
theorem dX2_shortestCode_119 : decode cX2_shortestCode 119 = .ok (.getfield 21, 3) := by decide +kernel
theorem dX2_shortestCode_122 : decode cX2_shortestCode 122 = .ok (.iload 8, 2) := by decide +kernel
theorem dX2_shortestCode_124 : decode cX2_shortestCode 124 = .ok (.iaload, 1) := by decide +kernel
theorem dX2_shortestCode_125 : decode cX2_shortestCode 125 = .ok (.iadd, 1) := by decide +kernel
theorem dX2_shortestCode_126 : decode cX2_shortestCode 126 = .ok (.iastore, 1) := by decide +kernel
theorem dX2_shortestCode_127 : decode cX2_shortestCode 127 = .ok (.aload_n 0, 1) := by decide +kernel
theorem dX2_shortestCode_128 : decode cX2_shortestCode 128 = .ok (.getfield 24, 3) := by decide +kernel
theorem dX2_shortestCode_131 : decode cX2_shortestCode 131 = .ok (.iload 6, 2) := by decide +kernel
theorem dX2_shortestCode_133 : decode cX2_shortestCode 133 = .ok (.aload_n 0, 1) := by decide +kernel
theorem dX2_shortestCode_134 : decode cX2_shortestCode 134 = .ok (.getfield 24, 3) := by decide +kernel
theorem dX2_shortestCode_137 : decode cX2_shortestCode 137 = .ok (.iload 7, 2) := by decide +kernel
theorem dX2_shortestCode_139 : decode cX2_shortestCode 139 = .ok (.iaload, 1) := by decide +kernel
theorem dX2_shortestCode_140 : decode cX2_shortestCode 140 = .ok (.aload_n 0, 1) := by decide +kernel
theorem dX2_shortestCode_141 : decode cX2_shortestCode 141 = .ok (.getfield 24, 3) := by decide +kernel
theorem dX2_shortestCode_144 : decode cX2_shortestCode 144 = .ok (.iload 8, 2) := by decide +kernel
theorem dX2_shortestCode_146 : decode cX2_shortestCode 146 = .ok (.iaload, 1) := by decide +kernel
theorem dX2_shortestCode_147 : decode cX2_shortestCode 147 = .ok (.invokestatic 43, 3) := by decide +kernel
theorem dX2_shortestCode_150 : decode cX2_shortestCode 150 = .ok (.iconst 1, 1) := by decide +kernel
theorem dX2_shortestCode_151 : decode cX2_shortestCode 151 = .ok (.iadd, 1) := by decide +kernel
theorem dX2_shortestCode_152 : decode cX2_shortestCode 152 = .ok (.iastore, 1) := by decide +kernel
theorem dX2_shortestCode_153 : decode cX2_shortestCode 153 = .ok (.aload_n 0, 1) := by decide +kernel
theorem dX2_shortestCode_154 : decode cX2_shortestCode 154 = .ok (.getfield 27, 3) := by decide +kernel
theorem dX2_shortestCode_157 : decode cX2_shortestCode 157 = .ok (.iload 6, 2) := by decide +kernel
theorem dX2_shortestCode_159 : decode cX2_shortestCode 159 = .ok (.iconst 0, 1) := by decide +kernel
theorem dX2_shortestCode_160 : decode cX2_shortestCode 160 = .ok (.bastore, 1) := by decide +kernel
theorem dX2_shortestCode_161 : decode cX2_shortestCode 161 = .ok (.iload 4, 2) := by decide +kernel
theorem dX2_shortestCode_163 : decode cX2_shortestCode 163 = .ok (.aload_n 0, 1) := by decide +kernel
theorem dX2_shortestCode_164 : decode cX2_shortestCode 164 = .ok (.getfield 21, 3) := by decide +kernel
theorem dX2_shortestCode_167 : decode cX2_shortestCode 167 = .ok (.iload 6, 2) := by decide +kernel
theorem dX2_shortestCode_169 : decode cX2_shortestCode 169 = .ok (.iaload, 1) := by decide +kernel
theorem dX2_shortestCode_170 : decode cX2_shortestCode 170 = .ok (.iadd, 1) := by decide +kernel
theorem dX2_shortestCode_171 : decode cX2_shortestCode 171 = .ok (.istore 4, 2) := by decide +kernel
theorem dX2_shortestCode_173 : decode cX2_shortestCode 173 = .ok (.aload_n 0, 1) := by decide +kernel
theorem dX2_shortestCode_174 : decode cX2_shortestCode 174 = .ok (.getfield 24, 3) := by decide +kernel
theorem dX2_shortestCode_177 : decode cX2_shortestCode 177 = .ok (.iload 6, 2) := by decide +kernel
theorem dX2_shortestCode_179 : decode cX2_shortestCode 179 = .ok (.iaload, 1) := by decide +kernel
theorem dX2_shortestCode_180 : decode cX2_shortestCode 180 = .ok (.istore 5, 2) := by decide +kernel
theorem dX2_shortestCode_182 : decode cX2_shortestCode 182 = .ok (.iinc 6 1, 3) := by decide +kernel
theorem dX2_shortestCode_185 : decode cX2_shortestCode 185 = .ok (.goto (-113), 3) := by decide +kernel
theorem dX2_shortestCode_188 : decode cX2_shortestCode 188 = .ok (.iload_n 3, 1) := by decide +kernel
theorem dX2_shortestCode_189 : decode cX2_shortestCode 189 = .ok (.ifCond .ne 8, 3) := by decide +kernel
theorem dX2_shortestCode_192 : decode cX2_shortestCode 192 = .ok (.iload 4, 2) := by decide +kernel
theorem dX2_shortestCode_194 : decode cX2_shortestCode 194 = .ok (.goto 5, 3) := by decide +kernel
theorem dX2_shortestCode_197 : decode cX2_shortestCode 197 = .ok (.iload 5, 2) := by decide +kernel
theorem dX2_shortestCode_199 : decode cX2_shortestCode 199 = .ok (.ireturn, 1) := by decide +kernel
def f_X2_shortestCode_n72 (S1 : Gr) (x2 : Int32) (x3 : Int32) : Nat → Gr → Int32 → Int32 → Int32 → Option (Int32 × Gr)
  | 0, _, _, _, _ => none
  | n + 1, S0, x4, x5, x6 => if ((2 * x2) - 1) ≤ x6 then (if x3 = 0 then (some (x4, S0)) else (some (x5, S0))) else (if 23 ≤ x6 then (if x3 = 0 then (some (x4, S0)) else (some (x5, S0))) else ((f_X2_takeRarest S0 x6).bind fun u14 => (f_X2_takeRarest u14.2 x6).bind fun u15 => rd' (u15.2.2 3) 23 u14.1 fun v16 => rd' (u15.2.2 3) 23 u15.1 fun v17 => ck' 23 x6 (lt' (sA u15.2 3 (Int32.toNatClampNeg x6) (v16 + v17)) fun S0_18 => rd' (S0_18.2 4) 23 u14.1 fun v19 => rd' (S0_18.2 4) 23 u15.1 fun v20 => lt' (mx' v19 v20) fun v21 => ck' 23 x6 (lt' (sA S0_18 4 (Int32.toNatClampNeg x6) (v21 + 1)) fun S0_22 => ck' 23 x6 (lt' (sA S0_22 5 (Int32.toNatClampNeg x6) (vp_nar .boolean 0)) fun S0_23 => rd' (S0_23.2 3) 23 x6 fun v24 => lt' ((x4 + v24)) fun v25 => rd' (S0_23.2 4) 23 x6 fun v26 => lt' (x6 + 1) fun v27 => f_X2_shortestCode_n72 S1 x2 x3 n S0_23 v25 v26 v27)))))
def f_X2_shortestCode_n3 (S1 : Gr) (x2 : Int32) (x3 : Int32) : Nat → Gr → Int32 → Option (Int32 × Gr)
  | 0, _, _ => none
  | n + 1, S0, x4 => if x2 ≤ x4 then (f_X2_shortestCode_n72 S1 x2 x3 fu S0 0 0 x2) else (if 23 ≤ x4 then (f_X2_shortestCode_n72 S1 x2 x3 fu S0 0 0 x2) else ((f_X8_at S1 x4).bind fun u3 => if u3 = 0 then (some ((-3), S0)) else ((f_X8_at S1 x4).bind fun u5 => ck' 23 x4 (lt' (sA S0 3 (Int32.toNatClampNeg x4) u5) fun S0_6 => ck' 23 x4 (lt' (sA S0_6 4 (Int32.toNatClampNeg x4) 0) fun S0_7 => ck' 23 x4 (lt' (sA S0_7 5 (Int32.toNatClampNeg x4) (vp_nar .boolean 0)) fun S0_8 => lt' (x4 + 1) fun v9 => f_X2_shortestCode_n3 S1 x2 x3 n S0_8 v9))))))
def f_X2_shortestCode (S0 : Gr) (S1 : Gr) (x2 : Int32) (x3 : Int32) : Option (Int32 × Gr) := f_X2_shortestCode_n3 S1 x2 x3 fu S0 0
set_option maxHeartbeats 4000000 in
set_option maxRecDepth 100000 in
theorem c_X2_shortestCode (l : Launch) (E : Ec) (q0 q1 : Nat → Nat) (sz : Nat) (S0 : Gr) (S1 : Gr) (x2 : Int32) (x3 : Int32) (Rv : Int32 × Gr) (h : f_X2_shortestCode S0 S1 x2 x3 = some Rv) : Met l yX2_shortestCode (wsM (.code yX2_shortestCode cX2_shortestCode 9 (some .int))) ({ frames := 2, cells := 0, slots := 0, locals := 43 } : Room) (va_Pc [.ref (q0 0), .ref (q1 0), .int x2, .int x3] (ctP E (cw_X2 E q0 S0 ++ (cw_X8 E q1 S1)) sz)) (ctI E (cw_X2 E q0 S0 ++ (cw_X8 E q1 S1)) (cw_X2 E q0 Rv.2 ++ (cw_X8 E q1 S1)) sz Rv.1) 0 0 (va_A (cw_X2 E q0 S0 ++ (cw_X8 E q1 S1)) sz) := by
  refine ct_metI (by decide) (Nat.le_of_ble_eq_true rfl) ?_
  intro p e s m ar below meth c A QM hx hb hml hown hg X hP hD hS RET ls hl
  have hown : s.vm.findClass RX2 = some m.cls := hown
  have hl : lv_has ls 9 [(0, .ref (q0 0)), (1, .ref (q1 0)), (2, .int x2), (3, .int x3)] := hl
  have RT : ∀ (v : Int32) (S0 : Gr) (H : Heap) (locs : List Loc) (ls : Array Slot) (pc : Nat), some (v, S0) = some Rv → narrow .int (.int v) = .int v → va_P E.1 vwCl (cw_X2 E q0 S0 ++ (cw_X8 E q1 S1)) H → va_D A (cw_X2 E q0 S0 ++ (cw_X8 E q1 S1)) → va_S A s.heap H locs → decode cX2_shortestCode pc = .ok (.ireturn, 1) → W p l e ({ frames := 2, cells := 0, slots := 0, locals := 43 } : Room) s m ar below meth c H locs 0 0 QM (F0 m pc ls [.int v]) := by
    intro v S0 H locs ls pc e hn hP hD hS d
    obtain rfl := sm_e e
    exact RET H locs pc ls hn hP hD hS d
  clear RET
  have N72 : ∀ (n : Nat) (S0 : Gr) (x4 : Int32) (x5 : Int32) (x6 : Int32) (H : Heap) (locs : List Loc) (ls : Array Slot), f_X2_shortestCode_n72 S1 x2 x3 n S0 x4 x5 x6 = some Rv → va_P E.1 vwCl (cw_X2 E q0 S0 ++ (cw_X8 E q1 S1)) H → va_D A (cw_X2 E q0 S0 ++ (cw_X8 E q1 S1)) → va_S A s.heap H locs → lv_has ls 9 [(0, .ref (q0 0)), (2, .int x2), (3, .int x3), (4, .int x4), (5, .int x5), (6, .int x6)] → W p l e ({ frames := 2, cells := 0, slots := 0, locals := 43 } : Room) s m ar below meth c H locs 0 0 QM (F0 m 72 ls []) := by
    intro n
    induction n with
    | zero => intro S0 x4 x5 x6 H locs ls h; exact nn_el h
    | succ n ih =>
      intro S0 x4 x5 x6 H locs ls h hP hD hS hl
      refine lv_iload hx hb dX2_shortestCode_72 (lv_at hl 5 rfl) ?_
      refine lv_iconst (v := 2) hx hb dX2_shortestCode_74 (by decide) ?_
      refine lv_iload_n hx hb dX2_shortestCode_75 rfl (lv_at hl 1 rfl) ?_
      refine lv_imul hx hb dX2_shortestCode_76 ?_
      refine lv_iconst (v := 1) hx hb dX2_shortestCode_77 (by decide) ?_
      refine lv_isub hx hb dX2_shortestCode_78 ?_
      refine lv_icmp_ge (tgt := 188) hx hb dX2_shortestCode_79 (by decide) (fun c10 => ?_) (fun c10 => ?_)
      · have h := it_t h c10
        refine lv_iload_n hx hb dX2_shortestCode_188 rfl (lv_at hl 2 rfl) ?_
        refine lv_if_ne (tgt := 197) hx hb dX2_shortestCode_189 (by decide) (fun c11 => ?_) (fun c11 => ?_)
        · have h := it_f h c11
          refine lv_iload hx hb dX2_shortestCode_197 (lv_at hl 4 rfl) ?_
          exact RT x5 S0 _ _ _ _ h rfl hP hD hS dX2_shortestCode_199
        · have h := it_t h c11
          refine lv_iload hx hb dX2_shortestCode_192 (lv_at hl 3 rfl) ?_
          refine lv_goto (tgt := 199) hx hb dX2_shortestCode_194 (by decide) ?_
          exact RT x4 S0 _ _ _ _ h rfl hP hD hS dX2_shortestCode_199
      · have h := it_f h c10
        refine lv_iload hx hb dX2_shortestCode_82 (lv_at hl 5 rfl) ?_
        refine lv_bipush (v := 23) hx hb dX2_shortestCode_84 (by decide) ?_
        refine lv_icmp_ge (tgt := 188) hx hb dX2_shortestCode_86 (by decide) (fun c12 => ?_) (fun c12 => ?_)
        · have h := it_t h c12
          refine lv_iload_n hx hb dX2_shortestCode_188 rfl (lv_at hl 2 rfl) ?_
          refine lv_if_ne (tgt := 197) hx hb dX2_shortestCode_189 (by decide) (fun c13 => ?_) (fun c13 => ?_)
          · have h := it_f h c13
            refine lv_iload hx hb dX2_shortestCode_197 (lv_at hl 4 rfl) ?_
            exact RT x5 S0 _ _ _ _ h rfl hP hD hS dX2_shortestCode_199
          · have h := it_t h c13
            refine lv_iload hx hb dX2_shortestCode_192 (lv_at hl 3 rfl) ?_
            refine lv_goto (tgt := 199) hx hb dX2_shortestCode_194 (by decide) ?_
            exact RT x4 S0 _ _ _ _ h rfl hP hD hS dX2_shortestCode_199
        · have h := it_f h c12
          refine lv_aload_n hx hb dX2_shortestCode_89 rfl (lv_at hl 0 rfl) ?_
          refine lv_iload hx hb dX2_shortestCode_90 (lv_at hl 5 rfl) ?_
          obtain ⟨u14, hc, h⟩ := bd_el h
          have hC : ([0, 1, 2, 3, 4, 5, 6] : List Nat).map (fun i => (cw_X2 E q0 S0 ++ (cw_X8 E q1 S1))[i]?) = (cw_X2 E q0 S0).map some := rfl
          refine ct_i (ws' := cw_X2 E q0 u14.2 ++ (cw_X8 E q1 S1)) X hP hD hS [0, 1, 2, 3, 4, 5, 6] (va_runV (C := RX2) (As := [.int x6]) (rest := []) ⟨hx, hb, hml, hown, hg⟩ (c_X2_takeRarest l E q0 H.size S0 x6 u14 hc) (cwV 1 hg (gwV wm_X2_46 wi_X2_takeRarest wsl_X2_takeRarest wini_X2 wco_X2_takeRarest) rfl rfl rfl (by decide +kernel) ⟨Nat.le_of_ble_eq_true rfl, Nat.le_of_ble_eq_true rfl⟩) ⟨ct_blind, ct_rv X.1 hP 0 rfl rfl, ct_pre X hP hD hS [0, 1, 2, 3, 4, 5, 6] (by decide) hC _⟩ rfl rfl hl.1 rfl (lv_room (Nat.le_of_ble_eq_true rfl)) dX2_shortestCode_92 ⟨Nat.zero_le _, Nat.zero_le _⟩) hC rfl rfl (fun H locs hP hD hS => ?_)
          clear hC
          refine lv_istore (lv' := [(7, .int u14.1), (0, .ref (q0 0)), (2, .int x2), (3, .int x3), (4, .int x4), (5, .int x5), (6, .int x6)]) hx hb dX2_shortestCode_95 hl (by decide) rfl (fun ls hl => ?_)
          refine lv_aload_n hx hb dX2_shortestCode_97 rfl (lv_at hl 1 rfl) ?_
          refine lv_iload hx hb dX2_shortestCode_98 (lv_at hl 6 rfl) ?_
          obtain ⟨u15, hc, h⟩ := bd_el h
          have hC : ([0, 1, 2, 3, 4, 5, 6] : List Nat).map (fun i => (cw_X2 E q0 u14.2 ++ (cw_X8 E q1 S1))[i]?) = (cw_X2 E q0 u14.2).map some := rfl
          refine ct_i (ws' := cw_X2 E q0 u15.2 ++ (cw_X8 E q1 S1)) X hP hD hS [0, 1, 2, 3, 4, 5, 6] (va_runV (C := RX2) (As := [.int x6]) (rest := []) ⟨hx, hb, hml, hown, hg⟩ (c_X2_takeRarest l E q0 H.size u14.2 x6 u15 hc) (cwV 1 hg (gwV wm_X2_46 wi_X2_takeRarest wsl_X2_takeRarest wini_X2 wco_X2_takeRarest) rfl rfl rfl (by decide +kernel) ⟨Nat.le_of_ble_eq_true rfl, Nat.le_of_ble_eq_true rfl⟩) ⟨ct_blind, ct_rv X.1 hP 0 rfl rfl, ct_pre X hP hD hS [0, 1, 2, 3, 4, 5, 6] (by decide) hC _⟩ rfl rfl hl.1 rfl (lv_room (Nat.le_of_ble_eq_true rfl)) dX2_shortestCode_100 ⟨Nat.zero_le _, Nat.zero_le _⟩) hC rfl rfl (fun H locs hP hD hS => ?_)
          clear hC
          refine lv_istore (lv' := [(8, .int u15.1), (7, .int u14.1), (0, .ref (q0 0)), (2, .int x2), (3, .int x3), (4, .int x4), (5, .int x5), (6, .int x6)]) hx hb dX2_shortestCode_103 hl (by decide) rfl (fun ls hl => ?_)
          refine lv_aload_n hx hb dX2_shortestCode_105 rfl (lv_at hl 2 rfl) ?_
          refine va_get (D := E.1) (ci := 1) (v := .ref (q0 4)) (C := RX2) (T := TX2) (N := 6) hx hb hg in_X2 hown X.1 hP 0 rfl rfl 3 (by decide) (hg _ wf_X2_21) (fun _ h9 => h9) rfl dX2_shortestCode_106 ?_
          refine lv_iload hx hb dX2_shortestCode_109 (lv_at hl 7 rfl) ?_
          refine lv_aload_n hx hb dX2_shortestCode_111 rfl (lv_at hl 2 rfl) ?_
          refine va_get (D := E.1) (ci := 1) (v := .ref (q0 4)) (C := RX2) (T := TX2) (N := 6) hx hb hg in_X2 hown X.1 hP 0 rfl rfl 3 (by decide) (hg _ wf_X2_21) (fun _ h9 => h9) rfl dX2_shortestCode_112 ?_
          refine lv_iload hx hb dX2_shortestCode_115 (lv_at hl 1 rfl) ?_
          obtain ⟨hi, v16, ev16, h⟩ := rd_el h
          refine va_iald hx hb X.1 hP 4 0 rfl rfl hi dX2_shortestCode_117 ?_
          refine lv_top' ev16 ?_
          refine lv_aload_n hx hb dX2_shortestCode_118 rfl (lv_at hl 2 rfl) ?_
          refine va_get (D := E.1) (ci := 1) (v := .ref (q0 4)) (C := RX2) (T := TX2) (N := 6) hx hb hg in_X2 hown X.1 hP 0 rfl rfl 3 (by decide) (hg _ wf_X2_21) (fun _ h9 => h9) rfl dX2_shortestCode_119 ?_
          refine lv_iload hx hb dX2_shortestCode_122 (lv_at hl 0 rfl) ?_
          obtain ⟨hi, v17, ev17, h⟩ := rd_el h
          refine va_iald hx hb X.1 hP 4 0 rfl rfl hi dX2_shortestCode_124 ?_
          refine lv_top' ev17 ?_
          refine lv_iadd hx hb dX2_shortestCode_125 ?_
          obtain ⟨hi, h⟩ := ck_el h
          obtain ⟨S0_18, eS, h⟩ := lt_el h
          refine va_iast hx hb X.1 hP hD hS 4 0 rfl rfl hi dX2_shortestCode_126 (fun H locs hP hD hS => ?_)
          have hP : va_P E.1 vwCl (cw_X2 E q0 S0_18 ++ (cw_X8 E q1 S1)) H := by rw [eS]; exact hP
          have hD : va_D A (cw_X2 E q0 S0_18 ++ (cw_X8 E q1 S1)) := by rw [eS]; exact hD
          clear eS
          refine lv_aload_n hx hb dX2_shortestCode_127 rfl (lv_at hl 2 rfl) ?_
          refine va_get (D := E.1) (ci := 1) (v := .ref (q0 5)) (C := RX2) (T := TX2) (N := 6) hx hb hg in_X2 hown X.1 hP 0 rfl rfl 4 (by decide) (hg _ wf_X2_24) (fun _ h9 => h9) rfl dX2_shortestCode_128 ?_
          refine lv_iload hx hb dX2_shortestCode_131 (lv_at hl 7 rfl) ?_
          refine lv_aload_n hx hb dX2_shortestCode_133 rfl (lv_at hl 2 rfl) ?_
          refine va_get (D := E.1) (ci := 1) (v := .ref (q0 5)) (C := RX2) (T := TX2) (N := 6) hx hb hg in_X2 hown X.1 hP 0 rfl rfl 4 (by decide) (hg _ wf_X2_24) (fun _ h9 => h9) rfl dX2_shortestCode_134 ?_
          refine lv_iload hx hb dX2_shortestCode_137 (lv_at hl 1 rfl) ?_
          obtain ⟨hi, v19, ev19, h⟩ := rd_el h
          refine va_iald hx hb X.1 hP 5 0 rfl rfl hi dX2_shortestCode_139 ?_
          refine lv_top' ev19 ?_
          refine lv_aload_n hx hb dX2_shortestCode_140 rfl (lv_at hl 2 rfl) ?_
          refine va_get (D := E.1) (ci := 1) (v := .ref (q0 5)) (C := RX2) (T := TX2) (N := 6) hx hb hg in_X2 hown X.1 hP 0 rfl rfl 4 (by decide) (hg _ wf_X2_24) (fun _ h9 => h9) rfl dX2_shortestCode_141 ?_
          refine lv_iload hx hb dX2_shortestCode_144 (lv_at hl 0 rfl) ?_
          obtain ⟨hi, v20, ev20, h⟩ := rd_el h
          refine va_iald hx hb X.1 hP 5 0 rfl rfl hi dX2_shortestCode_146 ?_
          refine lv_top' ev20 ?_
          obtain ⟨v21, ev21, h⟩ := lt_el h
          refine va_mmax hx hb (hml.trans hl.1.symm) hown (hg _ wm_X2_43) (hg _ wst_Mmax) (hg _ wini_J9) (hg _ wco_Mmax) (Nat.le_of_ble_eq_true rfl) (Nat.le_of_ble_eq_true rfl) (Nat.zero_le _) (Nat.zero_le _) dX2_shortestCode_147 ?_
          refine lv_top' ev21 ?_
          refine lv_iconst (v := 1) hx hb dX2_shortestCode_150 (by decide) ?_
          refine lv_iadd hx hb dX2_shortestCode_151 ?_
          obtain ⟨hi, h⟩ := ck_el h
          obtain ⟨S0_22, eS, h⟩ := lt_el h
          refine va_iast hx hb X.1 hP hD hS 5 0 rfl rfl hi dX2_shortestCode_152 (fun H locs hP hD hS => ?_)
          have hP : va_P E.1 vwCl (cw_X2 E q0 S0_22 ++ (cw_X8 E q1 S1)) H := by rw [eS]; exact hP
          have hD : va_D A (cw_X2 E q0 S0_22 ++ (cw_X8 E q1 S1)) := by rw [eS]; exact hD
          clear eS
          refine lv_aload_n hx hb dX2_shortestCode_153 rfl (lv_at hl 2 rfl) ?_
          refine va_get (D := E.1) (ci := 1) (v := .ref (q0 6)) (C := RX2) (T := TX2) (N := 6) hx hb hg in_X2 hown X.1 hP 0 rfl rfl 5 (by decide) (hg _ wf_X2_27) (fun _ h9 => h9) rfl dX2_shortestCode_154 ?_
          refine lv_iload hx hb dX2_shortestCode_157 (lv_at hl 7 rfl) ?_
          refine lv_iconst (v := 0) hx hb dX2_shortestCode_159 (by decide) ?_
          obtain ⟨hi, h⟩ := ck_el h
          obtain ⟨S0_23, eS, h⟩ := lt_el h
          refine va_zast hx hb X.1 hP hD hS 6 1 rfl rfl hi dX2_shortestCode_160 (fun H locs hP hD hS => ?_)
          have hP : va_P E.1 vwCl (cw_X2 E q0 S0_23 ++ (cw_X8 E q1 S1)) H := by rw [eS]; exact hP
          have hD : va_D A (cw_X2 E q0 S0_23 ++ (cw_X8 E q1 S1)) := by rw [eS]; exact hD
          clear eS
          refine lv_iload hx hb dX2_shortestCode_161 (lv_at hl 5 rfl) ?_
          refine lv_aload_n hx hb dX2_shortestCode_163 rfl (lv_at hl 2 rfl) ?_
          refine va_get (D := E.1) (ci := 1) (v := .ref (q0 4)) (C := RX2) (T := TX2) (N := 6) hx hb hg in_X2 hown X.1 hP 0 rfl rfl 3 (by decide) (hg _ wf_X2_21) (fun _ h9 => h9) rfl dX2_shortestCode_164 ?_
          refine lv_iload hx hb dX2_shortestCode_167 (lv_at hl 7 rfl) ?_
          obtain ⟨hi, v24, ev24, h⟩ := rd_el h
          refine va_iald hx hb X.1 hP 4 0 rfl rfl hi dX2_shortestCode_169 ?_
          refine lv_top' ev24 ?_
          refine lv_iadd hx hb dX2_shortestCode_170 ?_
          obtain ⟨v25, ev25, h⟩ := lt_el h
          refine lv_top' ev25 ?_
          refine lv_istore (lv' := [(4, .int v25), (8, .int u15.1), (7, .int u14.1), (0, .ref (q0 0)), (2, .int x2), (3, .int x3), (5, .int x5), (6, .int x6)]) hx hb dX2_shortestCode_171 hl (by decide) rfl (fun ls hl => ?_)
          refine lv_aload_n hx hb dX2_shortestCode_173 rfl (lv_at hl 3 rfl) ?_
          refine va_get (D := E.1) (ci := 1) (v := .ref (q0 5)) (C := RX2) (T := TX2) (N := 6) hx hb hg in_X2 hown X.1 hP 0 rfl rfl 4 (by decide) (hg _ wf_X2_24) (fun _ h9 => h9) rfl dX2_shortestCode_174 ?_
          refine lv_iload hx hb dX2_shortestCode_177 (lv_at hl 7 rfl) ?_
          obtain ⟨hi, v26, ev26, h⟩ := rd_el h
          refine va_iald hx hb X.1 hP 5 0 rfl rfl hi dX2_shortestCode_179 ?_
          refine lv_top' ev26 ?_
          refine lv_istore (lv' := [(5, .int v26), (4, .int v25), (8, .int u15.1), (7, .int u14.1), (0, .ref (q0 0)), (2, .int x2), (3, .int x3), (6, .int x6)]) hx hb dX2_shortestCode_180 hl (by decide) rfl (fun ls hl => ?_)
          obtain ⟨v27, ev27, h⟩ := lt_el h
          refine lv_iinc (v := v27) (lv' := [(6, .int v27), (5, .int v26), (4, .int v25), (8, .int u15.1), (7, .int u14.1), (0, .ref (q0 0)), (2, .int x2), (3, .int x3)]) hx hb dX2_shortestCode_182 hl (k := 7) rfl (by rw [ev27]; rfl) (by decide) rfl (fun ls hl => ?_)
          refine lv_goto (tgt := 72) hx hb dX2_shortestCode_185 (by decide) ?_
          exact ih S0_23 v25 v26 v27 _ _ _ h hP hD hS (lv_sub hl [5, 6, 7, 2, 1, 0] rfl)
  have N3 : ∀ (n : Nat) (S0 : Gr) (x4 : Int32) (H : Heap) (locs : List Loc) (ls : Array Slot), f_X2_shortestCode_n3 S1 x2 x3 n S0 x4 = some Rv → va_P E.1 vwCl (cw_X2 E q0 S0 ++ (cw_X8 E q1 S1)) H → va_D A (cw_X2 E q0 S0 ++ (cw_X8 E q1 S1)) → va_S A s.heap H locs → lv_has ls 9 [(0, .ref (q0 0)), (1, .ref (q1 0)), (2, .int x2), (3, .int x3), (4, .int x4)] → W p l e ({ frames := 2, cells := 0, slots := 0, locals := 43 } : Room) s m ar below meth c H locs 0 0 QM (F0 m 3 ls []) := by
    intro n
    induction n with
    | zero => intro S0 x4 H locs ls h; exact nn_el h
    | succ n ih =>
      intro S0 x4 H locs ls h hP hD hS hl
      refine lv_iload hx hb dX2_shortestCode_3 (lv_at hl 4 rfl) ?_
      refine lv_iload_n hx hb dX2_shortestCode_5 rfl (lv_at hl 2 rfl) ?_
      refine lv_icmp_ge (tgt := 63) hx hb dX2_shortestCode_6 (by decide) (fun c1 => ?_) (fun c1 => ?_)
      · have h := it_t h c1
        refine lv_iconst (v := 0) hx hb dX2_shortestCode_63 (by decide) ?_
        refine lv_istore (lv' := [(4, .int 0), (0, .ref (q0 0)), (1, .ref (q1 0)), (2, .int x2), (3, .int x3)]) hx hb dX2_shortestCode_64 hl (by decide) rfl (fun ls hl => ?_)
        refine lv_iconst (v := 0) hx hb dX2_shortestCode_66 (by decide) ?_
        refine lv_istore (lv' := [(5, .int 0), (4, .int 0), (0, .ref (q0 0)), (1, .ref (q1 0)), (2, .int x2), (3, .int x3)]) hx hb dX2_shortestCode_67 hl (by decide) rfl (fun ls hl => ?_)
        refine lv_iload_n hx hb dX2_shortestCode_69 rfl (lv_at hl 4 rfl) ?_
        refine lv_istore (lv' := [(6, .int x2), (5, .int 0), (4, .int 0), (0, .ref (q0 0)), (1, .ref (q1 0)), (2, .int x2), (3, .int x3)]) hx hb dX2_shortestCode_70 hl (by decide) rfl (fun ls hl => ?_)
        exact N72 fu S0 0 0 x2 _ _ _ h hP hD hS (lv_sub hl [3, 5, 6, 2, 1, 0] rfl)
      · have h := it_f h c1
        refine lv_iload hx hb dX2_shortestCode_9 (lv_at hl 4 rfl) ?_
        refine lv_bipush (v := 23) hx hb dX2_shortestCode_11 (by decide) ?_
        refine lv_icmp_ge (tgt := 63) hx hb dX2_shortestCode_13 (by decide) (fun c2 => ?_) (fun c2 => ?_)
        · have h := it_t h c2
          refine lv_iconst (v := 0) hx hb dX2_shortestCode_63 (by decide) ?_
          refine lv_istore (lv' := [(4, .int 0), (0, .ref (q0 0)), (1, .ref (q1 0)), (2, .int x2), (3, .int x3)]) hx hb dX2_shortestCode_64 hl (by decide) rfl (fun ls hl => ?_)
          refine lv_iconst (v := 0) hx hb dX2_shortestCode_66 (by decide) ?_
          refine lv_istore (lv' := [(5, .int 0), (4, .int 0), (0, .ref (q0 0)), (1, .ref (q1 0)), (2, .int x2), (3, .int x3)]) hx hb dX2_shortestCode_67 hl (by decide) rfl (fun ls hl => ?_)
          refine lv_iload_n hx hb dX2_shortestCode_69 rfl (lv_at hl 4 rfl) ?_
          refine lv_istore (lv' := [(6, .int x2), (5, .int 0), (4, .int 0), (0, .ref (q0 0)), (1, .ref (q1 0)), (2, .int x2), (3, .int x3)]) hx hb dX2_shortestCode_70 hl (by decide) rfl (fun ls hl => ?_)
          exact N72 fu S0 0 0 x2 _ _ _ h hP hD hS (lv_sub hl [3, 5, 6, 2, 1, 0] rfl)
        · have h := it_f h c2
          refine lv_aload_n hx hb dX2_shortestCode_16 rfl (lv_at hl 1 rfl) ?_
          refine lv_iload hx hb dX2_shortestCode_17 (lv_at hl 4 rfl) ?_
          obtain ⟨u3, hc, h⟩ := bd_el h
          have hC : ([7, 8] : List Nat).map (fun i => (cw_X2 E q0 S0 ++ (cw_X8 E q1 S1))[i]?) = (cw_X8 E q1 S1).map some := rfl
          refine ct_iR X hP hD hS [7, 8] hC (va_runV (C := RX8) (As := [.int x4]) (rest := []) ⟨hx, hb, hml, hown, hg⟩ (c_X8_at l E q1 H.size S1 x4 u3 hc) (cwV 1 hg (gwV wm_X2_37 wi_X8_at wsl_X8_at wini_X8 wco_X8_at) rfl rfl rfl (by decide +kernel) ⟨Nat.le_of_ble_eq_true rfl, Nat.le_of_ble_eq_true rfl⟩) ⟨ct_blind, ct_rv X.1 hP 7 rfl rfl, ct_pre X hP hD hS [7, 8] (by decide) hC _⟩ rfl rfl hl.1 rfl (lv_room (Nat.le_of_ble_eq_true rfl)) dX2_shortestCode_19 ⟨Nat.zero_le _, Nat.zero_le _⟩) (fun H locs hP hD hS => ?_)
          clear hC
          refine lv_if_ne (tgt := 28) hx hb dX2_shortestCode_22 (by decide) (fun c4 => ?_) (fun c4 => ?_)
          · have h := it_f h c4
            refine lv_aload_n hx hb dX2_shortestCode_28 rfl (lv_at hl 0 rfl) ?_
            refine va_get (D := E.1) (ci := 1) (v := .ref (q0 4)) (C := RX2) (T := TX2) (N := 6) hx hb hg in_X2 hown X.1 hP 0 rfl rfl 3 (by decide) (hg _ wf_X2_21) (fun _ h9 => h9) rfl dX2_shortestCode_29 ?_
            refine lv_iload hx hb dX2_shortestCode_32 (lv_at hl 4 rfl) ?_
            refine lv_aload_n hx hb dX2_shortestCode_34 rfl (lv_at hl 1 rfl) ?_
            refine lv_iload hx hb dX2_shortestCode_35 (lv_at hl 4 rfl) ?_
            obtain ⟨u5, hc, h⟩ := bd_el h
            have hC : ([7, 8] : List Nat).map (fun i => (cw_X2 E q0 S0 ++ (cw_X8 E q1 S1))[i]?) = (cw_X8 E q1 S1).map some := rfl
            refine ct_iR X hP hD hS [7, 8] hC (va_runV (C := RX8) (As := [.int x4]) (rest := [.int x4, .ref (q0 4)]) ⟨hx, hb, hml, hown, hg⟩ (c_X8_at l E q1 H.size S1 x4 u5 hc) (cwV 1 hg (gwV wm_X2_37 wi_X8_at wsl_X8_at wini_X8 wco_X8_at) rfl rfl rfl (by decide +kernel) ⟨Nat.le_of_ble_eq_true rfl, Nat.le_of_ble_eq_true rfl⟩) ⟨ct_blind, ct_rv X.1 hP 7 rfl rfl, ct_pre X hP hD hS [7, 8] (by decide) hC _⟩ rfl rfl hl.1 rfl (lv_room (Nat.le_of_ble_eq_true rfl)) dX2_shortestCode_37 ⟨Nat.zero_le _, Nat.zero_le _⟩) (fun H locs hP hD hS => ?_)
            clear hC
            obtain ⟨hi, h⟩ := ck_el h
            obtain ⟨S0_6, eS, h⟩ := lt_el h
            refine va_iast hx hb X.1 hP hD hS 4 0 rfl rfl hi dX2_shortestCode_40 (fun H locs hP hD hS => ?_)
            have hP : va_P E.1 vwCl (cw_X2 E q0 S0_6 ++ (cw_X8 E q1 S1)) H := by rw [eS]; exact hP
            have hD : va_D A (cw_X2 E q0 S0_6 ++ (cw_X8 E q1 S1)) := by rw [eS]; exact hD
            clear eS
            refine lv_aload_n hx hb dX2_shortestCode_41 rfl (lv_at hl 0 rfl) ?_
            refine va_get (D := E.1) (ci := 1) (v := .ref (q0 5)) (C := RX2) (T := TX2) (N := 6) hx hb hg in_X2 hown X.1 hP 0 rfl rfl 4 (by decide) (hg _ wf_X2_24) (fun _ h9 => h9) rfl dX2_shortestCode_42 ?_
            refine lv_iload hx hb dX2_shortestCode_45 (lv_at hl 4 rfl) ?_
            refine lv_iconst (v := 0) hx hb dX2_shortestCode_47 (by decide) ?_
            obtain ⟨hi, h⟩ := ck_el h
            obtain ⟨S0_7, eS, h⟩ := lt_el h
            refine va_iast hx hb X.1 hP hD hS 5 0 rfl rfl hi dX2_shortestCode_48 (fun H locs hP hD hS => ?_)
            have hP : va_P E.1 vwCl (cw_X2 E q0 S0_7 ++ (cw_X8 E q1 S1)) H := by rw [eS]; exact hP
            have hD : va_D A (cw_X2 E q0 S0_7 ++ (cw_X8 E q1 S1)) := by rw [eS]; exact hD
            clear eS
            refine lv_aload_n hx hb dX2_shortestCode_49 rfl (lv_at hl 0 rfl) ?_
            refine va_get (D := E.1) (ci := 1) (v := .ref (q0 6)) (C := RX2) (T := TX2) (N := 6) hx hb hg in_X2 hown X.1 hP 0 rfl rfl 5 (by decide) (hg _ wf_X2_27) (fun _ h9 => h9) rfl dX2_shortestCode_50 ?_
            refine lv_iload hx hb dX2_shortestCode_53 (lv_at hl 4 rfl) ?_
            refine lv_iconst (v := 0) hx hb dX2_shortestCode_55 (by decide) ?_
            obtain ⟨hi, h⟩ := ck_el h
            obtain ⟨S0_8, eS, h⟩ := lt_el h
            refine va_zast hx hb X.1 hP hD hS 6 1 rfl rfl hi dX2_shortestCode_56 (fun H locs hP hD hS => ?_)
            have hP : va_P E.1 vwCl (cw_X2 E q0 S0_8 ++ (cw_X8 E q1 S1)) H := by rw [eS]; exact hP
            have hD : va_D A (cw_X2 E q0 S0_8 ++ (cw_X8 E q1 S1)) := by rw [eS]; exact hD
            clear eS
            obtain ⟨v9, ev9, h⟩ := lt_el h
            refine lv_iinc (v := v9) (lv' := [(4, .int v9), (0, .ref (q0 0)), (1, .ref (q1 0)), (2, .int x2), (3, .int x3)]) hx hb dX2_shortestCode_57 hl (k := 4) rfl (by rw [ev9]; rfl) (by decide) rfl (fun ls hl => ?_)
            refine lv_goto (tgt := 3) hx hb dX2_shortestCode_60 (by decide) ?_
            exact ih S0_8 v9 _ _ _ h hP hD hS (lv_sub hl [1, 2, 3, 4, 0] rfl)
          · have h := it_t h c4
            refine lv_bipush (v := (-3)) hx hb dX2_shortestCode_25 (by decide) ?_
            exact RT (-3) S0 _ _ _ _ h rfl hP hD hS dX2_shortestCode_27
  obtain ⟨H, eH⟩ : ∃ z, z = s.heap := ⟨_, rfl⟩
  rw [← eH]
  have hP : va_P E.1 vwCl (cw_X2 E q0 S0 ++ (cw_X8 E q1 S1)) H := by rw [eH]; exact hP
  have hS : va_S A s.heap H [] := by rw [eH]; exact hS
  clear eH
  obtain ⟨locs, el⟩ : ∃ z : List Loc, z = [] := ⟨_, rfl⟩
  rw [← el] at hS ⊢
  clear el
  refine lv_iconst (v := 0) hx hb dX2_shortestCode_0 (by decide) ?_
  refine lv_istore (lv' := [(4, .int 0), (0, .ref (q0 0)), (1, .ref (q1 0)), (2, .int x2), (3, .int x3)]) hx hb dX2_shortestCode_1 hl (by decide) rfl (fun ls hl => ?_)
  exact N3 fu S0 0 _ _ _ h hP hD hS (lv_sub hl [1, 2, 3, 4, 0] rfl)
theorem dX2_commonBytes_0 : decode cX2_commonBytes 0 = .ok (.iload_n 3, 1) := by decide +kernel
theorem dX2_commonBytes_1 : decode cX2_commonBytes 1 = .ok (.bipush 30, 2) := by decide +kernel
theorem dX2_commonBytes_3 : decode cX2_commonBytes 3 = .ok (.invokestatic 31, 3) := by decide +kernel
theorem dX2_commonBytes_6 : decode cX2_commonBytes 6 = .ok (.istore 4, 2) := by decide +kernel
theorem dX2_commonBytes_8 : decode cX2_commonBytes 8 = .ok (.iconst 0, 1) := by decide +kernel
theorem dX2_commonBytes_9 : decode cX2_commonBytes 9 = .ok (.istore 5, 2) := by decide +kernel
theorem dX2_commonBytes_11 : decode cX2_commonBytes 11 = .ok (.iload 5, 2) := by decide +kernel
theorem dX2_commonBytes_13 : decode cX2_commonBytes 13 = .ok (.iload 4, 2) := by decide +kernel
theorem dX2_commonBytes_15 : decode cX2_commonBytes 15 = .ok (.if_icmp .gt 17, 3) := by decide +kernel
theorem dX2_commonBytes_18 : decode cX2_commonBytes 18 = .ok (.aload_n 0, 1) := by decide +kernel
theorem dX2_commonBytes_19 : decode cX2_commonBytes 19 = .ok (.getfield 11, 3) := by decide +kernel
theorem dX2_commonBytes_22 : decode cX2_commonBytes 22 = .ok (.iload 5, 2) := by decide +kernel
theorem dX2_commonBytes_24 : decode cX2_commonBytes 24 = .ok (.iconst 0, 1) := by decide +kernel
theorem dX2_commonBytes_25 : decode cX2_commonBytes 25 = .ok (.iastore, 1) := by decide +kernel
theorem dX2_commonBytes_26 : decode cX2_commonBytes 26 = .ok (.iinc 5 1, 3) := by decide +kernel
theorem dX2_commonBytes_29 : decode cX2_commonBytes 29 = .ok (.goto (-18), 3) := by decide +kernel
theorem dX2_commonBytes_32 : decode cX2_commonBytes 32 = .ok (.iconst 0, 1) := by decide +kernel
theorem dX2_commonBytes_33 : decode cX2_commonBytes 33 = .ok (.istore 5, 2) := by decide +kernel
theorem dX2_commonBytes_35 : decode cX2_commonBytes 35 = .ok (.iload 5, 2) := by decide +kernel
theorem dX2_commonBytes_37 : decode cX2_commonBytes 37 = .ok (.iload_n 2, 1) := by decide +kernel
theorem dX2_commonBytes_38 : decode cX2_commonBytes 38 = .ok (.if_icmp .ge 100, 3) := by decide +kernel
theorem dX2_commonBytes_41 : decode cX2_commonBytes 41 = .ok (.iconst 0, 1) := by decide +kernel
theorem dX2_commonBytes_42 : decode cX2_commonBytes 42 = .ok (.istore 6, 2) := by decide +kernel
theorem dX2_commonBytes_44 : decode cX2_commonBytes 44 = .ok (.iconst 1, 1) := by decide +kernel
theorem dX2_commonBytes_45 : decode cX2_commonBytes 45 = .ok (.istore 7, 2) := by decide +kernel
theorem dX2_commonBytes_47 : decode cX2_commonBytes 47 = .ok (.iload 7, 2) := by decide +kernel
theorem dX2_commonBytes_49 : decode cX2_commonBytes 49 = .ok (.iload 4, 2) := by decide +kernel
theorem dX2_commonBytes_51 : decode cX2_commonBytes 51 = .ok (.if_icmp .gt 81, 3) := by decide +kernel
theorem dX2_commonBytes_54 : decode cX2_commonBytes 54 = .ok (.aload_n 0, 1) := by decide +kernel
theorem dX2_commonBytes_55 : decode cX2_commonBytes 55 = .ok (.getfield 11, 3) := by decide +kernel
theorem dX2_commonBytes_58 : decode cX2_commonBytes 58 = .ok (.iload 7, 2) := by decide +kernel
theorem dX2_commonBytes_60 : decode cX2_commonBytes 60 = .ok (.iaload, 1) := by decide +kernel
theorem dX2_commonBytes_61 : decode cX2_commonBytes 61 = .ok (.istore 8, 2) := by decide +kernel
theorem dX2_commonBytes_63 : decode cX2_commonBytes 63 = .ok (.aload_n 1, 1) := by decide +kernel
theorem dX2_commonBytes_64 : decode cX2_commonBytes 64 = .ok (.iload 5, 2) := by decide +kernel
theorem dX2_commonBytes_66 : decode cX2_commonBytes 66 = .ok (.invokevirtual 37, 3) := by decide +kernel
theorem dX2_commonBytes_69 : decode cX2_commonBytes 69 = .ok (.aload_n 1, 1) := by decide +kernel
theorem dX2_commonBytes_70 : decode cX2_commonBytes 70 = .ok (.iload_n 2, 1) := by decide +kernel
theorem dX2_commonBytes_71 : decode cX2_commonBytes 71 = .ok (.iload 7, 2) := by decide +kernel
theorem dX2_commonBytes_73 : decode cX2_commonBytes 73 = .ok (.iadd, 1) := by decide +kernel
theorem dX2_commonBytes_74 : decode cX2_commonBytes 74 = .ok (.iconst 1, 1) := by decide +kernel
theorem dX2_commonBytes_75 : decode cX2_commonBytes 75 = .ok (.isub, 1) := by decide +kernel
theorem dX2_commonBytes_76 : decode cX2_commonBytes 76 = .ok (.invokevirtual 37, 3) := by decide +kernel
theorem dX2_commonBytes_79 : decode cX2_commonBytes 79 = .ok (.if_icmp .ne 7, 3) := by decide +kernel
theorem dX2_commonBytes_82 : decode cX2_commonBytes 82 = .ok (.iconst 1, 1) := by decide +kernel
theorem dX2_commonBytes_83 : decode cX2_commonBytes 83 = .ok (.goto 4, 3) := by decide +kernel
theorem dX2_commonBytes_86 : decode cX2_commonBytes 86 = .ok (.iconst 0, 1) := by decide +kernel
theorem dX2_commonBytes_87 : decode cX2_commonBytes 87 = .ok (.istore 9, 2) := by decide +kernel
theorem dX2_commonBytes_89 : decode cX2_commonBytes 89 = .ok (.aload_n 0, 1) := by decide +kernel
theorem dX2_commonBytes_90 : decode cX2_commonBytes 90 = .ok (.getfield 11, 3) := by decide +kernel
theorem dX2_commonBytes_93 : decode cX2_commonBytes 93 = .ok (.iload 7, 2) := by decide +kernel
theorem dX2_commonBytes_95 : decode cX2_commonBytes 95 = .ok (.iload 9, 2) := by decide +kernel
theorem dX2_commonBytes_97 : decode cX2_commonBytes 97 = .ok (.ifCond .eq 10, 3) := by decide +kernel
theorem dX2_commonBytes_100 : decode cX2_commonBytes 100 = .ok (.iload 6, 2) := by decide +kernel
theorem dX2_commonBytes_102 : decode cX2_commonBytes 102 = .ok (.iconst 1, 1) := by decide +kernel
theorem dX2_commonBytes_103 : decode cX2_commonBytes 103 = .ok (.iadd, 1) := by decide +kernel
theorem dX2_commonBytes_104 : decode cX2_commonBytes 104 = .ok (.goto 17, 3) := by decide +kernel
theorem dX2_commonBytes_107 : decode cX2_commonBytes 107 = .ok (.iload 8, 2) := by decide +kernel
theorem dX2_commonBytes_109 : decode cX2_commonBytes 109 = .ok (.aload_n 0, 1) := by decide +kernel
theorem dX2_commonBytes_110 : decode cX2_commonBytes 110 = .ok (.getfield 11, 3) := by decide +kernel
theorem dX2_commonBytes_113 : decode cX2_commonBytes 113 = .ok (.iload 7, 2) := by decide +kernel
theorem dX2_commonBytes_115 : decode cX2_commonBytes 115 = .ok (.iconst 1, 1) := by decide +kernel
theorem dX2_commonBytes_116 : decode cX2_commonBytes 116 = .ok (.isub, 1) := by decide +kernel
theorem dX2_commonBytes_117 : decode cX2_commonBytes 117 = .ok (.iaload, 1) := by decide +kernel
theorem dX2_commonBytes_118 : decode cX2_commonBytes 118 = .ok (.invokestatic 43, 3) := by decide +kernel
theorem dX2_commonBytes_121 : decode cX2_commonBytes 121 = .ok (.iastore, 1) := by decide +kernel
theorem dX2_commonBytes_122 : decode cX2_commonBytes 122 = .ok (.iload 8, 2) := by decide +kernel
theorem dX2_commonBytes_124 : decode cX2_commonBytes 124 = .ok (.istore 6, 2) := by decide +kernel
theorem dX2_commonBytes_126 : decode cX2_commonBytes 126 = .ok (.iinc 7 1, 3) := by decide +kernel
theorem dX2_commonBytes_129 : decode cX2_commonBytes 129 = .ok (.goto (-82), 3) := by decide +kernel
theorem dX2_commonBytes_132 : decode cX2_commonBytes 132 = .ok (.iinc 5 1, 3) := by decide +kernel
theorem dX2_commonBytes_135 : decode cX2_commonBytes 135 = .ok (.goto (-100), 3) := by decide +kernel
theorem dX2_commonBytes_138 : decode cX2_commonBytes 138 = .ok (.aload_n 0, 1) := by decide +kernel
theorem dX2_commonBytes_139 : decode cX2_commonBytes 139 = .ok (.getfield 11, 3) := by decide +kernel
theorem dX2_commonBytes_142 : decode cX2_commonBytes 142 = .ok (.iload 4, 2) := by decide +kernel
theorem dX2_commonBytes_144 : decode cX2_commonBytes 144 = .ok (.iaload, 1) := by decide +kernel
theorem dX2_commonBytes_145 : decode cX2_commonBytes 145 = .ok (.ireturn, 1) := by decide +kernel
def f_X2_commonBytes_n87 (S1 : Gr) (x2 : Int32) (x3 : Int32) (k35 : Gr → Int32 → Int32 → Option (Int32 × Gr)) (k47 : Gr → Int32 → Int32 → Int32 → Int32 → Option (Int32 × Gr)) (S0 : Gr) (x4 : Int32) (x5 : Int32) (x6 : Int32) (x7 : Int32) (x8 : Int32) (w0 : Int32) : Option (Int32 × Gr) := if w0 = 0 then (rd' (S0.2 0) 31 (x7 - 1) fun v14 => lt' (mx' x8 v14) fun v15 => ck' 31 x7 (lt' (sA S0 0 (Int32.toNatClampNeg x7) v15) fun S0_16 => lt' (x7 + 1) fun v17 => k47 S0_16 x4 x5 x8 v17)) else (ck' 31 x7 (lt' (sA S0 0 (Int32.toNatClampNeg x7) (x6 + 1)) fun S0_18 => lt' (x7 + 1) fun v19 => k47 S0_18 x4 x5 x8 v19))
def f_X2_commonBytes_n47 (S1 : Gr) (x2 : Int32) (x3 : Int32) (k35 : Gr → Int32 → Int32 → Option (Int32 × Gr)) : Nat → Gr → Int32 → Int32 → Int32 → Int32 → Option (Int32 × Gr)
  | 0, _, _, _, _, _ => none
  | n + 1, S0, x4, x5, x6, x7 => if x4 < x7 then (lt' (x5 + 1) fun v8 => k35 S0 x4 v8) else (rd' (S0.2 0) 31 x7 fun v9 => (f_X8_at S1 x5).bind fun u10 => (f_X8_at S1 ((x2 + x7) - 1)).bind fun u11 => if u10 = u11 then (f_X2_commonBytes_n87 S1 x2 x3 k35 (f_X2_commonBytes_n47 S1 x2 x3 k35 n) S0 x4 x5 x6 x7 v9 1) else (f_X2_commonBytes_n87 S1 x2 x3 k35 (f_X2_commonBytes_n47 S1 x2 x3 k35 n) S0 x4 x5 x6 x7 v9 0))
def f_X2_commonBytes_n35 (S1 : Gr) (x2 : Int32) (x3 : Int32) : Nat → Gr → Int32 → Int32 → Option (Int32 × Gr)
  | 0, _, _, _ => none
  | n + 1, S0, x4, x5 => if x2 ≤ x5 then (rd' (S0.2 0) 31 x4 fun v6 => some (v6, S0)) else (f_X2_commonBytes_n47 S1 x2 x3 (f_X2_commonBytes_n35 S1 x2 x3 n) fu S0 x4 x5 0 1)
def f_X2_commonBytes_n11 (S1 : Gr) (x2 : Int32) (x3 : Int32) : Nat → Gr → Int32 → Int32 → Option (Int32 × Gr)
  | 0, _, _, _ => none
  | n + 1, S0, x4, x5 => if x4 < x5 then (f_X2_commonBytes_n35 S1 x2 x3 fu S0 x4 0) else (ck' 31 x5 (lt' (sA S0 0 (Int32.toNatClampNeg x5) 0) fun S0_3 => lt' (x5 + 1) fun v4 => f_X2_commonBytes_n11 S1 x2 x3 n S0_3 x4 v4))
def f_X2_commonBytes (S0 : Gr) (S1 : Gr) (x2 : Int32) (x3 : Int32) : Option (Int32 × Gr) := lt' (mn' x3 30) fun v1 => f_X2_commonBytes_n11 S1 x2 x3 fu S0 v1 0
set_option maxHeartbeats 4000000 in
set_option maxRecDepth 100000 in
theorem c_X2_commonBytes (l : Launch) (E : Ec) (q0 q1 : Nat → Nat) (sz : Nat) (S0 : Gr) (S1 : Gr) (x2 : Int32) (x3 : Int32) (Rv : Int32 × Gr) (h : f_X2_commonBytes S0 S1 x2 x3 = some Rv) : Met l yX2_commonBytes (wsM (.code yX2_commonBytes cX2_commonBytes 10 (some .int))) ({ frames := 2, cells := 0, slots := 0, locals := 43 } : Room) (va_Pc [.ref (q0 0), .ref (q1 0), .int x2, .int x3] (ctP E (cw_X2 E q0 S0 ++ (cw_X8 E q1 S1)) sz)) (ctI E (cw_X2 E q0 S0 ++ (cw_X8 E q1 S1)) (cw_X2 E q0 Rv.2 ++ (cw_X8 E q1 S1)) sz Rv.1) 0 0 (va_A (cw_X2 E q0 S0 ++ (cw_X8 E q1 S1)) sz) := by
  refine ct_metI (by decide) (Nat.le_of_ble_eq_true rfl) ?_
  intro p e s m ar below meth c A QM hx hb hml hown hg X hP hD hS RET ls hl
  have hown : s.vm.findClass RX2 = some m.cls := hown
  have hl : lv_has ls 10 [(0, .ref (q0 0)), (1, .ref (q1 0)), (2, .int x2), (3, .int x3)] := hl
  have RT : ∀ (v : Int32) (S0 : Gr) (H : Heap) (locs : List Loc) (ls : Array Slot) (pc : Nat), some (v, S0) = some Rv → narrow .int (.int v) = .int v → va_P E.1 vwCl (cw_X2 E q0 S0 ++ (cw_X8 E q1 S1)) H → va_D A (cw_X2 E q0 S0 ++ (cw_X8 E q1 S1)) → va_S A s.heap H locs → decode cX2_commonBytes pc = .ok (.ireturn, 1) → W p l e ({ frames := 2, cells := 0, slots := 0, locals := 43 } : Room) s m ar below meth c H locs 0 0 QM (F0 m pc ls [.int v]) := by
    intro v S0 H locs ls pc e hn hP hD hS d
    obtain rfl := sm_e e
    exact RET H locs pc ls hn hP hD hS d
  clear RET
  have N87 : ∀ (k35 : Gr → Int32 → Int32 → Option (Int32 × Gr)) (hk35 : ∀ (S0 : Gr) (x4 : Int32) (x5 : Int32) (H : Heap) (locs : List Loc) (ls : Array Slot), k35 S0 x4 x5 = some Rv → va_P E.1 vwCl (cw_X2 E q0 S0 ++ (cw_X8 E q1 S1)) H → va_D A (cw_X2 E q0 S0 ++ (cw_X8 E q1 S1)) → va_S A s.heap H locs → lv_has ls 10 [(0, .ref (q0 0)), (1, .ref (q1 0)), (2, .int x2), (4, .int x4), (5, .int x5)] → W p l e ({ frames := 2, cells := 0, slots := 0, locals := 43 } : Room) s m ar below meth c H locs 0 0 QM (F0 m 35 ls [])) (k47 : Gr → Int32 → Int32 → Int32 → Int32 → Option (Int32 × Gr)) (hk47 : ∀ (S0 : Gr) (x4 : Int32) (x5 : Int32) (x6 : Int32) (x7 : Int32) (H : Heap) (locs : List Loc) (ls : Array Slot), k47 S0 x4 x5 x6 x7 = some Rv → va_P E.1 vwCl (cw_X2 E q0 S0 ++ (cw_X8 E q1 S1)) H → va_D A (cw_X2 E q0 S0 ++ (cw_X8 E q1 S1)) → va_S A s.heap H locs → lv_has ls 10 [(0, .ref (q0 0)), (1, .ref (q1 0)), (2, .int x2), (4, .int x4), (5, .int x5), (6, .int x6), (7, .int x7)] → W p l e ({ frames := 2, cells := 0, slots := 0, locals := 43 } : Room) s m ar below meth c H locs 0 0 QM (F0 m 47 ls [])) (S0 : Gr) (x4 : Int32) (x5 : Int32) (x6 : Int32) (x7 : Int32) (x8 : Int32) (w0 : Int32) (H : Heap) (locs : List Loc) (ls : Array Slot), f_X2_commonBytes_n87 S1 x2 x3 k35 k47 S0 x4 x5 x6 x7 x8 w0 = some Rv → va_P E.1 vwCl (cw_X2 E q0 S0 ++ (cw_X8 E q1 S1)) H → va_D A (cw_X2 E q0 S0 ++ (cw_X8 E q1 S1)) → va_S A s.heap H locs → lv_has ls 10 [(0, .ref (q0 0)), (1, .ref (q1 0)), (2, .int x2), (4, .int x4), (5, .int x5), (6, .int x6), (7, .int x7), (8, .int x8)] → W p l e ({ frames := 2, cells := 0, slots := 0, locals := 43 } : Room) s m ar below meth c H locs 0 0 QM (F0 m 87 ls [.int w0]) := by
    intro k35 hk35 k47 hk47 S0 x4 x5 x6 x7 x8 w0 H locs ls h hP hD hS hl
    refine lv_istore (lv' := [(9, .int w0), (0, .ref (q0 0)), (1, .ref (q1 0)), (2, .int x2), (4, .int x4), (5, .int x5), (6, .int x6), (7, .int x7), (8, .int x8)]) hx hb dX2_commonBytes_87 hl (by decide) rfl (fun ls hl => ?_)
    refine lv_aload_n hx hb dX2_commonBytes_89 rfl (lv_at hl 1 rfl) ?_
    refine va_get (D := E.1) (ci := 1) (v := .ref (q0 1)) (C := RX2) (T := TX2) (N := 6) hx hb hg in_X2 hown X.1 hP 0 rfl rfl 0 (by decide) (hg _ wf_X2_11) (fun _ h9 => h9) rfl dX2_commonBytes_90 ?_
    refine lv_iload hx hb dX2_commonBytes_93 (lv_at hl 7 rfl) ?_
    refine lv_iload hx hb dX2_commonBytes_95 (lv_at hl 0 rfl) ?_
    refine lv_if_eq (tgt := 107) hx hb dX2_commonBytes_97 (by decide) (fun c13 => ?_) (fun c13 => ?_)
    · have h := it_t h c13
      refine lv_iload hx hb dX2_commonBytes_107 (lv_at hl 8 rfl) ?_
      refine lv_aload_n hx hb dX2_commonBytes_109 rfl (lv_at hl 1 rfl) ?_
      refine va_get (D := E.1) (ci := 1) (v := .ref (q0 1)) (C := RX2) (T := TX2) (N := 6) hx hb hg in_X2 hown X.1 hP 0 rfl rfl 0 (by decide) (hg _ wf_X2_11) (fun _ h9 => h9) rfl dX2_commonBytes_110 ?_
      refine lv_iload hx hb dX2_commonBytes_113 (lv_at hl 7 rfl) ?_
      refine lv_iconst (v := 1) hx hb dX2_commonBytes_115 (by decide) ?_
      refine lv_isub hx hb dX2_commonBytes_116 ?_
      obtain ⟨hi, v14, ev14, h⟩ := rd_el h
      refine va_iald hx hb X.1 hP 1 0 rfl rfl hi dX2_commonBytes_117 ?_
      refine lv_top' ev14 ?_
      obtain ⟨v15, ev15, h⟩ := lt_el h
      refine va_mmax hx hb (hml.trans hl.1.symm) hown (hg _ wm_X2_43) (hg _ wst_Mmax) (hg _ wini_J9) (hg _ wco_Mmax) (Nat.le_of_ble_eq_true rfl) (Nat.le_of_ble_eq_true rfl) (Nat.zero_le _) (Nat.zero_le _) dX2_commonBytes_118 ?_
      refine lv_top' ev15 ?_
      obtain ⟨hi, h⟩ := ck_el h
      obtain ⟨S0_16, eS, h⟩ := lt_el h
      refine va_iast hx hb X.1 hP hD hS 1 0 rfl rfl hi dX2_commonBytes_121 (fun H locs hP hD hS => ?_)
      have hP : va_P E.1 vwCl (cw_X2 E q0 S0_16 ++ (cw_X8 E q1 S1)) H := by rw [eS]; exact hP
      have hD : va_D A (cw_X2 E q0 S0_16 ++ (cw_X8 E q1 S1)) := by rw [eS]; exact hD
      clear eS
      refine lv_iload hx hb dX2_commonBytes_122 (lv_at hl 8 rfl) ?_
      refine lv_istore (lv' := [(6, .int x8), (9, .int w0), (0, .ref (q0 0)), (1, .ref (q1 0)), (2, .int x2), (4, .int x4), (5, .int x5), (7, .int x7), (8, .int x8)]) hx hb dX2_commonBytes_124 hl (by decide) rfl (fun ls hl => ?_)
      obtain ⟨v17, ev17, h⟩ := lt_el h
      refine lv_iinc (v := v17) (lv' := [(7, .int v17), (6, .int x8), (9, .int w0), (0, .ref (q0 0)), (1, .ref (q1 0)), (2, .int x2), (4, .int x4), (5, .int x5), (8, .int x8)]) hx hb dX2_commonBytes_126 hl (k := 7) rfl (by rw [ev17]; rfl) (by decide) rfl (fun ls hl => ?_)
      refine lv_goto (tgt := 47) hx hb dX2_commonBytes_129 (by decide) ?_
      exact hk47 S0_16 x4 x5 x8 v17 _ _ _ h hP hD hS (lv_sub hl [3, 4, 5, 6, 7, 1, 0] rfl)
    · have h := it_f h c13
      refine lv_iload hx hb dX2_commonBytes_100 (lv_at hl 6 rfl) ?_
      refine lv_iconst (v := 1) hx hb dX2_commonBytes_102 (by decide) ?_
      refine lv_iadd hx hb dX2_commonBytes_103 ?_
      refine lv_goto (tgt := 121) hx hb dX2_commonBytes_104 (by decide) ?_
      obtain ⟨hi, h⟩ := ck_el h
      obtain ⟨S0_18, eS, h⟩ := lt_el h
      refine va_iast hx hb X.1 hP hD hS 1 0 rfl rfl hi dX2_commonBytes_121 (fun H locs hP hD hS => ?_)
      have hP : va_P E.1 vwCl (cw_X2 E q0 S0_18 ++ (cw_X8 E q1 S1)) H := by rw [eS]; exact hP
      have hD : va_D A (cw_X2 E q0 S0_18 ++ (cw_X8 E q1 S1)) := by rw [eS]; exact hD
      clear eS
      refine lv_iload hx hb dX2_commonBytes_122 (lv_at hl 8 rfl) ?_
      refine lv_istore (lv' := [(6, .int x8), (9, .int w0), (0, .ref (q0 0)), (1, .ref (q1 0)), (2, .int x2), (4, .int x4), (5, .int x5), (7, .int x7), (8, .int x8)]) hx hb dX2_commonBytes_124 hl (by decide) rfl (fun ls hl => ?_)
      obtain ⟨v19, ev19, h⟩ := lt_el h
      refine lv_iinc (v := v19) (lv' := [(7, .int v19), (6, .int x8), (9, .int w0), (0, .ref (q0 0)), (1, .ref (q1 0)), (2, .int x2), (4, .int x4), (5, .int x5), (8, .int x8)]) hx hb dX2_commonBytes_126 hl (k := 7) rfl (by rw [ev19]; rfl) (by decide) rfl (fun ls hl => ?_)
      refine lv_goto (tgt := 47) hx hb dX2_commonBytes_129 (by decide) ?_
      exact hk47 S0_18 x4 x5 x8 v19 _ _ _ h hP hD hS (lv_sub hl [3, 4, 5, 6, 7, 1, 0] rfl)
  have N47 : ∀ (k35 : Gr → Int32 → Int32 → Option (Int32 × Gr)) (hk35 : ∀ (S0 : Gr) (x4 : Int32) (x5 : Int32) (H : Heap) (locs : List Loc) (ls : Array Slot), k35 S0 x4 x5 = some Rv → va_P E.1 vwCl (cw_X2 E q0 S0 ++ (cw_X8 E q1 S1)) H → va_D A (cw_X2 E q0 S0 ++ (cw_X8 E q1 S1)) → va_S A s.heap H locs → lv_has ls 10 [(0, .ref (q0 0)), (1, .ref (q1 0)), (2, .int x2), (4, .int x4), (5, .int x5)] → W p l e ({ frames := 2, cells := 0, slots := 0, locals := 43 } : Room) s m ar below meth c H locs 0 0 QM (F0 m 35 ls [])) (n : Nat) (S0 : Gr) (x4 : Int32) (x5 : Int32) (x6 : Int32) (x7 : Int32) (H : Heap) (locs : List Loc) (ls : Array Slot), f_X2_commonBytes_n47 S1 x2 x3 k35 n S0 x4 x5 x6 x7 = some Rv → va_P E.1 vwCl (cw_X2 E q0 S0 ++ (cw_X8 E q1 S1)) H → va_D A (cw_X2 E q0 S0 ++ (cw_X8 E q1 S1)) → va_S A s.heap H locs → lv_has ls 10 [(0, .ref (q0 0)), (1, .ref (q1 0)), (2, .int x2), (4, .int x4), (5, .int x5), (6, .int x6), (7, .int x7)] → W p l e ({ frames := 2, cells := 0, slots := 0, locals := 43 } : Room) s m ar below meth c H locs 0 0 QM (F0 m 47 ls []) := by
    intro k35 hk35 n
    induction n with
    | zero => intro S0 x4 x5 x6 x7 H locs ls h; exact nn_el h
    | succ n ih =>
      intro S0 x4 x5 x6 x7 H locs ls h hP hD hS hl
      refine lv_iload hx hb dX2_commonBytes_47 (lv_at hl 6 rfl) ?_
      refine lv_iload hx hb dX2_commonBytes_49 (lv_at hl 3 rfl) ?_
      refine lv_icmp_gt (tgt := 132) hx hb dX2_commonBytes_51 (by decide) (fun c7 => ?_) (fun c7 => ?_)
      · have h := it_t h c7
        obtain ⟨v8, ev8, h⟩ := lt_el h
        refine lv_iinc (v := v8) (lv' := [(5, .int v8), (0, .ref (q0 0)), (1, .ref (q1 0)), (2, .int x2), (4, .int x4), (6, .int x6), (7, .int x7)]) hx hb dX2_commonBytes_132 hl (k := 4) rfl (by rw [ev8]; rfl) (by decide) rfl (fun ls hl => ?_)
        refine lv_goto (tgt := 35) hx hb dX2_commonBytes_135 (by decide) ?_
        exact hk35 S0 x4 v8 _ _ _ h hP hD hS (lv_sub hl [1, 2, 3, 4, 0] rfl)
      · have h := it_f h c7
        refine lv_aload_n hx hb dX2_commonBytes_54 rfl (lv_at hl 0 rfl) ?_
        refine va_get (D := E.1) (ci := 1) (v := .ref (q0 1)) (C := RX2) (T := TX2) (N := 6) hx hb hg in_X2 hown X.1 hP 0 rfl rfl 0 (by decide) (hg _ wf_X2_11) (fun _ h9 => h9) rfl dX2_commonBytes_55 ?_
        refine lv_iload hx hb dX2_commonBytes_58 (lv_at hl 6 rfl) ?_
        obtain ⟨hi, v9, ev9, h⟩ := rd_el h
        refine va_iald hx hb X.1 hP 1 0 rfl rfl hi dX2_commonBytes_60 ?_
        refine lv_top' ev9 ?_
        refine lv_istore (lv' := [(8, .int v9), (0, .ref (q0 0)), (1, .ref (q1 0)), (2, .int x2), (4, .int x4), (5, .int x5), (6, .int x6), (7, .int x7)]) hx hb dX2_commonBytes_61 hl (by decide) rfl (fun ls hl => ?_)
        refine lv_aload_n hx hb dX2_commonBytes_63 rfl (lv_at hl 2 rfl) ?_
        refine lv_iload hx hb dX2_commonBytes_64 (lv_at hl 5 rfl) ?_
        obtain ⟨u10, hc, h⟩ := bd_el h
        have hC : ([7, 8] : List Nat).map (fun i => (cw_X2 E q0 S0 ++ (cw_X8 E q1 S1))[i]?) = (cw_X8 E q1 S1).map some := rfl
        refine ct_iR X hP hD hS [7, 8] hC (va_runV (C := RX8) (As := [.int x5]) (rest := []) ⟨hx, hb, hml, hown, hg⟩ (c_X8_at l E q1 H.size S1 x5 u10 hc) (cwV 1 hg (gwV wm_X2_37 wi_X8_at wsl_X8_at wini_X8 wco_X8_at) rfl rfl rfl (by decide +kernel) ⟨Nat.le_of_ble_eq_true rfl, Nat.le_of_ble_eq_true rfl⟩) ⟨ct_blind, ct_rv X.1 hP 7 rfl rfl, ct_pre X hP hD hS [7, 8] (by decide) hC _⟩ rfl rfl hl.1 rfl (lv_room (Nat.le_of_ble_eq_true rfl)) dX2_commonBytes_66 ⟨Nat.zero_le _, Nat.zero_le _⟩) (fun H locs hP hD hS => ?_)
        clear hC
        refine lv_aload_n hx hb dX2_commonBytes_69 rfl (lv_at hl 2 rfl) ?_
        refine lv_iload_n hx hb dX2_commonBytes_70 rfl (lv_at hl 3 rfl) ?_
        refine lv_iload hx hb dX2_commonBytes_71 (lv_at hl 7 rfl) ?_
        refine lv_iadd hx hb dX2_commonBytes_73 ?_
        refine lv_iconst (v := 1) hx hb dX2_commonBytes_74 (by decide) ?_
        refine lv_isub hx hb dX2_commonBytes_75 ?_
        obtain ⟨u11, hc, h⟩ := bd_el h
        have hC : ([7, 8] : List Nat).map (fun i => (cw_X2 E q0 S0 ++ (cw_X8 E q1 S1))[i]?) = (cw_X8 E q1 S1).map some := rfl
        refine ct_iR X hP hD hS [7, 8] hC (va_runV (C := RX8) (As := [.int ((x2 + x7) - 1)]) (rest := [.int u10]) ⟨hx, hb, hml, hown, hg⟩ (c_X8_at l E q1 H.size S1 ((x2 + x7) - 1) u11 hc) (cwV 1 hg (gwV wm_X2_37 wi_X8_at wsl_X8_at wini_X8 wco_X8_at) rfl rfl rfl (by decide +kernel) ⟨Nat.le_of_ble_eq_true rfl, Nat.le_of_ble_eq_true rfl⟩) ⟨ct_blind, ct_rv X.1 hP 7 rfl rfl, ct_pre X hP hD hS [7, 8] (by decide) hC _⟩ rfl rfl hl.1 rfl (lv_room (Nat.le_of_ble_eq_true rfl)) dX2_commonBytes_76 ⟨Nat.zero_le _, Nat.zero_le _⟩) (fun H locs hP hD hS => ?_)
        clear hC
        refine lv_icmp_ne (tgt := 86) hx hb dX2_commonBytes_79 (by decide) (fun c12 => ?_) (fun c12 => ?_)
        · have h := it_f h c12
          refine lv_iconst (v := 0) hx hb dX2_commonBytes_86 (by decide) ?_
          exact N87 k35 hk35 (f_X2_commonBytes_n47 S1 x2 x3 k35 n) ih S0 x4 x5 x6 x7 v9 0 _ _ _ h hP hD hS (lv_sub hl [1, 2, 3, 4, 5, 6, 7, 0] rfl)
        · have h := it_t h c12
          refine lv_iconst (v := 1) hx hb dX2_commonBytes_82 (by decide) ?_
          refine lv_goto (tgt := 87) hx hb dX2_commonBytes_83 (by decide) ?_
          exact N87 k35 hk35 (f_X2_commonBytes_n47 S1 x2 x3 k35 n) ih S0 x4 x5 x6 x7 v9 1 _ _ _ h hP hD hS (lv_sub hl [1, 2, 3, 4, 5, 6, 7, 0] rfl)
  have N35 : ∀ (n : Nat) (S0 : Gr) (x4 : Int32) (x5 : Int32) (H : Heap) (locs : List Loc) (ls : Array Slot), f_X2_commonBytes_n35 S1 x2 x3 n S0 x4 x5 = some Rv → va_P E.1 vwCl (cw_X2 E q0 S0 ++ (cw_X8 E q1 S1)) H → va_D A (cw_X2 E q0 S0 ++ (cw_X8 E q1 S1)) → va_S A s.heap H locs → lv_has ls 10 [(0, .ref (q0 0)), (1, .ref (q1 0)), (2, .int x2), (4, .int x4), (5, .int x5)] → W p l e ({ frames := 2, cells := 0, slots := 0, locals := 43 } : Room) s m ar below meth c H locs 0 0 QM (F0 m 35 ls []) := by
    intro n
    induction n with
    | zero => intro S0 x4 x5 H locs ls h; exact nn_el h
    | succ n ih =>
      intro S0 x4 x5 H locs ls h hP hD hS hl
      refine lv_iload hx hb dX2_commonBytes_35 (lv_at hl 4 rfl) ?_
      refine lv_iload_n hx hb dX2_commonBytes_37 rfl (lv_at hl 2 rfl) ?_
      refine lv_icmp_ge (tgt := 138) hx hb dX2_commonBytes_38 (by decide) (fun c5 => ?_) (fun c5 => ?_)
      · have h := it_t h c5
        refine lv_aload_n hx hb dX2_commonBytes_138 rfl (lv_at hl 0 rfl) ?_
        refine va_get (D := E.1) (ci := 1) (v := .ref (q0 1)) (C := RX2) (T := TX2) (N := 6) hx hb hg in_X2 hown X.1 hP 0 rfl rfl 0 (by decide) (hg _ wf_X2_11) (fun _ h9 => h9) rfl dX2_commonBytes_139 ?_
        refine lv_iload hx hb dX2_commonBytes_142 (lv_at hl 3 rfl) ?_
        obtain ⟨hi, v6, ev6, h⟩ := rd_el h
        refine va_iald hx hb X.1 hP 1 0 rfl rfl hi dX2_commonBytes_144 ?_
        refine lv_top' ev6 ?_
        exact RT v6 S0 _ _ _ _ h rfl hP hD hS dX2_commonBytes_145
      · have h := it_f h c5
        refine lv_iconst (v := 0) hx hb dX2_commonBytes_41 (by decide) ?_
        refine lv_istore (lv' := [(6, .int 0), (0, .ref (q0 0)), (1, .ref (q1 0)), (2, .int x2), (4, .int x4), (5, .int x5)]) hx hb dX2_commonBytes_42 hl (by decide) rfl (fun ls hl => ?_)
        refine lv_iconst (v := 1) hx hb dX2_commonBytes_44 (by decide) ?_
        refine lv_istore (lv' := [(7, .int 1), (6, .int 0), (0, .ref (q0 0)), (1, .ref (q1 0)), (2, .int x2), (4, .int x4), (5, .int x5)]) hx hb dX2_commonBytes_45 hl (by decide) rfl (fun ls hl => ?_)
        exact N47 (f_X2_commonBytes_n35 S1 x2 x3 n) ih fu S0 x4 x5 0 1 _ _ _ h hP hD hS (lv_sub hl [2, 3, 4, 5, 6, 1, 0] rfl)
  have N11 : ∀ (n : Nat) (S0 : Gr) (x4 : Int32) (x5 : Int32) (H : Heap) (locs : List Loc) (ls : Array Slot), f_X2_commonBytes_n11 S1 x2 x3 n S0 x4 x5 = some Rv → va_P E.1 vwCl (cw_X2 E q0 S0 ++ (cw_X8 E q1 S1)) H → va_D A (cw_X2 E q0 S0 ++ (cw_X8 E q1 S1)) → va_S A s.heap H locs → lv_has ls 10 [(0, .ref (q0 0)), (1, .ref (q1 0)), (2, .int x2), (4, .int x4), (5, .int x5)] → W p l e ({ frames := 2, cells := 0, slots := 0, locals := 43 } : Room) s m ar below meth c H locs 0 0 QM (F0 m 11 ls []) := by
    intro n
    induction n with
    | zero => intro S0 x4 x5 H locs ls h; exact nn_el h
    | succ n ih =>
      intro S0 x4 x5 H locs ls h hP hD hS hl
      refine lv_iload hx hb dX2_commonBytes_11 (lv_at hl 4 rfl) ?_
      refine lv_iload hx hb dX2_commonBytes_13 (lv_at hl 3 rfl) ?_
      refine lv_icmp_gt (tgt := 32) hx hb dX2_commonBytes_15 (by decide) (fun c2 => ?_) (fun c2 => ?_)
      · have h := it_t h c2
        refine lv_iconst (v := 0) hx hb dX2_commonBytes_32 (by decide) ?_
        refine lv_istore (lv' := [(5, .int 0), (0, .ref (q0 0)), (1, .ref (q1 0)), (2, .int x2), (4, .int x4)]) hx hb dX2_commonBytes_33 hl (by decide) rfl (fun ls hl => ?_)
        exact N35 fu S0 x4 0 _ _ _ h hP hD hS (lv_sub hl [1, 2, 3, 4, 0] rfl)
      · have h := it_f h c2
        refine lv_aload_n hx hb dX2_commonBytes_18 rfl (lv_at hl 0 rfl) ?_
        refine va_get (D := E.1) (ci := 1) (v := .ref (q0 1)) (C := RX2) (T := TX2) (N := 6) hx hb hg in_X2 hown X.1 hP 0 rfl rfl 0 (by decide) (hg _ wf_X2_11) (fun _ h9 => h9) rfl dX2_commonBytes_19 ?_
        refine lv_iload hx hb dX2_commonBytes_22 (lv_at hl 4 rfl) ?_
        refine lv_iconst (v := 0) hx hb dX2_commonBytes_24 (by decide) ?_
        obtain ⟨hi, h⟩ := ck_el h
        obtain ⟨S0_3, eS, h⟩ := lt_el h
        refine va_iast hx hb X.1 hP hD hS 1 0 rfl rfl hi dX2_commonBytes_25 (fun H locs hP hD hS => ?_)
        have hP : va_P E.1 vwCl (cw_X2 E q0 S0_3 ++ (cw_X8 E q1 S1)) H := by rw [eS]; exact hP
        have hD : va_D A (cw_X2 E q0 S0_3 ++ (cw_X8 E q1 S1)) := by rw [eS]; exact hD
        clear eS
        obtain ⟨v4, ev4, h⟩ := lt_el h
        refine lv_iinc (v := v4) (lv' := [(5, .int v4), (0, .ref (q0 0)), (1, .ref (q1 0)), (2, .int x2), (4, .int x4)]) hx hb dX2_commonBytes_26 hl (k := 4) rfl (by rw [ev4]; rfl) (by decide) rfl (fun ls hl => ?_)
        refine lv_goto (tgt := 11) hx hb dX2_commonBytes_29 (by decide) ?_
        exact ih S0_3 x4 v4 _ _ _ h hP hD hS (lv_sub hl [1, 2, 3, 4, 0] rfl)
  obtain ⟨H, eH⟩ : ∃ z, z = s.heap := ⟨_, rfl⟩
  rw [← eH]
  have hP : va_P E.1 vwCl (cw_X2 E q0 S0 ++ (cw_X8 E q1 S1)) H := by rw [eH]; exact hP
  have hS : va_S A s.heap H [] := by rw [eH]; exact hS
  clear eH
  obtain ⟨locs, el⟩ : ∃ z : List Loc, z = [] := ⟨_, rfl⟩
  rw [← el] at hS ⊢
  clear el
  refine lv_iload_n hx hb dX2_commonBytes_0 rfl (lv_at hl 3 rfl) ?_
  refine lv_bipush (v := 30) hx hb dX2_commonBytes_1 (by decide) ?_
  obtain ⟨v1, ev1, h⟩ := lt_el h
  refine va_mmin hx hb (hml.trans hl.1.symm) hown (hg _ wm_X2_31) (hg _ wst_Mmin) (hg _ wini_J9) (hg _ wco_Mmin) (Nat.le_of_ble_eq_true rfl) (Nat.le_of_ble_eq_true rfl) (Nat.zero_le _) (Nat.zero_le _) dX2_commonBytes_3 ?_
  refine lv_top' ev1 ?_
  refine lv_istore (lv' := [(4, .int v1), (0, .ref (q0 0)), (1, .ref (q1 0)), (2, .int x2), (3, .int x3)]) hx hb dX2_commonBytes_6 hl (by decide) rfl (fun ls hl => ?_)
  refine lv_iconst (v := 0) hx hb dX2_commonBytes_8 (by decide) ?_
  refine lv_istore (lv' := [(5, .int 0), (4, .int v1), (0, .ref (q0 0)), (1, .ref (q1 0)), (2, .int x2), (3, .int x3)]) hx hb dX2_commonBytes_9 hl (by decide) rfl (fun ls hl => ?_)
  exact N11 fu S0 v1 0 _ _ _ h hP hD hS (lv_sub hl [2, 3, 4, 1, 0] rfl)
theorem dX2_highestOffer_0 : decode cX2_highestOffer 0 = .ok (.iconst 0, 1) := by decide +kernel
theorem dX2_highestOffer_1 : decode cX2_highestOffer 1 = .ok (.istore 4, 2) := by decide +kernel
theorem dX2_highestOffer_3 : decode cX2_highestOffer 3 = .ok (.iconst 0, 1) := by decide +kernel
theorem dX2_highestOffer_4 : decode cX2_highestOffer 4 = .ok (.istore 5, 2) := by decide +kernel
theorem dX2_highestOffer_6 : decode cX2_highestOffer 6 = .ok (.iconst 1, 1) := by decide +kernel
theorem dX2_highestOffer_7 : decode cX2_highestOffer 7 = .ok (.istore 6, 2) := by decide +kernel
theorem dX2_highestOffer_9 : decode cX2_highestOffer 9 = .ok (.iload 6, 2) := by decide +kernel
theorem dX2_highestOffer_11 : decode cX2_highestOffer 11 = .ok (.iload_n 2, 1) := by decide +kernel
theorem dX2_highestOffer_12 : decode cX2_highestOffer 12 = .ok (.if_icmp .ge 52, 3) := by decide +kernel
theorem dX2_highestOffer_15 : decode cX2_highestOffer 15 = .ok (.aload_n 1, 1) := by decide +kernel
theorem dX2_highestOffer_16 : decode cX2_highestOffer 16 = .ok (.iload 6, 2) := by decide +kernel
theorem dX2_highestOffer_18 : decode cX2_highestOffer 18 = .ok (.invokevirtual 37, 3) := by decide +kernel
theorem dX2_highestOffer_21 : decode cX2_highestOffer 21 = .ok (.aload_n 1, 1) := by decide +kernel
theorem dX2_highestOffer_22 : decode cX2_highestOffer 22 = .ok (.iload 4, 2) := by decide +kernel
theorem dX2_highestOffer_24 : decode cX2_highestOffer 24 = .ok (.invokevirtual 37, 3) := by decide +kernel
theorem dX2_highestOffer_27 : decode cX2_highestOffer 27 = .ok (.if_icmp .le 18, 3) := by decide +kernel
theorem dX2_highestOffer_30 : decode cX2_highestOffer 30 = .ok (.aload_n 1, 1) := by decide +kernel
theorem dX2_highestOffer_31 : decode cX2_highestOffer 31 = .ok (.iload 4, 2) := by decide +kernel
theorem dX2_highestOffer_33 : decode cX2_highestOffer 33 = .ok (.invokevirtual 37, 3) := by decide +kernel
theorem dX2_highestOffer_36 : decode cX2_highestOffer 36 = .ok (.istore 5, 2) := by decide +kernel
theorem dX2_highestOffer_38 : decode cX2_highestOffer 38 = .ok (.iload 6, 2) := by decide +kernel
theorem dX2_highestOffer_40 : decode cX2_highestOffer 40 = .ok (.istore 4, 2) := by decide +kernel
theorem dX2_highestOffer_42 : decode cX2_highestOffer 42 = .ok (.goto 16, 3) := by decide +kernel
theorem dX2_highestOffer_45 : decode cX2_highestOffer 45 = .ok (.iload 5, 2) := by decide +kernel
theorem dX2_highestOffer_47 : decode cX2_highestOffer 47 = .ok (.aload_n 1, 1) := by decide +kernel
theorem dX2_highestOffer_48 : decode cX2_highestOffer 48 = .ok (.iload 6, 2) := by decide +kernel
theorem dX2_highestOffer_50 : decode cX2_highestOffer 50 = .ok (.invokevirtual 37, 3) := by decide +kernel
theorem dX2_highestOffer_53 : decode cX2_highestOffer 53 = .ok (.invokestatic 43, 3) := by decide +kernel
theorem dX2_highestOffer_56 : decode cX2_highestOffer 56 = .ok (.istore 5, 2) := by decide +kernel
theorem dX2_highestOffer_58 : decode cX2_highestOffer 58 = .ok (.iinc 6 1, 3) := by decide +kernel
theorem dX2_highestOffer_61 : decode cX2_highestOffer 61 = .ok (.goto (-52), 3) := by decide +kernel
theorem dX2_highestOffer_64 : decode cX2_highestOffer 64 = .ok (.iload_n 3, 1) := by decide +kernel
theorem dX2_highestOffer_65 : decode cX2_highestOffer 65 = .ok (.ifCond .ne 8, 3) := by decide +kernel
theorem dX2_highestOffer_68 : decode cX2_highestOffer 68 = .ok (.iload 4, 2) := by decide +kernel
theorem dX2_highestOffer_70 : decode cX2_highestOffer 70 = .ok (.goto 5, 3) := by decide +kernel
theorem dX2_highestOffer_73 : decode cX2_highestOffer 73 = .ok (.iload 5, 2) := by decide +kernel
theorem dX2_highestOffer_75 : decode cX2_highestOffer 75 = .ok (.ireturn, 1) := by decide +kernel
def f_X2_highestOffer_n9 (S0 : Gr) (S1 : Gr) (x2 : Int32) (x3 : Int32) : Nat → Int32 → Int32 → Int32 → Option (Int32)
  | 0, _, _, _ => none
  | n + 1, x4, x5, x6 => if x2 ≤ x6 then (if x3 = 0 then (some x4) else (some x5)) else ((f_X8_at S1 x6).bind fun u3 => (f_X8_at S1 x4).bind fun u4 => if u3 ≤ u4 then ((f_X8_at S1 x6).bind fun u6 => lt' (mx' x5 u6) fun v7 => lt' (x6 + 1) fun v8 => f_X2_highestOffer_n9 S0 S1 x2 x3 n x4 v7 v8) else ((f_X8_at S1 x4).bind fun u9 => lt' (x6 + 1) fun v10 => f_X2_highestOffer_n9 S0 S1 x2 x3 n x6 u9 v10))
def f_X2_highestOffer (S0 : Gr) (S1 : Gr) (x2 : Int32) (x3 : Int32) : Option (Int32) := f_X2_highestOffer_n9 S0 S1 x2 x3 fu 0 0 1
set_option maxHeartbeats 4000000 in
set_option maxRecDepth 100000 in
theorem c_X2_highestOffer (l : Launch) (E : Ec) (q0 q1 : Nat → Nat) (sz : Nat) (S0 : Gr) (S1 : Gr) (x2 : Int32) (x3 : Int32) (Rv : Int32) (h : f_X2_highestOffer S0 S1 x2 x3 = some Rv) : Met l yX2_highestOffer (wsM (.code yX2_highestOffer cX2_highestOffer 7 (some .int))) ({ frames := 2, cells := 0, slots := 0, locals := 43 } : Room) (va_Pc [.ref (q0 0), .ref (q1 0), .int x2, .int x3] (ctP E (cw_X2 E q0 S0 ++ (cw_X8 E q1 S1)) sz)) (ctI E (cw_X2 E q0 S0 ++ (cw_X8 E q1 S1)) (cw_X2 E q0 S0 ++ (cw_X8 E q1 S1)) sz Rv) 0 0 (va_A (cw_X2 E q0 S0 ++ (cw_X8 E q1 S1)) sz) := by
  refine ct_metI (by decide) (Nat.le_of_ble_eq_true rfl) ?_
  intro p e s m ar below meth c A QM hx hb hml hown hg X hP hD hS RET ls hl
  have hown : s.vm.findClass RX2 = some m.cls := hown
  have hl : lv_has ls 7 [(0, .ref (q0 0)), (1, .ref (q1 0)), (2, .int x2), (3, .int x3)] := hl
  have RT : ∀ (v : Int32) (H : Heap) (locs : List Loc) (ls : Array Slot) (pc : Nat), some v = some Rv → narrow .int (.int v) = .int v → va_P E.1 vwCl (cw_X2 E q0 S0 ++ (cw_X8 E q1 S1)) H → va_D A (cw_X2 E q0 S0 ++ (cw_X8 E q1 S1)) → va_S A s.heap H locs → decode cX2_highestOffer pc = .ok (.ireturn, 1) → W p l e ({ frames := 2, cells := 0, slots := 0, locals := 43 } : Room) s m ar below meth c H locs 0 0 QM (F0 m pc ls [.int v]) := by
    intro v H locs ls pc e hn hP hD hS d
    obtain rfl := sm_e e
    exact RET H locs pc ls hn hP hD hS d
  clear RET
  have N9 : ∀ (n : Nat) (x4 : Int32) (x5 : Int32) (x6 : Int32) (H : Heap) (locs : List Loc) (ls : Array Slot), f_X2_highestOffer_n9 S0 S1 x2 x3 n x4 x5 x6 = some Rv → va_P E.1 vwCl (cw_X2 E q0 S0 ++ (cw_X8 E q1 S1)) H → va_D A (cw_X2 E q0 S0 ++ (cw_X8 E q1 S1)) → va_S A s.heap H locs → lv_has ls 7 [(1, .ref (q1 0)), (2, .int x2), (3, .int x3), (4, .int x4), (5, .int x5), (6, .int x6)] → W p l e ({ frames := 2, cells := 0, slots := 0, locals := 43 } : Room) s m ar below meth c H locs 0 0 QM (F0 m 9 ls []) := by
    intro n
    induction n with
    | zero => intro x4 x5 x6 H locs ls h; exact nn_el h
    | succ n ih =>
      intro x4 x5 x6 H locs ls h hP hD hS hl
      refine lv_iload hx hb dX2_highestOffer_9 (lv_at hl 5 rfl) ?_
      refine lv_iload_n hx hb dX2_highestOffer_11 rfl (lv_at hl 1 rfl) ?_
      refine lv_icmp_ge (tgt := 64) hx hb dX2_highestOffer_12 (by decide) (fun c1 => ?_) (fun c1 => ?_)
      · have h := it_t h c1
        refine lv_iload_n hx hb dX2_highestOffer_64 rfl (lv_at hl 2 rfl) ?_
        refine lv_if_ne (tgt := 73) hx hb dX2_highestOffer_65 (by decide) (fun c2 => ?_) (fun c2 => ?_)
        · have h := it_f h c2
          refine lv_iload hx hb dX2_highestOffer_73 (lv_at hl 4 rfl) ?_
          exact RT x5 _ _ _ _ h rfl hP hD hS dX2_highestOffer_75
        · have h := it_t h c2
          refine lv_iload hx hb dX2_highestOffer_68 (lv_at hl 3 rfl) ?_
          refine lv_goto (tgt := 75) hx hb dX2_highestOffer_70 (by decide) ?_
          exact RT x4 _ _ _ _ h rfl hP hD hS dX2_highestOffer_75
      · have h := it_f h c1
        refine lv_aload_n hx hb dX2_highestOffer_15 rfl (lv_at hl 0 rfl) ?_
        refine lv_iload hx hb dX2_highestOffer_16 (lv_at hl 5 rfl) ?_
        obtain ⟨u3, hc, h⟩ := bd_el h
        have hC : ([7, 8] : List Nat).map (fun i => (cw_X2 E q0 S0 ++ (cw_X8 E q1 S1))[i]?) = (cw_X8 E q1 S1).map some := rfl
        refine ct_iR X hP hD hS [7, 8] hC (va_runV (C := RX8) (As := [.int x6]) (rest := []) ⟨hx, hb, hml, hown, hg⟩ (c_X8_at l E q1 H.size S1 x6 u3 hc) (cwV 1 hg (gwV wm_X2_37 wi_X8_at wsl_X8_at wini_X8 wco_X8_at) rfl rfl rfl (by decide +kernel) ⟨Nat.le_of_ble_eq_true rfl, Nat.le_of_ble_eq_true rfl⟩) ⟨ct_blind, ct_rv X.1 hP 7 rfl rfl, ct_pre X hP hD hS [7, 8] (by decide) hC _⟩ rfl rfl hl.1 rfl (lv_room (Nat.le_of_ble_eq_true rfl)) dX2_highestOffer_18 ⟨Nat.zero_le _, Nat.zero_le _⟩) (fun H locs hP hD hS => ?_)
        clear hC
        refine lv_aload_n hx hb dX2_highestOffer_21 rfl (lv_at hl 0 rfl) ?_
        refine lv_iload hx hb dX2_highestOffer_22 (lv_at hl 3 rfl) ?_
        obtain ⟨u4, hc, h⟩ := bd_el h
        have hC : ([7, 8] : List Nat).map (fun i => (cw_X2 E q0 S0 ++ (cw_X8 E q1 S1))[i]?) = (cw_X8 E q1 S1).map some := rfl
        refine ct_iR X hP hD hS [7, 8] hC (va_runV (C := RX8) (As := [.int x4]) (rest := [.int u3]) ⟨hx, hb, hml, hown, hg⟩ (c_X8_at l E q1 H.size S1 x4 u4 hc) (cwV 1 hg (gwV wm_X2_37 wi_X8_at wsl_X8_at wini_X8 wco_X8_at) rfl rfl rfl (by decide +kernel) ⟨Nat.le_of_ble_eq_true rfl, Nat.le_of_ble_eq_true rfl⟩) ⟨ct_blind, ct_rv X.1 hP 7 rfl rfl, ct_pre X hP hD hS [7, 8] (by decide) hC _⟩ rfl rfl hl.1 rfl (lv_room (Nat.le_of_ble_eq_true rfl)) dX2_highestOffer_24 ⟨Nat.zero_le _, Nat.zero_le _⟩) (fun H locs hP hD hS => ?_)
        clear hC
        refine lv_icmp_le (tgt := 45) hx hb dX2_highestOffer_27 (by decide) (fun c5 => ?_) (fun c5 => ?_)
        · have h := it_t h c5
          refine lv_iload hx hb dX2_highestOffer_45 (lv_at hl 4 rfl) ?_
          refine lv_aload_n hx hb dX2_highestOffer_47 rfl (lv_at hl 0 rfl) ?_
          refine lv_iload hx hb dX2_highestOffer_48 (lv_at hl 5 rfl) ?_
          obtain ⟨u6, hc, h⟩ := bd_el h
          have hC : ([7, 8] : List Nat).map (fun i => (cw_X2 E q0 S0 ++ (cw_X8 E q1 S1))[i]?) = (cw_X8 E q1 S1).map some := rfl
          refine ct_iR X hP hD hS [7, 8] hC (va_runV (C := RX8) (As := [.int x6]) (rest := [.int x5]) ⟨hx, hb, hml, hown, hg⟩ (c_X8_at l E q1 H.size S1 x6 u6 hc) (cwV 1 hg (gwV wm_X2_37 wi_X8_at wsl_X8_at wini_X8 wco_X8_at) rfl rfl rfl (by decide +kernel) ⟨Nat.le_of_ble_eq_true rfl, Nat.le_of_ble_eq_true rfl⟩) ⟨ct_blind, ct_rv X.1 hP 7 rfl rfl, ct_pre X hP hD hS [7, 8] (by decide) hC _⟩ rfl rfl hl.1 rfl (lv_room (Nat.le_of_ble_eq_true rfl)) dX2_highestOffer_50 ⟨Nat.zero_le _, Nat.zero_le _⟩) (fun H locs hP hD hS => ?_)
          clear hC
          obtain ⟨v7, ev7, h⟩ := lt_el h
          refine va_mmax hx hb (hml.trans hl.1.symm) hown (hg _ wm_X2_43) (hg _ wst_Mmax) (hg _ wini_J9) (hg _ wco_Mmax) (Nat.le_of_ble_eq_true rfl) (Nat.le_of_ble_eq_true rfl) (Nat.zero_le _) (Nat.zero_le _) dX2_highestOffer_53 ?_
          refine lv_top' ev7 ?_
          refine lv_istore (lv' := [(5, .int v7), (1, .ref (q1 0)), (2, .int x2), (3, .int x3), (4, .int x4), (6, .int x6)]) hx hb dX2_highestOffer_56 hl (by decide) rfl (fun ls hl => ?_)
          obtain ⟨v8, ev8, h⟩ := lt_el h
          refine lv_iinc (v := v8) (lv' := [(6, .int v8), (5, .int v7), (1, .ref (q1 0)), (2, .int x2), (3, .int x3), (4, .int x4)]) hx hb dX2_highestOffer_58 hl (k := 5) rfl (by rw [ev8]; rfl) (by decide) rfl (fun ls hl => ?_)
          refine lv_goto (tgt := 9) hx hb dX2_highestOffer_61 (by decide) ?_
          exact ih x4 v7 v8 _ _ _ h hP hD hS (lv_sub hl [2, 3, 4, 5, 1, 0] rfl)
        · have h := it_f h c5
          refine lv_aload_n hx hb dX2_highestOffer_30 rfl (lv_at hl 0 rfl) ?_
          refine lv_iload hx hb dX2_highestOffer_31 (lv_at hl 3 rfl) ?_
          obtain ⟨u9, hc, h⟩ := bd_el h
          have hC : ([7, 8] : List Nat).map (fun i => (cw_X2 E q0 S0 ++ (cw_X8 E q1 S1))[i]?) = (cw_X8 E q1 S1).map some := rfl
          refine ct_iR X hP hD hS [7, 8] hC (va_runV (C := RX8) (As := [.int x4]) (rest := []) ⟨hx, hb, hml, hown, hg⟩ (c_X8_at l E q1 H.size S1 x4 u9 hc) (cwV 1 hg (gwV wm_X2_37 wi_X8_at wsl_X8_at wini_X8 wco_X8_at) rfl rfl rfl (by decide +kernel) ⟨Nat.le_of_ble_eq_true rfl, Nat.le_of_ble_eq_true rfl⟩) ⟨ct_blind, ct_rv X.1 hP 7 rfl rfl, ct_pre X hP hD hS [7, 8] (by decide) hC _⟩ rfl rfl hl.1 rfl (lv_room (Nat.le_of_ble_eq_true rfl)) dX2_highestOffer_33 ⟨Nat.zero_le _, Nat.zero_le _⟩) (fun H locs hP hD hS => ?_)
          clear hC
          refine lv_istore (lv' := [(5, .int u9), (1, .ref (q1 0)), (2, .int x2), (3, .int x3), (4, .int x4), (6, .int x6)]) hx hb dX2_highestOffer_36 hl (by decide) rfl (fun ls hl => ?_)
          refine lv_iload hx hb dX2_highestOffer_38 (lv_at hl 5 rfl) ?_
          refine lv_istore (lv' := [(4, .int x6), (5, .int u9), (1, .ref (q1 0)), (2, .int x2), (3, .int x3), (6, .int x6)]) hx hb dX2_highestOffer_40 hl (by decide) rfl (fun ls hl => ?_)
          refine lv_goto (tgt := 58) hx hb dX2_highestOffer_42 (by decide) ?_
          obtain ⟨v10, ev10, h⟩ := lt_el h
          refine lv_iinc (v := v10) (lv' := [(6, .int v10), (4, .int x6), (5, .int u9), (1, .ref (q1 0)), (2, .int x2), (3, .int x3)]) hx hb dX2_highestOffer_58 hl (k := 5) rfl (by rw [ev10]; rfl) (by decide) rfl (fun ls hl => ?_)
          refine lv_goto (tgt := 9) hx hb dX2_highestOffer_61 (by decide) ?_
          exact ih x6 u9 v10 _ _ _ h hP hD hS (lv_sub hl [3, 4, 5, 1, 2, 0] rfl)
  obtain ⟨H, eH⟩ : ∃ z, z = s.heap := ⟨_, rfl⟩
  rw [← eH]
  have hP : va_P E.1 vwCl (cw_X2 E q0 S0 ++ (cw_X8 E q1 S1)) H := by rw [eH]; exact hP
  have hS : va_S A s.heap H [] := by rw [eH]; exact hS
  clear eH
  obtain ⟨locs, el⟩ : ∃ z : List Loc, z = [] := ⟨_, rfl⟩
  rw [← el] at hS ⊢
  clear el
  refine lv_iconst (v := 0) hx hb dX2_highestOffer_0 (by decide) ?_
  refine lv_istore (lv' := [(4, .int 0), (0, .ref (q0 0)), (1, .ref (q1 0)), (2, .int x2), (3, .int x3)]) hx hb dX2_highestOffer_1 hl (by decide) rfl (fun ls hl => ?_)
  refine lv_iconst (v := 0) hx hb dX2_highestOffer_3 (by decide) ?_
  refine lv_istore (lv' := [(5, .int 0), (4, .int 0), (0, .ref (q0 0)), (1, .ref (q1 0)), (2, .int x2), (3, .int x3)]) hx hb dX2_highestOffer_4 hl (by decide) rfl (fun ls hl => ?_)
  refine lv_iconst (v := 1) hx hb dX2_highestOffer_6 (by decide) ?_
  refine lv_istore (lv' := [(6, .int 1), (5, .int 0), (4, .int 0), (0, .ref (q0 0)), (1, .ref (q1 0)), (2, .int x2), (3, .int x3)]) hx hb dX2_highestOffer_7 hl (by decide) rfl (fun ls hl => ?_)
  exact N9 fu 0 0 1 _ _ _ h hP hD hS (lv_sub hl [4, 5, 6, 2, 1, 0] rfl)
theorem dX2_firstEnd_0 : decode cX2_firstEnd 0 = .ok (.iconst (-1), 1) := by decide +kernel
theorem dX2_firstEnd_1 : decode cX2_firstEnd 1 = .ok (.istore 4, 2) := by decide +kernel
theorem dX2_firstEnd_3 : decode cX2_firstEnd 3 = .ok (.iconst 0, 1) := by decide +kernel
theorem dX2_firstEnd_4 : decode cX2_firstEnd 4 = .ok (.istore 5, 2) := by decide +kernel
theorem dX2_firstEnd_6 : decode cX2_firstEnd 6 = .ok (.iload 5, 2) := by decide +kernel
theorem dX2_firstEnd_8 : decode cX2_firstEnd 8 = .ok (.iload_n 2, 1) := by decide +kernel
theorem dX2_firstEnd_9 : decode cX2_firstEnd 9 = .ok (.if_icmp .ge 50, 3) := by decide +kernel
theorem dX2_firstEnd_12 : decode cX2_firstEnd 12 = .ok (.aload_n 1, 1) := by decide +kernel
theorem dX2_firstEnd_13 : decode cX2_firstEnd 13 = .ok (.iconst 2, 1) := by decide +kernel
theorem dX2_firstEnd_14 : decode cX2_firstEnd 14 = .ok (.iload 5, 2) := by decide +kernel
theorem dX2_firstEnd_16 : decode cX2_firstEnd 16 = .ok (.imul, 1) := by decide +kernel
theorem dX2_firstEnd_17 : decode cX2_firstEnd 17 = .ok (.iconst 1, 1) := by decide +kernel
theorem dX2_firstEnd_18 : decode cX2_firstEnd 18 = .ok (.iadd, 1) := by decide +kernel
theorem dX2_firstEnd_19 : decode cX2_firstEnd 19 = .ok (.invokevirtual 37, 3) := by decide +kernel
theorem dX2_firstEnd_22 : decode cX2_firstEnd 22 = .ok (.istore 6, 2) := by decide +kernel
theorem dX2_firstEnd_24 : decode cX2_firstEnd 24 = .ok (.aload_n 1, 1) := by decide +kernel
theorem dX2_firstEnd_25 : decode cX2_firstEnd 25 = .ok (.iconst 2, 1) := by decide +kernel
theorem dX2_firstEnd_26 : decode cX2_firstEnd 26 = .ok (.iload 5, 2) := by decide +kernel
theorem dX2_firstEnd_28 : decode cX2_firstEnd 28 = .ok (.imul, 1) := by decide +kernel
theorem dX2_firstEnd_29 : decode cX2_firstEnd 29 = .ok (.invokevirtual 37, 3) := by decide +kernel
theorem dX2_firstEnd_32 : decode cX2_firstEnd 32 = .ok (.iload_n 3, 1) := by decide +kernel
theorem dX2_firstEnd_33 : decode cX2_firstEnd 33 = .ok (.if_icmp .le 20, 3) := by decide +kernel
theorem dX2_firstEnd_36 : decode cX2_firstEnd 36 = .ok (.iload 4, 2) := by decide +kernel
theorem dX2_firstEnd_38 : decode cX2_firstEnd 38 = .ok (.iconst (-1), 1) := by decide +kernel
theorem dX2_firstEnd_39 : decode cX2_firstEnd 39 = .ok (.if_icmp .eq 10, 3) := by decide +kernel
theorem dX2_firstEnd_42 : decode cX2_firstEnd 42 = .ok (.iload 6, 2) := by decide +kernel
theorem dX2_firstEnd_44 : decode cX2_firstEnd 44 = .ok (.iload 4, 2) := by decide +kernel
theorem dX2_firstEnd_46 : decode cX2_firstEnd 46 = .ok (.if_icmp .ge 7, 3) := by decide +kernel
theorem dX2_firstEnd_49 : decode cX2_firstEnd 49 = .ok (.iload 6, 2) := by decide +kernel
theorem dX2_firstEnd_51 : decode cX2_firstEnd 51 = .ok (.istore 4, 2) := by decide +kernel
theorem dX2_firstEnd_53 : decode cX2_firstEnd 53 = .ok (.iinc 5 1, 3) := by decide +kernel
theorem dX2_firstEnd_56 : decode cX2_firstEnd 56 = .ok (.goto (-50), 3) := by decide +kernel
theorem dX2_firstEnd_59 : decode cX2_firstEnd 59 = .ok (.iload 4, 2) := by decide +kernel
theorem dX2_firstEnd_61 : decode cX2_firstEnd 61 = .ok (.ireturn, 1) := by decide +kernel
def f_X2_firstEnd_n6 (S0 : Gr) (S1 : Gr) (x2 : Int32) (x3 : Int32) : Nat → Int32 → Int32 → Option (Int32)
  | 0, _, _ => none
  | n + 1, x4, x5 => if x2 ≤ x5 then (some x4) else ((f_X8_at S1 ((2 * x5) + 1)).bind fun u2 => (f_X8_at S1 (2 * x5)).bind fun u3 => if u3 ≤ x3 then (lt' (x5 + 1) fun v5 => f_X2_firstEnd_n6 S0 S1 x2 x3 n x4 v5) else (if x4 = (-1) then (lt' (x5 + 1) fun v7 => f_X2_firstEnd_n6 S0 S1 x2 x3 n u2 v7) else (if x4 ≤ u2 then (lt' (x5 + 1) fun v9 => f_X2_firstEnd_n6 S0 S1 x2 x3 n x4 v9) else (lt' (x5 + 1) fun v10 => f_X2_firstEnd_n6 S0 S1 x2 x3 n u2 v10))))
def f_X2_firstEnd (S0 : Gr) (S1 : Gr) (x2 : Int32) (x3 : Int32) : Option (Int32) := f_X2_firstEnd_n6 S0 S1 x2 x3 fu (-1) 0
set_option maxHeartbeats 4000000 in
set_option maxRecDepth 100000 in
theorem c_X2_firstEnd (l : Launch) (E : Ec) (q0 q1 : Nat → Nat) (sz : Nat) (S0 : Gr) (S1 : Gr) (x2 : Int32) (x3 : Int32) (Rv : Int32) (h : f_X2_firstEnd S0 S1 x2 x3 = some Rv) : Met l yX2_firstEnd (wsM (.code yX2_firstEnd cX2_firstEnd 7 (some .int))) ({ frames := 2, cells := 0, slots := 0, locals := 43 } : Room) (va_Pc [.ref (q0 0), .ref (q1 0), .int x2, .int x3] (ctP E (cw_X2 E q0 S0 ++ (cw_X8 E q1 S1)) sz)) (ctI E (cw_X2 E q0 S0 ++ (cw_X8 E q1 S1)) (cw_X2 E q0 S0 ++ (cw_X8 E q1 S1)) sz Rv) 0 0 (va_A (cw_X2 E q0 S0 ++ (cw_X8 E q1 S1)) sz) := by
  refine ct_metI (by decide) (Nat.le_of_ble_eq_true rfl) ?_
  intro p e s m ar below meth c A QM hx hb hml hown hg X hP hD hS RET ls hl
  have hown : s.vm.findClass RX2 = some m.cls := hown
  have hl : lv_has ls 7 [(0, .ref (q0 0)), (1, .ref (q1 0)), (2, .int x2), (3, .int x3)] := hl
  have RT : ∀ (v : Int32) (H : Heap) (locs : List Loc) (ls : Array Slot) (pc : Nat), some v = some Rv → narrow .int (.int v) = .int v → va_P E.1 vwCl (cw_X2 E q0 S0 ++ (cw_X8 E q1 S1)) H → va_D A (cw_X2 E q0 S0 ++ (cw_X8 E q1 S1)) → va_S A s.heap H locs → decode cX2_firstEnd pc = .ok (.ireturn, 1) → W p l e ({ frames := 2, cells := 0, slots := 0, locals := 43 } : Room) s m ar below meth c H locs 0 0 QM (F0 m pc ls [.int v]) := by
    intro v H locs ls pc e hn hP hD hS d
    obtain rfl := sm_e e
    exact RET H locs pc ls hn hP hD hS d
  clear RET
  have N6 : ∀ (n : Nat) (x4 : Int32) (x5 : Int32) (H : Heap) (locs : List Loc) (ls : Array Slot), f_X2_firstEnd_n6 S0 S1 x2 x3 n x4 x5 = some Rv → va_P E.1 vwCl (cw_X2 E q0 S0 ++ (cw_X8 E q1 S1)) H → va_D A (cw_X2 E q0 S0 ++ (cw_X8 E q1 S1)) → va_S A s.heap H locs → lv_has ls 7 [(1, .ref (q1 0)), (2, .int x2), (3, .int x3), (4, .int x4), (5, .int x5)] → W p l e ({ frames := 2, cells := 0, slots := 0, locals := 43 } : Room) s m ar below meth c H locs 0 0 QM (F0 m 6 ls []) := by
    intro n
    induction n with
    | zero => intro x4 x5 H locs ls h; exact nn_el h
    | succ n ih =>
      intro x4 x5 H locs ls h hP hD hS hl
      refine lv_iload hx hb dX2_firstEnd_6 (lv_at hl 4 rfl) ?_
      refine lv_iload_n hx hb dX2_firstEnd_8 rfl (lv_at hl 1 rfl) ?_
      refine lv_icmp_ge (tgt := 59) hx hb dX2_firstEnd_9 (by decide) (fun c1 => ?_) (fun c1 => ?_)
      · have h := it_t h c1
        refine lv_iload hx hb dX2_firstEnd_59 (lv_at hl 3 rfl) ?_
        exact RT x4 _ _ _ _ h rfl hP hD hS dX2_firstEnd_61
      · have h := it_f h c1
        refine lv_aload_n hx hb dX2_firstEnd_12 rfl (lv_at hl 0 rfl) ?_
        refine lv_iconst (v := 2) hx hb dX2_firstEnd_13 (by decide) ?_
        refine lv_iload hx hb dX2_firstEnd_14 (lv_at hl 4 rfl) ?_
        refine lv_imul hx hb dX2_firstEnd_16 ?_
        refine lv_iconst (v := 1) hx hb dX2_firstEnd_17 (by decide) ?_
        refine lv_iadd hx hb dX2_firstEnd_18 ?_
        obtain ⟨u2, hc, h⟩ := bd_el h
        have hC : ([7, 8] : List Nat).map (fun i => (cw_X2 E q0 S0 ++ (cw_X8 E q1 S1))[i]?) = (cw_X8 E q1 S1).map some := rfl
        refine ct_iR X hP hD hS [7, 8] hC (va_runV (C := RX8) (As := [.int ((2 * x5) + 1)]) (rest := []) ⟨hx, hb, hml, hown, hg⟩ (c_X8_at l E q1 H.size S1 ((2 * x5) + 1) u2 hc) (cwV 1 hg (gwV wm_X2_37 wi_X8_at wsl_X8_at wini_X8 wco_X8_at) rfl rfl rfl (by decide +kernel) ⟨Nat.le_of_ble_eq_true rfl, Nat.le_of_ble_eq_true rfl⟩) ⟨ct_blind, ct_rv X.1 hP 7 rfl rfl, ct_pre X hP hD hS [7, 8] (by decide) hC _⟩ rfl rfl hl.1 rfl (lv_room (Nat.le_of_ble_eq_true rfl)) dX2_firstEnd_19 ⟨Nat.zero_le _, Nat.zero_le _⟩) (fun H locs hP hD hS => ?_)
        clear hC
        refine lv_istore (lv' := [(6, .int u2), (1, .ref (q1 0)), (2, .int x2), (3, .int x3), (4, .int x4), (5, .int x5)]) hx hb dX2_firstEnd_22 hl (by decide) rfl (fun ls hl => ?_)
        refine lv_aload_n hx hb dX2_firstEnd_24 rfl (lv_at hl 1 rfl) ?_
        refine lv_iconst (v := 2) hx hb dX2_firstEnd_25 (by decide) ?_
        refine lv_iload hx hb dX2_firstEnd_26 (lv_at hl 5 rfl) ?_
        refine lv_imul hx hb dX2_firstEnd_28 ?_
        obtain ⟨u3, hc, h⟩ := bd_el h
        have hC : ([7, 8] : List Nat).map (fun i => (cw_X2 E q0 S0 ++ (cw_X8 E q1 S1))[i]?) = (cw_X8 E q1 S1).map some := rfl
        refine ct_iR X hP hD hS [7, 8] hC (va_runV (C := RX8) (As := [.int (2 * x5)]) (rest := []) ⟨hx, hb, hml, hown, hg⟩ (c_X8_at l E q1 H.size S1 (2 * x5) u3 hc) (cwV 1 hg (gwV wm_X2_37 wi_X8_at wsl_X8_at wini_X8 wco_X8_at) rfl rfl rfl (by decide +kernel) ⟨Nat.le_of_ble_eq_true rfl, Nat.le_of_ble_eq_true rfl⟩) ⟨ct_blind, ct_rv X.1 hP 7 rfl rfl, ct_pre X hP hD hS [7, 8] (by decide) hC _⟩ rfl rfl hl.1 rfl (lv_room (Nat.le_of_ble_eq_true rfl)) dX2_firstEnd_29 ⟨Nat.zero_le _, Nat.zero_le _⟩) (fun H locs hP hD hS => ?_)
        clear hC
        refine lv_iload_n hx hb dX2_firstEnd_32 rfl (lv_at hl 3 rfl) ?_
        refine lv_icmp_le (tgt := 53) hx hb dX2_firstEnd_33 (by decide) (fun c4 => ?_) (fun c4 => ?_)
        · have h := it_t h c4
          obtain ⟨v5, ev5, h⟩ := lt_el h
          refine lv_iinc (v := v5) (lv' := [(5, .int v5), (6, .int u2), (1, .ref (q1 0)), (2, .int x2), (3, .int x3), (4, .int x4)]) hx hb dX2_firstEnd_53 hl (k := 5) rfl (by rw [ev5]; rfl) (by decide) rfl (fun ls hl => ?_)
          refine lv_goto (tgt := 6) hx hb dX2_firstEnd_56 (by decide) ?_
          exact ih x4 v5 _ _ _ h hP hD hS (lv_sub hl [2, 3, 4, 5, 0] rfl)
        · have h := it_f h c4
          refine lv_iload hx hb dX2_firstEnd_36 (lv_at hl 4 rfl) ?_
          refine lv_iconst (v := (-1)) hx hb dX2_firstEnd_38 (by decide) ?_
          refine lv_icmp_eq (tgt := 49) hx hb dX2_firstEnd_39 (by decide) (fun c6 => ?_) (fun c6 => ?_)
          · have h := it_t h c6
            refine lv_iload hx hb dX2_firstEnd_49 (lv_at hl 0 rfl) ?_
            refine lv_istore (lv' := [(4, .int u2), (6, .int u2), (1, .ref (q1 0)), (2, .int x2), (3, .int x3), (5, .int x5)]) hx hb dX2_firstEnd_51 hl (by decide) rfl (fun ls hl => ?_)
            obtain ⟨v7, ev7, h⟩ := lt_el h
            refine lv_iinc (v := v7) (lv' := [(5, .int v7), (4, .int u2), (6, .int u2), (1, .ref (q1 0)), (2, .int x2), (3, .int x3)]) hx hb dX2_firstEnd_53 hl (k := 5) rfl (by rw [ev7]; rfl) (by decide) rfl (fun ls hl => ?_)
            refine lv_goto (tgt := 6) hx hb dX2_firstEnd_56 (by decide) ?_
            exact ih u2 v7 _ _ _ h hP hD hS (lv_sub hl [3, 4, 5, 1, 0] rfl)
          · have h := it_f h c6
            refine lv_iload hx hb dX2_firstEnd_42 (lv_at hl 0 rfl) ?_
            refine lv_iload hx hb dX2_firstEnd_44 (lv_at hl 4 rfl) ?_
            refine lv_icmp_ge (tgt := 53) hx hb dX2_firstEnd_46 (by decide) (fun c8 => ?_) (fun c8 => ?_)
            · have h := it_t h c8
              obtain ⟨v9, ev9, h⟩ := lt_el h
              refine lv_iinc (v := v9) (lv' := [(5, .int v9), (6, .int u2), (1, .ref (q1 0)), (2, .int x2), (3, .int x3), (4, .int x4)]) hx hb dX2_firstEnd_53 hl (k := 5) rfl (by rw [ev9]; rfl) (by decide) rfl (fun ls hl => ?_)
              refine lv_goto (tgt := 6) hx hb dX2_firstEnd_56 (by decide) ?_
              exact ih x4 v9 _ _ _ h hP hD hS (lv_sub hl [2, 3, 4, 5, 0] rfl)
            · have h := it_f h c8
              refine lv_iload hx hb dX2_firstEnd_49 (lv_at hl 0 rfl) ?_
              refine lv_istore (lv' := [(4, .int u2), (6, .int u2), (1, .ref (q1 0)), (2, .int x2), (3, .int x3), (5, .int x5)]) hx hb dX2_firstEnd_51 hl (by decide) rfl (fun ls hl => ?_)
              obtain ⟨v10, ev10, h⟩ := lt_el h
              refine lv_iinc (v := v10) (lv' := [(5, .int v10), (4, .int u2), (6, .int u2), (1, .ref (q1 0)), (2, .int x2), (3, .int x3)]) hx hb dX2_firstEnd_53 hl (k := 5) rfl (by rw [ev10]; rfl) (by decide) rfl (fun ls hl => ?_)
              refine lv_goto (tgt := 6) hx hb dX2_firstEnd_56 (by decide) ?_
              exact ih u2 v10 _ _ _ h hP hD hS (lv_sub hl [3, 4, 5, 1, 0] rfl)
  obtain ⟨H, eH⟩ : ∃ z, z = s.heap := ⟨_, rfl⟩
  rw [← eH]
  have hP : va_P E.1 vwCl (cw_X2 E q0 S0 ++ (cw_X8 E q1 S1)) H := by rw [eH]; exact hP
  have hS : va_S A s.heap H [] := by rw [eH]; exact hS
  clear eH
  obtain ⟨locs, el⟩ : ∃ z : List Loc, z = [] := ⟨_, rfl⟩
  rw [← el] at hS ⊢
  clear el
  refine lv_iconst (v := (-1)) hx hb dX2_firstEnd_0 (by decide) ?_
  refine lv_istore (lv' := [(4, .int (-1)), (0, .ref (q0 0)), (1, .ref (q1 0)), (2, .int x2), (3, .int x3)]) hx hb dX2_firstEnd_1 hl (by decide) rfl (fun ls hl => ?_)
  refine lv_iconst (v := 0) hx hb dX2_firstEnd_3 (by decide) ?_
  refine lv_istore (lv' := [(5, .int 0), (4, .int (-1)), (0, .ref (q0 0)), (1, .ref (q1 0)), (2, .int x2), (3, .int x3)]) hx hb dX2_firstEnd_4 hl (by decide) rfl (fun ls hl => ?_)
  exact N6 fu (-1) 0 _ _ _ h hP hD hS (lv_sub hl [3, 4, 5, 1, 0] rfl)
theorem dX2_mostSalutes_0 : decode cX2_mostSalutes 0 = .ok (.iconst 0, 1) := by decide +kernel
theorem dX2_mostSalutes_1 : decode cX2_mostSalutes 1 = .ok (.istore_n 3, 1) := by decide +kernel
theorem dX2_mostSalutes_2 : decode cX2_mostSalutes 2 = .ok (.iload_n 3, 1) := by decide +kernel
theorem dX2_mostSalutes_3 : decode cX2_mostSalutes 3 = .ok (.iload_n 2, 1) := by decide +kernel
theorem dX2_mostSalutes_4 : decode cX2_mostSalutes 4 = .ok (.if_icmp .ge 31, 3) := by decide +kernel
theorem dX2_mostSalutes_7 : decode cX2_mostSalutes 7 = .ok (.aload_n 1, 1) := by decide +kernel
theorem dX2_mostSalutes_8 : decode cX2_mostSalutes 8 = .ok (.iconst 2, 1) := by decide +kernel
theorem dX2_mostSalutes_9 : decode cX2_mostSalutes 9 = .ok (.iload_n 3, 1) := by decide +kernel
theorem dX2_mostSalutes_10 : decode cX2_mostSalutes 10 = .ok (.imul, 1) := by decide +kernel
theorem dX2_mostSalutes_11 : decode cX2_mostSalutes 11 = .ok (.iconst 1, 1) := by decide +kernel
theorem dX2_mostSalutes_12 : decode cX2_mostSalutes 12 = .ok (.iadd, 1) := by decide +kernel
theorem dX2_mostSalutes_13 : decode cX2_mostSalutes 13 = .ok (.invokevirtual 37, 3) := by decide +kernel
theorem dX2_mostSalutes_16 : decode cX2_mostSalutes 16 = .ok (.aload_n 1, 1) := by decide +kernel
theorem dX2_mostSalutes_17 : decode cX2_mostSalutes 17 = .ok (.iconst 2, 1) := by decide +kernel
theorem dX2_mostSalutes_18 : decode cX2_mostSalutes 18 = .ok (.iload_n 3, 1) := by decide +kernel
theorem dX2_mostSalutes_19 : decode cX2_mostSalutes 19 = .ok (.imul, 1) := by decide +kernel
theorem dX2_mostSalutes_20 : decode cX2_mostSalutes 20 = .ok (.invokevirtual 37, 3) := by decide +kernel
theorem dX2_mostSalutes_23 : decode cX2_mostSalutes 23 = .ok (.if_icmp .ge 6, 3) := by decide +kernel
theorem dX2_mostSalutes_26 : decode cX2_mostSalutes 26 = .ok (.bipush (-3), 2) := by decide +kernel
theorem dX2_mostSalutes_28 : decode cX2_mostSalutes 28 = .ok (.ireturn, 1) := by decide +kernel
theorem dX2_mostSalutes_29 : decode cX2_mostSalutes 29 = .ok (.iinc 3 1, 3) := by decide +kernel
theorem dX2_mostSalutes_32 : decode cX2_mostSalutes 32 = .ok (.goto (-30), 3) := by decide +kernel
theorem dX2_mostSalutes_35 : decode cX2_mostSalutes 35 = .ok (.iconst 0, 1) := by decide +kernel
theorem dX2_mostSalutes_36 : decode cX2_mostSalutes 36 = .ok (.istore_n 3, 1) := by decide +kernel
theorem dX2_mostSalutes_37 : decode cX2_mostSalutes 37 = .ok (.iconst (-1), 1) := by decide +kernel
theorem dX2_mostSalutes_38 : decode cX2_mostSalutes 38 = .ok (.istore 4, 2) := by decide +kernel
theorem dX2_mostSalutes_40 : decode cX2_mostSalutes 40 = .ok (.iconst 0, 1) := by decide +kernel
theorem dX2_mostSalutes_41 : decode cX2_mostSalutes 41 = .ok (.istore 5, 2) := by decide +kernel
theorem dX2_mostSalutes_43 : decode cX2_mostSalutes 43 = .ok (.iload 5, 2) := by decide +kernel
theorem dX2_mostSalutes_45 : decode cX2_mostSalutes 45 = .ok (.iload_n 2, 1) := by decide +kernel
theorem dX2_mostSalutes_46 : decode cX2_mostSalutes 46 = .ok (.if_icmp .ge 34, 3) := by decide +kernel
theorem dX2_mostSalutes_49 : decode cX2_mostSalutes 49 = .ok (.aload_n 0, 1) := by decide +kernel
theorem dX2_mostSalutes_50 : decode cX2_mostSalutes 50 = .ok (.aload_n 1, 1) := by decide +kernel
theorem dX2_mostSalutes_51 : decode cX2_mostSalutes 51 = .ok (.iload_n 2, 1) := by decide +kernel
theorem dX2_mostSalutes_52 : decode cX2_mostSalutes 52 = .ok (.iload 4, 2) := by decide +kernel
theorem dX2_mostSalutes_54 : decode cX2_mostSalutes 54 = .ok (.invokevirtual 58, 3) := by decide +kernel
theorem dX2_mostSalutes_57 : decode cX2_mostSalutes 57 = .ok (.istore 6, 2) := by decide +kernel
theorem dX2_mostSalutes_59 : decode cX2_mostSalutes 59 = .ok (.iload 6, 2) := by decide +kernel
theorem dX2_mostSalutes_61 : decode cX2_mostSalutes 61 = .ok (.iconst (-1), 1) := by decide +kernel
theorem dX2_mostSalutes_62 : decode cX2_mostSalutes 62 = .ok (.if_icmp .ne 5, 3) := by decide +kernel
theorem dX2_mostSalutes_65 : decode cX2_mostSalutes 65 = .ok (.iload_n 3, 1) := by decide +kernel
theorem dX2_mostSalutes_66 : decode cX2_mostSalutes 66 = .ok (.ireturn, 1) := by decide +kernel
theorem dX2_mostSalutes_67 : decode cX2_mostSalutes 67 = .ok (.iinc 3 1, 3) := by decide +kernel
theorem dX2_mostSalutes_70 : decode cX2_mostSalutes 70 = .ok (.iload 6, 2) := by decide +kernel
theorem dX2_mostSalutes_72 : decode cX2_mostSalutes 72 = .ok (.istore 4, 2) := by decide +kernel
theorem dX2_mostSalutes_74 : decode cX2_mostSalutes 74 = .ok (.iinc 5 1, 3) := by decide +kernel
theorem dX2_mostSalutes_77 : decode cX2_mostSalutes 77 = .ok (.goto (-34), 3) := by decide +kernel
theorem dX2_mostSalutes_80 : decode cX2_mostSalutes 80 = .ok (.iload_n 3, 1) := by decide +kernel
theorem dX2_mostSalutes_81 : decode cX2_mostSalutes 81 = .ok (.ireturn, 1) := by decide +kernel
def f_X2_mostSalutes_n43 (S0 : Gr) (S1 : Gr) (x2 : Int32) : Nat → Int32 → Int32 → Int32 → Option (Int32)
  | 0, _, _, _ => none
  | n + 1, x3, x4, x5 => if x2 ≤ x5 then (some x3) else ((f_X2_firstEnd S0 S1 x2 x4).bind fun u7 => if u7 = (-1) then (some x3) else (lt' (x3 + 1) fun v9 => lt' (x5 + 1) fun v10 => f_X2_mostSalutes_n43 S0 S1 x2 n v9 u7 v10))
def f_X2_mostSalutes_n2 (S0 : Gr) (S1 : Gr) (x2 : Int32) : Nat → Int32 → Option (Int32)
  | 0, _ => none
  | n + 1, x3 => if x2 ≤ x3 then (f_X2_mostSalutes_n43 S0 S1 x2 fu 0 (-1) 0) else ((f_X8_at S1 ((2 * x3) + 1)).bind fun u2 => (f_X8_at S1 (2 * x3)).bind fun u3 => if u3 ≤ u2 then (lt' (x3 + 1) fun v5 => f_X2_mostSalutes_n2 S0 S1 x2 n v5) else (some (-3)))
def f_X2_mostSalutes (S0 : Gr) (S1 : Gr) (x2 : Int32) : Option (Int32) := f_X2_mostSalutes_n2 S0 S1 x2 fu 0
set_option maxHeartbeats 4000000 in
set_option maxRecDepth 100000 in
theorem c_X2_mostSalutes (l : Launch) (E : Ec) (q0 q1 : Nat → Nat) (sz : Nat) (S0 : Gr) (S1 : Gr) (x2 : Int32) (Rv : Int32) (h : f_X2_mostSalutes S0 S1 x2 = some Rv) : Met l yX2_mostSalutes (wsM (.code yX2_mostSalutes cX2_mostSalutes 7 (some .int))) ({ frames := 3, cells := 0, slots := 0, locals := 69 } : Room) (va_Pc [.ref (q0 0), .ref (q1 0), .int x2] (ctP E (cw_X2 E q0 S0 ++ (cw_X8 E q1 S1)) sz)) (ctI E (cw_X2 E q0 S0 ++ (cw_X8 E q1 S1)) (cw_X2 E q0 S0 ++ (cw_X8 E q1 S1)) sz Rv) 0 0 (va_A (cw_X2 E q0 S0 ++ (cw_X8 E q1 S1)) sz) := by
  refine ct_metI (by decide) (Nat.le_of_ble_eq_true rfl) ?_
  intro p e s m ar below meth c A QM hx hb hml hown hg X hP hD hS RET ls hl
  have hown : s.vm.findClass RX2 = some m.cls := hown
  have hl : lv_has ls 7 [(0, .ref (q0 0)), (1, .ref (q1 0)), (2, .int x2)] := hl
  have RT : ∀ (v : Int32) (H : Heap) (locs : List Loc) (ls : Array Slot) (pc : Nat), some v = some Rv → narrow .int (.int v) = .int v → va_P E.1 vwCl (cw_X2 E q0 S0 ++ (cw_X8 E q1 S1)) H → va_D A (cw_X2 E q0 S0 ++ (cw_X8 E q1 S1)) → va_S A s.heap H locs → decode cX2_mostSalutes pc = .ok (.ireturn, 1) → W p l e ({ frames := 3, cells := 0, slots := 0, locals := 69 } : Room) s m ar below meth c H locs 0 0 QM (F0 m pc ls [.int v]) := by
    intro v H locs ls pc e hn hP hD hS d
    obtain rfl := sm_e e
    exact RET H locs pc ls hn hP hD hS d
  clear RET
  have N43 : ∀ (n : Nat) (x3 : Int32) (x4 : Int32) (x5 : Int32) (H : Heap) (locs : List Loc) (ls : Array Slot), f_X2_mostSalutes_n43 S0 S1 x2 n x3 x4 x5 = some Rv → va_P E.1 vwCl (cw_X2 E q0 S0 ++ (cw_X8 E q1 S1)) H → va_D A (cw_X2 E q0 S0 ++ (cw_X8 E q1 S1)) → va_S A s.heap H locs → lv_has ls 7 [(0, .ref (q0 0)), (1, .ref (q1 0)), (2, .int x2), (3, .int x3), (4, .int x4), (5, .int x5)] → W p l e ({ frames := 3, cells := 0, slots := 0, locals := 69 } : Room) s m ar below meth c H locs 0 0 QM (F0 m 43 ls []) := by
    intro n
    induction n with
    | zero => intro x3 x4 x5 H locs ls h; exact nn_el h
    | succ n ih =>
      intro x3 x4 x5 H locs ls h hP hD hS hl
      refine lv_iload hx hb dX2_mostSalutes_43 (lv_at hl 5 rfl) ?_
      refine lv_iload_n hx hb dX2_mostSalutes_45 rfl (lv_at hl 2 rfl) ?_
      refine lv_icmp_ge (tgt := 80) hx hb dX2_mostSalutes_46 (by decide) (fun c6 => ?_) (fun c6 => ?_)
      · have h := it_t h c6
        refine lv_iload_n hx hb dX2_mostSalutes_80 rfl (lv_at hl 3 rfl) ?_
        exact RT x3 _ _ _ _ h rfl hP hD hS dX2_mostSalutes_81
      · have h := it_f h c6
        refine lv_aload_n hx hb dX2_mostSalutes_49 rfl (lv_at hl 0 rfl) ?_
        refine lv_aload_n hx hb dX2_mostSalutes_50 rfl (lv_at hl 1 rfl) ?_
        refine lv_iload_n hx hb dX2_mostSalutes_51 rfl (lv_at hl 2 rfl) ?_
        refine lv_iload hx hb dX2_mostSalutes_52 (lv_at hl 4 rfl) ?_
        obtain ⟨u7, hc, h⟩ := bd_el h
        refine ct_iA (w1 := cw_X2 E q0 S0 ++ (cw_X8 E q1 S1)) X hP hD hS (va_runV (C := RX2) (As := [.ref (q1 0), .int x2, .int x4]) (rest := []) ⟨hx, hb, hml, hown, hg⟩ (c_X2_firstEnd l E q0 q1 H.size S0 S1 x2 x4 u7 hc) (cwV 3 hg (gwV wm_X2_58 wi_X2_firstEnd wsl_X2_firstEnd wini_X2 wco_X2_firstEnd) rfl rfl rfl (by decide +kernel) ⟨Nat.le_of_ble_eq_true rfl, Nat.le_of_ble_eq_true rfl⟩) ⟨ct_blind, ct_rv X.1 hP 0 rfl rfl, ct_preA X hP hD hS _⟩ rfl rfl hl.1 rfl (lv_room (Nat.le_of_ble_eq_true rfl)) dX2_mostSalutes_54 ⟨Nat.zero_le _, Nat.zero_le _⟩) (fun H locs hP hD hS => ?_)
        refine lv_istore (lv' := [(6, .int u7), (0, .ref (q0 0)), (1, .ref (q1 0)), (2, .int x2), (3, .int x3), (4, .int x4), (5, .int x5)]) hx hb dX2_mostSalutes_57 hl (by decide) rfl (fun ls hl => ?_)
        refine lv_iload hx hb dX2_mostSalutes_59 (lv_at hl 0 rfl) ?_
        refine lv_iconst (v := (-1)) hx hb dX2_mostSalutes_61 (by decide) ?_
        refine lv_icmp_ne (tgt := 67) hx hb dX2_mostSalutes_62 (by decide) (fun c8 => ?_) (fun c8 => ?_)
        · have h := it_f h c8
          obtain ⟨v9, ev9, h⟩ := lt_el h
          refine lv_iinc (v := v9) (lv' := [(3, .int v9), (6, .int u7), (0, .ref (q0 0)), (1, .ref (q1 0)), (2, .int x2), (4, .int x4), (5, .int x5)]) hx hb dX2_mostSalutes_67 hl (k := 4) rfl (by rw [ev9]; rfl) (by decide) rfl (fun ls hl => ?_)
          refine lv_iload hx hb dX2_mostSalutes_70 (lv_at hl 1 rfl) ?_
          refine lv_istore (lv' := [(4, .int u7), (3, .int v9), (6, .int u7), (0, .ref (q0 0)), (1, .ref (q1 0)), (2, .int x2), (5, .int x5)]) hx hb dX2_mostSalutes_72 hl (by decide) rfl (fun ls hl => ?_)
          obtain ⟨v10, ev10, h⟩ := lt_el h
          refine lv_iinc (v := v10) (lv' := [(5, .int v10), (4, .int u7), (3, .int v9), (6, .int u7), (0, .ref (q0 0)), (1, .ref (q1 0)), (2, .int x2)]) hx hb dX2_mostSalutes_74 hl (k := 6) rfl (by rw [ev10]; rfl) (by decide) rfl (fun ls hl => ?_)
          refine lv_goto (tgt := 43) hx hb dX2_mostSalutes_77 (by decide) ?_
          exact ih v9 u7 v10 _ _ _ h hP hD hS (lv_sub hl [4, 5, 6, 2, 1, 0] rfl)
        · have h := it_t h c8
          refine lv_iload_n hx hb dX2_mostSalutes_65 rfl (lv_at hl 4 rfl) ?_
          exact RT x3 _ _ _ _ h rfl hP hD hS dX2_mostSalutes_66
  have N2 : ∀ (n : Nat) (x3 : Int32) (H : Heap) (locs : List Loc) (ls : Array Slot), f_X2_mostSalutes_n2 S0 S1 x2 n x3 = some Rv → va_P E.1 vwCl (cw_X2 E q0 S0 ++ (cw_X8 E q1 S1)) H → va_D A (cw_X2 E q0 S0 ++ (cw_X8 E q1 S1)) → va_S A s.heap H locs → lv_has ls 7 [(0, .ref (q0 0)), (1, .ref (q1 0)), (2, .int x2), (3, .int x3)] → W p l e ({ frames := 3, cells := 0, slots := 0, locals := 69 } : Room) s m ar below meth c H locs 0 0 QM (F0 m 2 ls []) := by
    intro n
    induction n with
    | zero => intro x3 H locs ls h; exact nn_el h
    | succ n ih =>
      intro x3 H locs ls h hP hD hS hl
      refine lv_iload_n hx hb dX2_mostSalutes_2 rfl (lv_at hl 3 rfl) ?_
      refine lv_iload_n hx hb dX2_mostSalutes_3 rfl (lv_at hl 2 rfl) ?_
      refine lv_icmp_ge (tgt := 35) hx hb dX2_mostSalutes_4 (by decide) (fun c1 => ?_) (fun c1 => ?_)
      · have h := it_t h c1
        refine lv_iconst (v := 0) hx hb dX2_mostSalutes_35 (by decide) ?_
        refine lv_istore_n (lv' := [(3, .int 0), (0, .ref (q0 0)), (1, .ref (q1 0)), (2, .int x2)]) hx hb dX2_mostSalutes_36 rfl hl (by decide) rfl (fun ls hl => ?_)
        refine lv_iconst (v := (-1)) hx hb dX2_mostSalutes_37 (by decide) ?_
        refine lv_istore (lv' := [(4, .int (-1)), (3, .int 0), (0, .ref (q0 0)), (1, .ref (q1 0)), (2, .int x2)]) hx hb dX2_mostSalutes_38 hl (by decide) rfl (fun ls hl => ?_)
        refine lv_iconst (v := 0) hx hb dX2_mostSalutes_40 (by decide) ?_
        refine lv_istore (lv' := [(5, .int 0), (4, .int (-1)), (3, .int 0), (0, .ref (q0 0)), (1, .ref (q1 0)), (2, .int x2)]) hx hb dX2_mostSalutes_41 hl (by decide) rfl (fun ls hl => ?_)
        exact N43 fu 0 (-1) 0 _ _ _ h hP hD hS (lv_sub hl [3, 4, 5, 2, 1, 0] rfl)
      · have h := it_f h c1
        refine lv_aload_n hx hb dX2_mostSalutes_7 rfl (lv_at hl 1 rfl) ?_
        refine lv_iconst (v := 2) hx hb dX2_mostSalutes_8 (by decide) ?_
        refine lv_iload_n hx hb dX2_mostSalutes_9 rfl (lv_at hl 3 rfl) ?_
        refine lv_imul hx hb dX2_mostSalutes_10 ?_
        refine lv_iconst (v := 1) hx hb dX2_mostSalutes_11 (by decide) ?_
        refine lv_iadd hx hb dX2_mostSalutes_12 ?_
        obtain ⟨u2, hc, h⟩ := bd_el h
        have hC : ([7, 8] : List Nat).map (fun i => (cw_X2 E q0 S0 ++ (cw_X8 E q1 S1))[i]?) = (cw_X8 E q1 S1).map some := rfl
        refine ct_iR X hP hD hS [7, 8] hC (va_runV (C := RX8) (As := [.int ((2 * x3) + 1)]) (rest := []) ⟨hx, hb, hml, hown, hg⟩ (c_X8_at l E q1 H.size S1 ((2 * x3) + 1) u2 hc) (cwV 1 hg (gwV wm_X2_37 wi_X8_at wsl_X8_at wini_X8 wco_X8_at) rfl rfl rfl (by decide +kernel) ⟨Nat.le_of_ble_eq_true rfl, Nat.le_of_ble_eq_true rfl⟩) ⟨ct_blind, ct_rv X.1 hP 7 rfl rfl, ct_pre X hP hD hS [7, 8] (by decide) hC _⟩ rfl rfl hl.1 rfl (lv_room (Nat.le_of_ble_eq_true rfl)) dX2_mostSalutes_13 ⟨Nat.zero_le _, Nat.zero_le _⟩) (fun H locs hP hD hS => ?_)
        clear hC
        refine lv_aload_n hx hb dX2_mostSalutes_16 rfl (lv_at hl 1 rfl) ?_
        refine lv_iconst (v := 2) hx hb dX2_mostSalutes_17 (by decide) ?_
        refine lv_iload_n hx hb dX2_mostSalutes_18 rfl (lv_at hl 3 rfl) ?_
        refine lv_imul hx hb dX2_mostSalutes_19 ?_
        obtain ⟨u3, hc, h⟩ := bd_el h
        have hC : ([7, 8] : List Nat).map (fun i => (cw_X2 E q0 S0 ++ (cw_X8 E q1 S1))[i]?) = (cw_X8 E q1 S1).map some := rfl
        refine ct_iR X hP hD hS [7, 8] hC (va_runV (C := RX8) (As := [.int (2 * x3)]) (rest := [.int u2]) ⟨hx, hb, hml, hown, hg⟩ (c_X8_at l E q1 H.size S1 (2 * x3) u3 hc) (cwV 1 hg (gwV wm_X2_37 wi_X8_at wsl_X8_at wini_X8 wco_X8_at) rfl rfl rfl (by decide +kernel) ⟨Nat.le_of_ble_eq_true rfl, Nat.le_of_ble_eq_true rfl⟩) ⟨ct_blind, ct_rv X.1 hP 7 rfl rfl, ct_pre X hP hD hS [7, 8] (by decide) hC _⟩ rfl rfl hl.1 rfl (lv_room (Nat.le_of_ble_eq_true rfl)) dX2_mostSalutes_20 ⟨Nat.zero_le _, Nat.zero_le _⟩) (fun H locs hP hD hS => ?_)
        clear hC
        refine lv_icmp_ge (tgt := 29) hx hb dX2_mostSalutes_23 (by decide) (fun c4 => ?_) (fun c4 => ?_)
        · have h := it_t h c4
          obtain ⟨v5, ev5, h⟩ := lt_el h
          refine lv_iinc (v := v5) (lv' := [(3, .int v5), (0, .ref (q0 0)), (1, .ref (q1 0)), (2, .int x2)]) hx hb dX2_mostSalutes_29 hl (k := 3) rfl (by rw [ev5]; rfl) (by decide) rfl (fun ls hl => ?_)
          refine lv_goto (tgt := 2) hx hb dX2_mostSalutes_32 (by decide) ?_
          exact ih v5 _ _ _ h hP hD hS (lv_sub hl [1, 2, 3, 0] rfl)
        · have h := it_f h c4
          refine lv_bipush (v := (-3)) hx hb dX2_mostSalutes_26 (by decide) ?_
          exact RT (-3) _ _ _ _ h rfl hP hD hS dX2_mostSalutes_28
  obtain ⟨H, eH⟩ : ∃ z, z = s.heap := ⟨_, rfl⟩
  rw [← eH]
  have hP : va_P E.1 vwCl (cw_X2 E q0 S0 ++ (cw_X8 E q1 S1)) H := by rw [eH]; exact hP
  have hS : va_S A s.heap H [] := by rw [eH]; exact hS
  clear eH
  obtain ⟨locs, el⟩ : ∃ z : List Loc, z = [] := ⟨_, rfl⟩
  rw [← el] at hS ⊢
  clear el
  refine lv_iconst (v := 0) hx hb dX2_mostSalutes_0 (by decide) ?_
  refine lv_istore_n (lv' := [(3, .int 0), (0, .ref (q0 0)), (1, .ref (q1 0)), (2, .int x2)]) hx hb dX2_mostSalutes_1 rfl hl (by decide) rfl (fun ls hl => ?_)
  exact N2 fu 0 _ _ _ h hP hD hS (lv_sub hl [1, 2, 3, 0] rfl)
theorem dX2_middle_0 : decode cX2_middle 0 = .ok (.iload_n 0, 1) := by decide +kernel
theorem dX2_middle_1 : decode cX2_middle 1 = .ok (.iload_n 1, 1) := by decide +kernel
theorem dX2_middle_2 : decode cX2_middle 2 = .ok (.invokestatic 31, 3) := by decide +kernel
theorem dX2_middle_5 : decode cX2_middle 5 = .ok (.iload_n 0, 1) := by decide +kernel
theorem dX2_middle_6 : decode cX2_middle 6 = .ok (.iload_n 1, 1) := by decide +kernel
theorem dX2_middle_7 : decode cX2_middle 7 = .ok (.invokestatic 43, 3) := by decide +kernel
theorem dX2_middle_10 : decode cX2_middle 10 = .ok (.iload_n 2, 1) := by decide +kernel
theorem dX2_middle_11 : decode cX2_middle 11 = .ok (.invokestatic 31, 3) := by decide +kernel
theorem dX2_middle_14 : decode cX2_middle 14 = .ok (.invokestatic 43, 3) := by decide +kernel
theorem dX2_middle_17 : decode cX2_middle 17 = .ok (.ireturn, 1) := by decide +kernel
def f_X2_middle (x0 : Int32) (x1 : Int32) (x2 : Int32) : Option (Int32) := lt' (mn' x0 x1) fun v1 => lt' (mx' x0 x1) fun v2 => lt' (mn' v2 x2) fun v3 => lt' (mx' v1 v3) fun v4 => some v4
set_option maxHeartbeats 4000000 in
set_option maxRecDepth 100000 in
theorem c_X2_middle (l : Launch) (E : Ec) (sz : Nat) (x0 : Int32) (x1 : Int32) (x2 : Int32) (Rv : Int32) (h : f_X2_middle x0 x1 x2 = some Rv) : Met l yX2_middle (wsM (.code yX2_middle cX2_middle 3 (some .int))) ({ frames := 1, cells := 0, slots := 0, locals := 30 } : Room) (va_Pc [.int x0, .int x1, .int x2] (ctP E ([]) sz)) (ctI E ([]) ([]) sz Rv) 0 0 (va_A ([]) sz) := by
  refine ct_metI (by decide) (Nat.le_of_ble_eq_true rfl) ?_
  intro p e s m ar below meth c A QM hx hb hml hown hg X hP hD hS RET ls hl
  have hown : s.vm.findClass RX2 = some m.cls := hown
  have hl : lv_has ls 3 [(0, .int x0), (1, .int x1), (2, .int x2)] := hl
  have RT : ∀ (v : Int32) (H : Heap) (locs : List Loc) (ls : Array Slot) (pc : Nat), some v = some Rv → narrow .int (.int v) = .int v → va_P E.1 vwCl ([]) H → va_D A ([]) → va_S A s.heap H locs → decode cX2_middle pc = .ok (.ireturn, 1) → W p l e ({ frames := 1, cells := 0, slots := 0, locals := 30 } : Room) s m ar below meth c H locs 0 0 QM (F0 m pc ls [.int v]) := by
    intro v H locs ls pc e hn hP hD hS d
    obtain rfl := sm_e e
    exact RET H locs pc ls hn hP hD hS d
  clear RET
  obtain ⟨H, eH⟩ : ∃ z, z = s.heap := ⟨_, rfl⟩
  rw [← eH]
  have hP : va_P E.1 vwCl ([]) H := by rw [eH]; exact hP
  have hS : va_S A s.heap H [] := by rw [eH]; exact hS
  clear eH
  obtain ⟨locs, el⟩ : ∃ z : List Loc, z = [] := ⟨_, rfl⟩
  rw [← el] at hS ⊢
  clear el
  refine lv_iload_n hx hb dX2_middle_0 rfl (lv_at hl 0 rfl) ?_
  refine lv_iload_n hx hb dX2_middle_1 rfl (lv_at hl 1 rfl) ?_
  obtain ⟨v1, ev1, h⟩ := lt_el h
  refine va_mmin hx hb (hml.trans hl.1.symm) hown (hg _ wm_X2_31) (hg _ wst_Mmin) (hg _ wini_J9) (hg _ wco_Mmin) (Nat.le_of_ble_eq_true rfl) (Nat.le_of_ble_eq_true rfl) (Nat.zero_le _) (Nat.zero_le _) dX2_middle_2 ?_
  refine lv_top' ev1 ?_
  refine lv_iload_n hx hb dX2_middle_5 rfl (lv_at hl 0 rfl) ?_
  refine lv_iload_n hx hb dX2_middle_6 rfl (lv_at hl 1 rfl) ?_
  obtain ⟨v2, ev2, h⟩ := lt_el h
  refine va_mmax hx hb (hml.trans hl.1.symm) hown (hg _ wm_X2_43) (hg _ wst_Mmax) (hg _ wini_J9) (hg _ wco_Mmax) (Nat.le_of_ble_eq_true rfl) (Nat.le_of_ble_eq_true rfl) (Nat.zero_le _) (Nat.zero_le _) dX2_middle_7 ?_
  refine lv_top' ev2 ?_
  refine lv_iload_n hx hb dX2_middle_10 rfl (lv_at hl 2 rfl) ?_
  obtain ⟨v3, ev3, h⟩ := lt_el h
  refine va_mmin hx hb (hml.trans hl.1.symm) hown (hg _ wm_X2_31) (hg _ wst_Mmin) (hg _ wini_J9) (hg _ wco_Mmin) (Nat.le_of_ble_eq_true rfl) (Nat.le_of_ble_eq_true rfl) (Nat.zero_le _) (Nat.zero_le _) dX2_middle_11 ?_
  refine lv_top' ev3 ?_
  obtain ⟨v4, ev4, h⟩ := lt_el h
  refine va_mmax hx hb (hml.trans hl.1.symm) hown (hg _ wm_X2_43) (hg _ wst_Mmax) (hg _ wini_J9) (hg _ wco_Mmax) (Nat.le_of_ble_eq_true rfl) (Nat.le_of_ble_eq_true rfl) (Nat.zero_le _) (Nat.zero_le _) dX2_middle_14 ?_
  refine lv_top' ev4 ?_
  exact RT v4 _ _ _ _ h rfl hP hD hS dX2_middle_17
theorem dX2_smoothOnce_0 : decode cX2_smoothOnce 0 = .ok (.iconst 0, 1) := by decide +kernel
theorem dX2_smoothOnce_1 : decode cX2_smoothOnce 1 = .ok (.istore_n 2, 1) := by decide +kernel
theorem dX2_smoothOnce_2 : decode cX2_smoothOnce 2 = .ok (.iconst 1, 1) := by decide +kernel
theorem dX2_smoothOnce_3 : decode cX2_smoothOnce 3 = .ok (.istore_n 3, 1) := by decide +kernel
theorem dX2_smoothOnce_4 : decode cX2_smoothOnce 4 = .ok (.iload_n 3, 1) := by decide +kernel
theorem dX2_smoothOnce_5 : decode cX2_smoothOnce 5 = .ok (.iload_n 1, 1) := by decide +kernel
theorem dX2_smoothOnce_6 : decode cX2_smoothOnce 6 = .ok (.iconst 1, 1) := by decide +kernel
theorem dX2_smoothOnce_7 : decode cX2_smoothOnce 7 = .ok (.isub, 1) := by decide +kernel
theorem dX2_smoothOnce_8 : decode cX2_smoothOnce 8 = .ok (.if_icmp .ge 65, 3) := by decide +kernel
theorem dX2_smoothOnce_11 : decode cX2_smoothOnce 11 = .ok (.aload_n 0, 1) := by decide +kernel
theorem dX2_smoothOnce_12 : decode cX2_smoothOnce 12 = .ok (.getfield 18, 3) := by decide +kernel
theorem dX2_smoothOnce_15 : decode cX2_smoothOnce 15 = .ok (.iload_n 3, 1) := by decide +kernel
theorem dX2_smoothOnce_16 : decode cX2_smoothOnce 16 = .ok (.aload_n 0, 1) := by decide +kernel
theorem dX2_smoothOnce_17 : decode cX2_smoothOnce 17 = .ok (.getfield 15, 3) := by decide +kernel
theorem dX2_smoothOnce_20 : decode cX2_smoothOnce 20 = .ok (.iload_n 3, 1) := by decide +kernel
theorem dX2_smoothOnce_21 : decode cX2_smoothOnce 21 = .ok (.iconst 1, 1) := by decide +kernel
theorem dX2_smoothOnce_22 : decode cX2_smoothOnce 22 = .ok (.isub, 1) := by decide +kernel
theorem dX2_smoothOnce_23 : decode cX2_smoothOnce 23 = .ok (.iaload, 1) := by decide +kernel
theorem dX2_smoothOnce_24 : decode cX2_smoothOnce 24 = .ok (.aload_n 0, 1) := by decide +kernel
theorem dX2_smoothOnce_25 : decode cX2_smoothOnce 25 = .ok (.getfield 15, 3) := by decide +kernel
theorem dX2_smoothOnce_28 : decode cX2_smoothOnce 28 = .ok (.iload_n 3, 1) := by decide +kernel
theorem dX2_smoothOnce_29 : decode cX2_smoothOnce 29 = .ok (.iaload, 1) := by decide +kernel
theorem dX2_smoothOnce_30 : decode cX2_smoothOnce 30 = .ok (.aload_n 0, 1) := by decide +kernel
theorem dX2_smoothOnce_31 : decode cX2_smoothOnce 31 = .ok (.getfield 15, 3) := by decide +kernel
theorem dX2_smoothOnce_34 : decode cX2_smoothOnce 34 = .ok (.iload_n 3, 1) := by decide +kernel
theorem dX2_smoothOnce_35 : decode cX2_smoothOnce 35 = .ok (.iconst 1, 1) := by decide +kernel
theorem dX2_smoothOnce_36 : decode cX2_smoothOnce 36 = .ok (.iadd, 1) := by decide +kernel
theorem dX2_smoothOnce_37 : decode cX2_smoothOnce 37 = .ok (.iaload, 1) := by decide +kernel
theorem dX2_smoothOnce_38 : decode cX2_smoothOnce 38 = .ok (.invokestatic 53, 3) := by decide +kernel
theorem dX2_smoothOnce_41 : decode cX2_smoothOnce 41 = .ok (.iastore, 1) := by decide +kernel
theorem dX2_smoothOnce_42 : decode cX2_smoothOnce 42 = .ok (.iload_n 2, 1) := by decide +kernel
theorem dX2_smoothOnce_43 : decode cX2_smoothOnce 43 = .ok (.ifCond .ne 18, 3) := by decide +kernel
theorem dX2_smoothOnce_46 : decode cX2_smoothOnce 46 = .ok (.aload_n 0, 1) := by decide +kernel
theorem dX2_smoothOnce_47 : decode cX2_smoothOnce 47 = .ok (.getfield 18, 3) := by decide +kernel
theorem dX2_smoothOnce_50 : decode cX2_smoothOnce 50 = .ok (.iload_n 3, 1) := by decide +kernel
theorem dX2_smoothOnce_51 : decode cX2_smoothOnce 51 = .ok (.iaload, 1) := by decide +kernel
theorem dX2_smoothOnce_52 : decode cX2_smoothOnce 52 = .ok (.aload_n 0, 1) := by decide +kernel
theorem dX2_smoothOnce_53 : decode cX2_smoothOnce 53 = .ok (.getfield 15, 3) := by decide +kernel
theorem dX2_smoothOnce_56 : decode cX2_smoothOnce 56 = .ok (.iload_n 3, 1) := by decide +kernel
theorem dX2_smoothOnce_57 : decode cX2_smoothOnce 57 = .ok (.iaload, 1) := by decide +kernel
theorem dX2_smoothOnce_58 : decode cX2_smoothOnce 58 = .ok (.if_icmp .eq 7, 3) := by decide +kernel
theorem dX2_smoothOnce_61 : decode cX2_smoothOnce 61 = .ok (.iconst 1, 1) := by decide +kernel
theorem dX2_smoothOnce_62 : decode cX2_smoothOnce 62 = .ok (.goto 4, 3) := by decide +kernel
theorem dX2_smoothOnce_65 : decode cX2_smoothOnce 65 = .ok (.iconst 0, 1) := by decide +kernel
theorem dX2_smoothOnce_66 : decode cX2_smoothOnce 66 = .ok (.istore_n 2, 1) := by decide +kernel
theorem dX2_smoothOnce_67 : decode cX2_smoothOnce 67 = .ok (.iinc 3 1, 3) := by decide +kernel
theorem dX2_smoothOnce_70 : decode cX2_smoothOnce 70 = .ok (.goto (-66), 3) := by decide +kernel
theorem dX2_smoothOnce_73 : decode cX2_smoothOnce 73 = .ok (.iconst 1, 1) := by decide +kernel
theorem dX2_smoothOnce_74 : decode cX2_smoothOnce 74 = .ok (.istore_n 3, 1) := by decide +kernel
theorem dX2_smoothOnce_75 : decode cX2_smoothOnce 75 = .ok (.iload_n 3, 1) := by decide +kernel
theorem dX2_smoothOnce_76 : decode cX2_smoothOnce 76 = .ok (.iload_n 1, 1) := by decide +kernel
theorem dX2_smoothOnce_77 : decode cX2_smoothOnce 77 = .ok (.iconst 1, 1) := by decide +kernel
theorem dX2_smoothOnce_78 : decode cX2_smoothOnce 78 = .ok (.isub, 1) := by decide +kernel
theorem dX2_smoothOnce_79 : decode cX2_smoothOnce 79 = .ok (.if_icmp .ge 21, 3) := by decide +kernel
theorem dX2_smoothOnce_82 : decode cX2_smoothOnce 82 = .ok (.aload_n 0, 1) := by decide +kernel
theorem dX2_smoothOnce_83 : decode cX2_smoothOnce 83 = .ok (.getfield 15, 3) := by decide +kernel
theorem dX2_smoothOnce_86 : decode cX2_smoothOnce 86 = .ok (.iload_n 3, 1) := by decide +kernel
theorem dX2_smoothOnce_87 : decode cX2_smoothOnce 87 = .ok (.aload_n 0, 1) := by decide +kernel
theorem dX2_smoothOnce_88 : decode cX2_smoothOnce 88 = .ok (.getfield 18, 3) := by decide +kernel
theorem dX2_smoothOnce_91 : decode cX2_smoothOnce 91 = .ok (.iload_n 3, 1) := by decide +kernel
theorem dX2_smoothOnce_92 : decode cX2_smoothOnce 92 = .ok (.iaload, 1) := by decide +kernel
theorem dX2_smoothOnce_93 : decode cX2_smoothOnce 93 = .ok (.iastore, 1) := by decide +kernel
theorem dX2_smoothOnce_94 : decode cX2_smoothOnce 94 = .ok (.iinc 3 1, 3) := by decide +kernel
theorem dX2_smoothOnce_97 : decode cX2_smoothOnce 97 = .ok (.goto (-22), 3) := by decide +kernel
theorem dX2_smoothOnce_100 : decode cX2_smoothOnce 100 = .ok (.iload_n 2, 1) := by decide +kernel
theorem dX2_smoothOnce_101 : decode cX2_smoothOnce 101 = .ok (.ireturn, 1) := by decide +kernel
def f_X2_smoothOnce_n75 (x1 : Int32) : Nat → Gr → Int32 → Int32 → Option (Int32 × Gr)
  | 0, _, _, _ => none
  | n + 1, S0, x2, x3 => if (x1 - 1) ≤ x3 then (zb' x2 (some (x2, S0))) else (rd' (S0.2 2) 30 x3 fun v15 => ck' 30 x3 (lt' (sA S0 1 (Int32.toNatClampNeg x3) v15) fun S0_16 => lt' (x3 + 1) fun v17 => f_X2_smoothOnce_n75 x1 n S0_16 x2 v17))
def f_X2_smoothOnce_n4 (x1 : Int32) : Nat → Gr → Int32 → Int32 → Option (Int32 × Gr)
  | 0, _, _, _ => none
  | n + 1, S0, x2, x3 => if (x1 - 1) ≤ x3 then (f_X2_smoothOnce_n75 x1 fu S0 x2 1) else (rd' (S0.2 1) 30 (x3 - 1) fun v2 => rd' (S0.2 1) 30 x3 fun v3 => rd' (S0.2 1) 30 (x3 + 1) fun v4 => (f_X2_middle v2 v3 v4).bind fun u5 => ck' 30 x3 (lt' (sA S0 2 (Int32.toNatClampNeg x3) u5) fun S0_6 => if x2 = 0 then (rd' (S0_6.2 2) 30 x3 fun v9 => rd' (S0_6.2 1) 30 x3 fun v10 => if v9 = v10 then (lt' (x3 + 1) fun v12 => f_X2_smoothOnce_n4 x1 n S0_6 0 v12) else (lt' (x3 + 1) fun v13 => f_X2_smoothOnce_n4 x1 n S0_6 1 v13)) else (lt' (x3 + 1) fun v8 => f_X2_smoothOnce_n4 x1 n S0_6 1 v8)))
def f_X2_smoothOnce (S0 : Gr) (x1 : Int32) : Option (Int32 × Gr) := f_X2_smoothOnce_n4 x1 fu S0 0 1
set_option maxHeartbeats 4000000 in
set_option maxRecDepth 100000 in
theorem c_X2_smoothOnce (l : Launch) (E : Ec) (q0 : Nat → Nat) (sz : Nat) (S0 : Gr) (x1 : Int32) (Rv : Int32 × Gr) (h : f_X2_smoothOnce S0 x1 = some Rv) : Met l yX2_smoothOnce (wsM (.code yX2_smoothOnce cX2_smoothOnce 4 (some .boolean))) ({ frames := 2, cells := 0, slots := 0, locals := 52 } : Room) (va_Pc [.ref (q0 0), .int x1] (ctP E (cw_X2 E q0 S0) sz)) (ctI E (cw_X2 E q0 S0) (cw_X2 E q0 Rv.2) sz Rv.1) 0 0 (va_A (cw_X2 E q0 S0) sz) := by
  refine ct_metI (by decide) (Nat.le_of_ble_eq_true rfl) ?_
  intro p e s m ar below meth c A QM hx hb hml hown hg X hP hD hS RET ls hl
  have hown : s.vm.findClass RX2 = some m.cls := hown
  have hl : lv_has ls 4 [(0, .ref (q0 0)), (1, .int x1)] := hl
  have RT : ∀ (v : Int32) (S0 : Gr) (H : Heap) (locs : List Loc) (ls : Array Slot) (pc : Nat), some (v, S0) = some Rv → narrow .boolean (.int v) = .int v → va_P E.1 vwCl (cw_X2 E q0 S0) H → va_D A (cw_X2 E q0 S0) → va_S A s.heap H locs → decode cX2_smoothOnce pc = .ok (.ireturn, 1) → W p l e ({ frames := 2, cells := 0, slots := 0, locals := 52 } : Room) s m ar below meth c H locs 0 0 QM (F0 m pc ls [.int v]) := by
    intro v S0 H locs ls pc e hn hP hD hS d
    obtain rfl := sm_e e
    exact RET H locs pc ls hn hP hD hS d
  clear RET
  have N75 : ∀ (n : Nat) (S0 : Gr) (x2 : Int32) (x3 : Int32) (H : Heap) (locs : List Loc) (ls : Array Slot), f_X2_smoothOnce_n75 x1 n S0 x2 x3 = some Rv → va_P E.1 vwCl (cw_X2 E q0 S0) H → va_D A (cw_X2 E q0 S0) → va_S A s.heap H locs → lv_has ls 4 [(0, .ref (q0 0)), (1, .int x1), (2, .int x2), (3, .int x3)] → W p l e ({ frames := 2, cells := 0, slots := 0, locals := 52 } : Room) s m ar below meth c H locs 0 0 QM (F0 m 75 ls []) := by
    intro n
    induction n with
    | zero => intro S0 x2 x3 H locs ls h; exact nn_el h
    | succ n ih =>
      intro S0 x2 x3 H locs ls h hP hD hS hl
      refine lv_iload_n hx hb dX2_smoothOnce_75 rfl (lv_at hl 3 rfl) ?_
      refine lv_iload_n hx hb dX2_smoothOnce_76 rfl (lv_at hl 1 rfl) ?_
      refine lv_iconst (v := 1) hx hb dX2_smoothOnce_77 (by decide) ?_
      refine lv_isub hx hb dX2_smoothOnce_78 ?_
      refine lv_icmp_ge (tgt := 100) hx hb dX2_smoothOnce_79 (by decide) (fun c14 => ?_) (fun c14 => ?_)
      · have h := it_t h c14
        refine lv_iload_n hx hb dX2_smoothOnce_100 rfl (lv_at hl 2 rfl) ?_
        obtain ⟨hn1, -, h⟩ := zb_el h
        exact RT x2 S0 _ _ _ _ h hn1 hP hD hS dX2_smoothOnce_101
      · have h := it_f h c14
        refine lv_aload_n hx hb dX2_smoothOnce_82 rfl (lv_at hl 0 rfl) ?_
        refine va_get (D := E.1) (ci := 1) (v := .ref (q0 2)) (C := RX2) (T := TX2) (N := 6) hx hb hg in_X2 hown X.1 hP 0 rfl rfl 1 (by decide) (hg _ wf_X2_15) (fun _ h9 => h9) rfl dX2_smoothOnce_83 ?_
        refine lv_iload_n hx hb dX2_smoothOnce_86 rfl (lv_at hl 3 rfl) ?_
        refine lv_aload_n hx hb dX2_smoothOnce_87 rfl (lv_at hl 0 rfl) ?_
        refine va_get (D := E.1) (ci := 1) (v := .ref (q0 3)) (C := RX2) (T := TX2) (N := 6) hx hb hg in_X2 hown X.1 hP 0 rfl rfl 2 (by decide) (hg _ wf_X2_18) (fun _ h9 => h9) rfl dX2_smoothOnce_88 ?_
        refine lv_iload_n hx hb dX2_smoothOnce_91 rfl (lv_at hl 3 rfl) ?_
        obtain ⟨hi, v15, ev15, h⟩ := rd_el h
        refine va_iald hx hb X.1 hP 3 0 rfl rfl hi dX2_smoothOnce_92 ?_
        refine lv_top' ev15 ?_
        obtain ⟨hi, h⟩ := ck_el h
        obtain ⟨S0_16, eS, h⟩ := lt_el h
        refine va_iast hx hb X.1 hP hD hS 2 0 rfl rfl hi dX2_smoothOnce_93 (fun H locs hP hD hS => ?_)
        have hP : va_P E.1 vwCl (cw_X2 E q0 S0_16) H := by rw [eS]; exact hP
        have hD : va_D A (cw_X2 E q0 S0_16) := by rw [eS]; exact hD
        clear eS
        obtain ⟨v17, ev17, h⟩ := lt_el h
        refine lv_iinc (v := v17) (lv' := [(3, .int v17), (0, .ref (q0 0)), (1, .int x1), (2, .int x2)]) hx hb dX2_smoothOnce_94 hl (k := 3) rfl (by rw [ev17]; rfl) (by decide) rfl (fun ls hl => ?_)
        refine lv_goto (tgt := 75) hx hb dX2_smoothOnce_97 (by decide) ?_
        exact ih S0_16 x2 v17 _ _ _ h hP hD hS (lv_sub hl [1, 2, 3, 0] rfl)
  have N4 : ∀ (n : Nat) (S0 : Gr) (x2 : Int32) (x3 : Int32) (H : Heap) (locs : List Loc) (ls : Array Slot), f_X2_smoothOnce_n4 x1 n S0 x2 x3 = some Rv → va_P E.1 vwCl (cw_X2 E q0 S0) H → va_D A (cw_X2 E q0 S0) → va_S A s.heap H locs → lv_has ls 4 [(0, .ref (q0 0)), (1, .int x1), (2, .int x2), (3, .int x3)] → W p l e ({ frames := 2, cells := 0, slots := 0, locals := 52 } : Room) s m ar below meth c H locs 0 0 QM (F0 m 4 ls []) := by
    intro n
    induction n with
    | zero => intro S0 x2 x3 H locs ls h; exact nn_el h
    | succ n ih =>
      intro S0 x2 x3 H locs ls h hP hD hS hl
      refine lv_iload_n hx hb dX2_smoothOnce_4 rfl (lv_at hl 3 rfl) ?_
      refine lv_iload_n hx hb dX2_smoothOnce_5 rfl (lv_at hl 1 rfl) ?_
      refine lv_iconst (v := 1) hx hb dX2_smoothOnce_6 (by decide) ?_
      refine lv_isub hx hb dX2_smoothOnce_7 ?_
      refine lv_icmp_ge (tgt := 73) hx hb dX2_smoothOnce_8 (by decide) (fun c1 => ?_) (fun c1 => ?_)
      · have h := it_t h c1
        refine lv_iconst (v := 1) hx hb dX2_smoothOnce_73 (by decide) ?_
        refine lv_istore_n (lv' := [(3, .int 1), (0, .ref (q0 0)), (1, .int x1), (2, .int x2)]) hx hb dX2_smoothOnce_74 rfl hl (by decide) rfl (fun ls hl => ?_)
        exact N75 fu S0 x2 1 _ _ _ h hP hD hS (lv_sub hl [1, 2, 3, 0] rfl)
      · have h := it_f h c1
        refine lv_aload_n hx hb dX2_smoothOnce_11 rfl (lv_at hl 0 rfl) ?_
        refine va_get (D := E.1) (ci := 1) (v := .ref (q0 3)) (C := RX2) (T := TX2) (N := 6) hx hb hg in_X2 hown X.1 hP 0 rfl rfl 2 (by decide) (hg _ wf_X2_18) (fun _ h9 => h9) rfl dX2_smoothOnce_12 ?_
        refine lv_iload_n hx hb dX2_smoothOnce_15 rfl (lv_at hl 3 rfl) ?_
        refine lv_aload_n hx hb dX2_smoothOnce_16 rfl (lv_at hl 0 rfl) ?_
        refine va_get (D := E.1) (ci := 1) (v := .ref (q0 2)) (C := RX2) (T := TX2) (N := 6) hx hb hg in_X2 hown X.1 hP 0 rfl rfl 1 (by decide) (hg _ wf_X2_15) (fun _ h9 => h9) rfl dX2_smoothOnce_17 ?_
        refine lv_iload_n hx hb dX2_smoothOnce_20 rfl (lv_at hl 3 rfl) ?_
        refine lv_iconst (v := 1) hx hb dX2_smoothOnce_21 (by decide) ?_
        refine lv_isub hx hb dX2_smoothOnce_22 ?_
        obtain ⟨hi, v2, ev2, h⟩ := rd_el h
        refine va_iald hx hb X.1 hP 2 0 rfl rfl hi dX2_smoothOnce_23 ?_
        refine lv_top' ev2 ?_
        refine lv_aload_n hx hb dX2_smoothOnce_24 rfl (lv_at hl 0 rfl) ?_
        refine va_get (D := E.1) (ci := 1) (v := .ref (q0 2)) (C := RX2) (T := TX2) (N := 6) hx hb hg in_X2 hown X.1 hP 0 rfl rfl 1 (by decide) (hg _ wf_X2_15) (fun _ h9 => h9) rfl dX2_smoothOnce_25 ?_
        refine lv_iload_n hx hb dX2_smoothOnce_28 rfl (lv_at hl 3 rfl) ?_
        obtain ⟨hi, v3, ev3, h⟩ := rd_el h
        refine va_iald hx hb X.1 hP 2 0 rfl rfl hi dX2_smoothOnce_29 ?_
        refine lv_top' ev3 ?_
        refine lv_aload_n hx hb dX2_smoothOnce_30 rfl (lv_at hl 0 rfl) ?_
        refine va_get (D := E.1) (ci := 1) (v := .ref (q0 2)) (C := RX2) (T := TX2) (N := 6) hx hb hg in_X2 hown X.1 hP 0 rfl rfl 1 (by decide) (hg _ wf_X2_15) (fun _ h9 => h9) rfl dX2_smoothOnce_31 ?_
        refine lv_iload_n hx hb dX2_smoothOnce_34 rfl (lv_at hl 3 rfl) ?_
        refine lv_iconst (v := 1) hx hb dX2_smoothOnce_35 (by decide) ?_
        refine lv_iadd hx hb dX2_smoothOnce_36 ?_
        obtain ⟨hi, v4, ev4, h⟩ := rd_el h
        refine va_iald hx hb X.1 hP 2 0 rfl rfl hi dX2_smoothOnce_37 ?_
        refine lv_top' ev4 ?_
        obtain ⟨u5, hc, h⟩ := bd_el h
        refine ct_iN X hP hD hS (va_runS (As := [.int v2, .int v3, .int v4]) (rest := [.int x3, .ref (q0 3)]) ⟨hx, hb, hml, hown, hg⟩ (c_X2_middle l E  H.size v2 v3 v4 u5 hc) (va_cwS 3 hg (gwS wm_X2_53 wst_X2_middle wini_X2 wco_X2_middle) rfl rfl rfl (by decide +kernel) ⟨Nat.le_of_ble_eq_true rfl, Nat.le_of_ble_eq_true rfl⟩) ⟨ct_blind, ct_preN X hS _⟩ rfl rfl hl.1 rfl (lv_room (Nat.le_of_ble_eq_true rfl)) dX2_smoothOnce_38 ⟨Nat.zero_le _, Nat.zero_le _⟩) (fun H locs hP hD hS => ?_)
        obtain ⟨hi, h⟩ := ck_el h
        obtain ⟨S0_6, eS, h⟩ := lt_el h
        refine va_iast hx hb X.1 hP hD hS 3 0 rfl rfl hi dX2_smoothOnce_41 (fun H locs hP hD hS => ?_)
        have hP : va_P E.1 vwCl (cw_X2 E q0 S0_6) H := by rw [eS]; exact hP
        have hD : va_D A (cw_X2 E q0 S0_6) := by rw [eS]; exact hD
        clear eS
        refine lv_iload_n hx hb dX2_smoothOnce_42 rfl (lv_at hl 2 rfl) ?_
        refine lv_if_ne (tgt := 61) hx hb dX2_smoothOnce_43 (by decide) (fun c7 => ?_) (fun c7 => ?_)
        · have h := it_f h c7
          refine lv_iconst (v := 1) hx hb dX2_smoothOnce_61 (by decide) ?_
          refine lv_goto (tgt := 66) hx hb dX2_smoothOnce_62 (by decide) ?_
          refine lv_istore_n (lv' := [(2, .int 1), (0, .ref (q0 0)), (1, .int x1), (3, .int x3)]) hx hb dX2_smoothOnce_66 rfl hl (by decide) rfl (fun ls hl => ?_)
          obtain ⟨v8, ev8, h⟩ := lt_el h
          refine lv_iinc (v := v8) (lv' := [(3, .int v8), (2, .int 1), (0, .ref (q0 0)), (1, .int x1)]) hx hb dX2_smoothOnce_67 hl (k := 3) rfl (by rw [ev8]; rfl) (by decide) rfl (fun ls hl => ?_)
          refine lv_goto (tgt := 4) hx hb dX2_smoothOnce_70 (by decide) ?_
          exact ih S0_6 1 v8 _ _ _ h hP hD hS (lv_sub hl [2, 3, 1, 0] rfl)
        · have h := it_t h c7
          refine lv_aload_n hx hb dX2_smoothOnce_46 rfl (lv_at hl 0 rfl) ?_
          refine va_get (D := E.1) (ci := 1) (v := .ref (q0 3)) (C := RX2) (T := TX2) (N := 6) hx hb hg in_X2 hown X.1 hP 0 rfl rfl 2 (by decide) (hg _ wf_X2_18) (fun _ h9 => h9) rfl dX2_smoothOnce_47 ?_
          refine lv_iload_n hx hb dX2_smoothOnce_50 rfl (lv_at hl 3 rfl) ?_
          obtain ⟨hi, v9, ev9, h⟩ := rd_el h
          refine va_iald hx hb X.1 hP 3 0 rfl rfl hi dX2_smoothOnce_51 ?_
          refine lv_top' ev9 ?_
          refine lv_aload_n hx hb dX2_smoothOnce_52 rfl (lv_at hl 0 rfl) ?_
          refine va_get (D := E.1) (ci := 1) (v := .ref (q0 2)) (C := RX2) (T := TX2) (N := 6) hx hb hg in_X2 hown X.1 hP 0 rfl rfl 1 (by decide) (hg _ wf_X2_15) (fun _ h9 => h9) rfl dX2_smoothOnce_53 ?_
          refine lv_iload_n hx hb dX2_smoothOnce_56 rfl (lv_at hl 3 rfl) ?_
          obtain ⟨hi, v10, ev10, h⟩ := rd_el h
          refine va_iald hx hb X.1 hP 2 0 rfl rfl hi dX2_smoothOnce_57 ?_
          refine lv_top' ev10 ?_
          refine lv_icmp_eq (tgt := 65) hx hb dX2_smoothOnce_58 (by decide) (fun c11 => ?_) (fun c11 => ?_)
          · have h := it_t h c11
            refine lv_iconst (v := 0) hx hb dX2_smoothOnce_65 (by decide) ?_
            refine lv_istore_n (lv' := [(2, .int 0), (0, .ref (q0 0)), (1, .int x1), (3, .int x3)]) hx hb dX2_smoothOnce_66 rfl hl (by decide) rfl (fun ls hl => ?_)
            obtain ⟨v12, ev12, h⟩ := lt_el h
            refine lv_iinc (v := v12) (lv' := [(3, .int v12), (2, .int 0), (0, .ref (q0 0)), (1, .int x1)]) hx hb dX2_smoothOnce_67 hl (k := 3) rfl (by rw [ev12]; rfl) (by decide) rfl (fun ls hl => ?_)
            refine lv_goto (tgt := 4) hx hb dX2_smoothOnce_70 (by decide) ?_
            exact ih S0_6 0 v12 _ _ _ h hP hD hS (lv_sub hl [2, 3, 1, 0] rfl)
          · have h := it_f h c11
            refine lv_iconst (v := 1) hx hb dX2_smoothOnce_61 (by decide) ?_
            refine lv_goto (tgt := 66) hx hb dX2_smoothOnce_62 (by decide) ?_
            refine lv_istore_n (lv' := [(2, .int 1), (0, .ref (q0 0)), (1, .int x1), (3, .int x3)]) hx hb dX2_smoothOnce_66 rfl hl (by decide) rfl (fun ls hl => ?_)
            obtain ⟨v13, ev13, h⟩ := lt_el h
            refine lv_iinc (v := v13) (lv' := [(3, .int v13), (2, .int 1), (0, .ref (q0 0)), (1, .int x1)]) hx hb dX2_smoothOnce_67 hl (k := 3) rfl (by rw [ev13]; rfl) (by decide) rfl (fun ls hl => ?_)
            refine lv_goto (tgt := 4) hx hb dX2_smoothOnce_70 (by decide) ?_
            exact ih S0_6 1 v13 _ _ _ h hP hD hS (lv_sub hl [2, 3, 1, 0] rfl)
  obtain ⟨H, eH⟩ : ∃ z, z = s.heap := ⟨_, rfl⟩
  rw [← eH]
  have hP : va_P E.1 vwCl (cw_X2 E q0 S0) H := by rw [eH]; exact hP
  have hS : va_S A s.heap H [] := by rw [eH]; exact hS
  clear eH
  obtain ⟨locs, el⟩ : ∃ z : List Loc, z = [] := ⟨_, rfl⟩
  rw [← el] at hS ⊢
  clear el
  refine lv_iconst (v := 0) hx hb dX2_smoothOnce_0 (by decide) ?_
  refine lv_istore_n (lv' := [(2, .int 0), (0, .ref (q0 0)), (1, .int x1)]) hx hb dX2_smoothOnce_1 rfl hl (by decide) rfl (fun ls hl => ?_)
  refine lv_iconst (v := 1) hx hb dX2_smoothOnce_2 (by decide) ?_
  refine lv_istore_n (lv' := [(3, .int 1), (2, .int 0), (0, .ref (q0 0)), (1, .int x1)]) hx hb dX2_smoothOnce_3 rfl hl (by decide) rfl (fun ls hl => ?_)
  exact N4 fu S0 0 1 _ _ _ h hP hD hS (lv_sub hl [2, 3, 1, 0] rfl)
theorem dX2_smooth_0 : decode cX2_smooth 0 = .ok (.iload_n 2, 1) := by decide +kernel
theorem dX2_smooth_1 : decode cX2_smooth 1 = .ok (.bipush 30, 2) := by decide +kernel
theorem dX2_smooth_3 : decode cX2_smooth 3 = .ok (.invokestatic 31, 3) := by decide +kernel
theorem dX2_smooth_6 : decode cX2_smooth 6 = .ok (.istore 4, 2) := by decide +kernel
theorem dX2_smooth_8 : decode cX2_smooth 8 = .ok (.iconst 0, 1) := by decide +kernel
theorem dX2_smooth_9 : decode cX2_smooth 9 = .ok (.istore 5, 2) := by decide +kernel
theorem dX2_smooth_11 : decode cX2_smooth 11 = .ok (.iload 5, 2) := by decide +kernel
theorem dX2_smooth_13 : decode cX2_smooth 13 = .ok (.iload 4, 2) := by decide +kernel
theorem dX2_smooth_15 : decode cX2_smooth 15 = .ok (.if_icmp .ge 22, 3) := by decide +kernel
theorem dX2_smooth_18 : decode cX2_smooth 18 = .ok (.aload_n 0, 1) := by decide +kernel
theorem dX2_smooth_19 : decode cX2_smooth 19 = .ok (.getfield 15, 3) := by decide +kernel
theorem dX2_smooth_22 : decode cX2_smooth 22 = .ok (.iload 5, 2) := by decide +kernel
theorem dX2_smooth_24 : decode cX2_smooth 24 = .ok (.aload_n 1, 1) := by decide +kernel
theorem dX2_smooth_25 : decode cX2_smooth 25 = .ok (.iload 5, 2) := by decide +kernel
theorem dX2_smooth_27 : decode cX2_smooth 27 = .ok (.invokevirtual 37, 3) := by decide +kernel
theorem dX2_smooth_30 : decode cX2_smooth 30 = .ok (.iastore, 1) := by decide +kernel
theorem dX2_smooth_31 : decode cX2_smooth 31 = .ok (.iinc 5 1, 3) := by decide +kernel
theorem dX2_smooth_34 : decode cX2_smooth 34 = .ok (.goto (-23), 3) := by decide +kernel
theorem dX2_smooth_37 : decode cX2_smooth 37 = .ok (.iconst 0, 1) := by decide +kernel
theorem dX2_smooth_38 : decode cX2_smooth 38 = .ok (.istore 5, 2) := by decide +kernel
theorem dX2_smooth_40 : decode cX2_smooth 40 = .ok (.iload 5, 2) := by decide +kernel
theorem dX2_smooth_42 : decode cX2_smooth 42 = .ok (.bipush 30, 2) := by decide +kernel
theorem dX2_smooth_44 : decode cX2_smooth 44 = .ok (.if_icmp .ge 18, 3) := by decide +kernel
theorem dX2_smooth_47 : decode cX2_smooth 47 = .ok (.aload_n 0, 1) := by decide +kernel
theorem dX2_smooth_48 : decode cX2_smooth 48 = .ok (.iload 4, 2) := by decide +kernel
theorem dX2_smooth_50 : decode cX2_smooth 50 = .ok (.invokevirtual 49, 3) := by decide +kernel
theorem dX2_smooth_53 : decode cX2_smooth 53 = .ok (.ifCond .eq 9, 3) := by decide +kernel
theorem dX2_smooth_56 : decode cX2_smooth 56 = .ok (.iinc 5 1, 3) := by decide +kernel
theorem dX2_smooth_59 : decode cX2_smooth 59 = .ok (.goto (-19), 3) := by decide +kernel
theorem dX2_smooth_62 : decode cX2_smooth 62 = .ok (.iload_n 3, 1) := by decide +kernel
theorem dX2_smooth_63 : decode cX2_smooth 63 = .ok (.ifCond .ne 6, 3) := by decide +kernel
theorem dX2_smooth_66 : decode cX2_smooth 66 = .ok (.iload 5, 2) := by decide +kernel
theorem dX2_smooth_68 : decode cX2_smooth 68 = .ok (.ireturn, 1) := by decide +kernel
theorem dX2_smooth_69 : decode cX2_smooth 69 = .ok (.iconst 0, 1) := by decide +kernel
theorem dX2_smooth_70 : decode cX2_smooth 70 = .ok (.istore 6, 2) := by decide +kernel
theorem dX2_smooth_72 : decode cX2_smooth 72 = .ok (.iconst 0, 1) := by decide +kernel
theorem dX2_smooth_73 : decode cX2_smooth 73 = .ok (.istore 7, 2) := by decide +kernel
theorem dX2_smooth_75 : decode cX2_smooth 75 = .ok (.iload 7, 2) := by decide +kernel
theorem dX2_smooth_77 : decode cX2_smooth 77 = .ok (.iload 4, 2) := by decide +kernel
theorem dX2_smooth_79 : decode cX2_smooth 79 = .ok (.if_icmp .ge 21, 3) := by decide +kernel
theorem dX2_smooth_82 : decode cX2_smooth 82 = .ok (.iload 6, 2) := by decide +kernel
theorem dX2_smooth_84 : decode cX2_smooth 84 = .ok (.aload_n 0, 1) := by decide +kernel
theorem dX2_smooth_85 : decode cX2_smooth 85 = .ok (.getfield 15, 3) := by decide +kernel
theorem dX2_smooth_88 : decode cX2_smooth 88 = .ok (.iload 7, 2) := by decide +kernel
theorem dX2_smooth_90 : decode cX2_smooth 90 = .ok (.iaload, 1) := by decide +kernel
theorem dX2_smooth_91 : decode cX2_smooth 91 = .ok (.iadd, 1) := by decide +kernel
theorem dX2_smooth_92 : decode cX2_smooth 92 = .ok (.istore 6, 2) := by decide +kernel
theorem dX2_smooth_94 : decode cX2_smooth 94 = .ok (.iinc 7 1, 3) := by decide +kernel
theorem dX2_smooth_97 : decode cX2_smooth 97 = .ok (.goto (-22), 3) := by decide +kernel
theorem dX2_smooth_100 : decode cX2_smooth 100 = .ok (.iload 6, 2) := by decide +kernel
theorem dX2_smooth_102 : decode cX2_smooth 102 = .ok (.ireturn, 1) := by decide +kernel
def f_X2_smooth_n75 (S1 : Gr) (x2 : Int32) (x3 : Int32) : Nat → Gr → Int32 → Int32 → Int32 → Option (Int32 × Gr)
  | 0, _, _, _, _ => none
  | n + 1, S0, x4, x6, x7 => if x4 ≤ x7 then (some (x6, S0)) else (rd' (S0.2 1) 30 x7 fun v13 => lt' ((x6 + v13)) fun v14 => lt' (x7 + 1) fun v15 => f_X2_smooth_n75 S1 x2 x3 n S0 x4 v14 v15)
def f_X2_smooth_n40 (S1 : Gr) (x2 : Int32) (x3 : Int32) : Nat → Gr → Int32 → Int32 → Option (Int32 × Gr)
  | 0, _, _, _ => none
  | n + 1, S0, x4, x5 => if 30 ≤ x5 then (if x3 = 0 then (some (x5, S0)) else (f_X2_smooth_n75 S1 x2 x3 fu S0 x4 0 0)) else ((f_X2_smoothOnce S0 x4).bind fun u8 => if u8.1 = 0 then (if x3 = 0 then (some (x5, u8.2)) else (f_X2_smooth_n75 S1 x2 x3 fu u8.2 x4 0 0)) else (lt' (x5 + 1) fun v11 => f_X2_smooth_n40 S1 x2 x3 n u8.2 x4 v11))
def f_X2_smooth_n11 (S1 : Gr) (x2 : Int32) (x3 : Int32) : Nat → Gr → Int32 → Int32 → Option (Int32 × Gr)
  | 0, _, _, _ => none
  | n + 1, S0, x4, x5 => if x4 ≤ x5 then (f_X2_smooth_n40 S1 x2 x3 fu S0 x4 0) else ((f_X8_at S1 x5).bind fun u3 => ck' 30 x5 (lt' (sA S0 1 (Int32.toNatClampNeg x5) u3) fun S0_4 => lt' (x5 + 1) fun v5 => f_X2_smooth_n11 S1 x2 x3 n S0_4 x4 v5))
def f_X2_smooth (S0 : Gr) (S1 : Gr) (x2 : Int32) (x3 : Int32) : Option (Int32 × Gr) := lt' (mn' x2 30) fun v1 => f_X2_smooth_n11 S1 x2 x3 fu S0 v1 0
set_option maxHeartbeats 4000000 in
set_option maxRecDepth 100000 in
theorem c_X2_smooth (l : Launch) (E : Ec) (q0 q1 : Nat → Nat) (sz : Nat) (S0 : Gr) (S1 : Gr) (x2 : Int32) (x3 : Int32) (Rv : Int32 × Gr) (h : f_X2_smooth S0 S1 x2 x3 = some Rv) : Met l yX2_smooth (wsM (.code yX2_smooth cX2_smooth 8 (some .int))) ({ frames := 3, cells := 0, slots := 0, locals := 75 } : Room) (va_Pc [.ref (q0 0), .ref (q1 0), .int x2, .int x3] (ctP E (cw_X2 E q0 S0 ++ (cw_X8 E q1 S1)) sz)) (ctI E (cw_X2 E q0 S0 ++ (cw_X8 E q1 S1)) (cw_X2 E q0 Rv.2 ++ (cw_X8 E q1 S1)) sz Rv.1) 0 0 (va_A (cw_X2 E q0 S0 ++ (cw_X8 E q1 S1)) sz) := by
  refine ct_metI (by decide) (Nat.le_of_ble_eq_true rfl) ?_
  intro p e s m ar below meth c A QM hx hb hml hown hg X hP hD hS RET ls hl
  have hown : s.vm.findClass RX2 = some m.cls := hown
  have hl : lv_has ls 8 [(0, .ref (q0 0)), (1, .ref (q1 0)), (2, .int x2), (3, .int x3)] := hl
  have RT : ∀ (v : Int32) (S0 : Gr) (H : Heap) (locs : List Loc) (ls : Array Slot) (pc : Nat), some (v, S0) = some Rv → narrow .int (.int v) = .int v → va_P E.1 vwCl (cw_X2 E q0 S0 ++ (cw_X8 E q1 S1)) H → va_D A (cw_X2 E q0 S0 ++ (cw_X8 E q1 S1)) → va_S A s.heap H locs → decode cX2_smooth pc = .ok (.ireturn, 1) → W p l e ({ frames := 3, cells := 0, slots := 0, locals := 75 } : Room) s m ar below meth c H locs 0 0 QM (F0 m pc ls [.int v]) := by
    intro v S0 H locs ls pc e hn hP hD hS d
    obtain rfl := sm_e e
    exact RET H locs pc ls hn hP hD hS d
  clear RET
  have N75 : ∀ (n : Nat) (S0 : Gr) (x4 : Int32) (x6 : Int32) (x7 : Int32) (H : Heap) (locs : List Loc) (ls : Array Slot), f_X2_smooth_n75 S1 x2 x3 n S0 x4 x6 x7 = some Rv → va_P E.1 vwCl (cw_X2 E q0 S0 ++ (cw_X8 E q1 S1)) H → va_D A (cw_X2 E q0 S0 ++ (cw_X8 E q1 S1)) → va_S A s.heap H locs → lv_has ls 8 [(0, .ref (q0 0)), (4, .int x4), (6, .int x6), (7, .int x7)] → W p l e ({ frames := 3, cells := 0, slots := 0, locals := 75 } : Room) s m ar below meth c H locs 0 0 QM (F0 m 75 ls []) := by
    intro n
    induction n with
    | zero => intro S0 x4 x6 x7 H locs ls h; exact nn_el h
    | succ n ih =>
      intro S0 x4 x6 x7 H locs ls h hP hD hS hl
      refine lv_iload hx hb dX2_smooth_75 (lv_at hl 3 rfl) ?_
      refine lv_iload hx hb dX2_smooth_77 (lv_at hl 1 rfl) ?_
      refine lv_icmp_ge (tgt := 100) hx hb dX2_smooth_79 (by decide) (fun c12 => ?_) (fun c12 => ?_)
      · have h := it_t h c12
        refine lv_iload hx hb dX2_smooth_100 (lv_at hl 2 rfl) ?_
        exact RT x6 S0 _ _ _ _ h rfl hP hD hS dX2_smooth_102
      · have h := it_f h c12
        refine lv_iload hx hb dX2_smooth_82 (lv_at hl 2 rfl) ?_
        refine lv_aload_n hx hb dX2_smooth_84 rfl (lv_at hl 0 rfl) ?_
        refine va_get (D := E.1) (ci := 1) (v := .ref (q0 2)) (C := RX2) (T := TX2) (N := 6) hx hb hg in_X2 hown X.1 hP 0 rfl rfl 1 (by decide) (hg _ wf_X2_15) (fun _ h9 => h9) rfl dX2_smooth_85 ?_
        refine lv_iload hx hb dX2_smooth_88 (lv_at hl 3 rfl) ?_
        obtain ⟨hi, v13, ev13, h⟩ := rd_el h
        refine va_iald hx hb X.1 hP 2 0 rfl rfl hi dX2_smooth_90 ?_
        refine lv_top' ev13 ?_
        refine lv_iadd hx hb dX2_smooth_91 ?_
        obtain ⟨v14, ev14, h⟩ := lt_el h
        refine lv_top' ev14 ?_
        refine lv_istore (lv' := [(6, .int v14), (0, .ref (q0 0)), (4, .int x4), (7, .int x7)]) hx hb dX2_smooth_92 hl (by decide) rfl (fun ls hl => ?_)
        obtain ⟨v15, ev15, h⟩ := lt_el h
        refine lv_iinc (v := v15) (lv' := [(7, .int v15), (6, .int v14), (0, .ref (q0 0)), (4, .int x4)]) hx hb dX2_smooth_94 hl (k := 3) rfl (by rw [ev15]; rfl) (by decide) rfl (fun ls hl => ?_)
        refine lv_goto (tgt := 75) hx hb dX2_smooth_97 (by decide) ?_
        exact ih S0 x4 v14 v15 _ _ _ h hP hD hS (lv_sub hl [2, 3, 1, 0] rfl)
  have N40 : ∀ (n : Nat) (S0 : Gr) (x4 : Int32) (x5 : Int32) (H : Heap) (locs : List Loc) (ls : Array Slot), f_X2_smooth_n40 S1 x2 x3 n S0 x4 x5 = some Rv → va_P E.1 vwCl (cw_X2 E q0 S0 ++ (cw_X8 E q1 S1)) H → va_D A (cw_X2 E q0 S0 ++ (cw_X8 E q1 S1)) → va_S A s.heap H locs → lv_has ls 8 [(0, .ref (q0 0)), (3, .int x3), (4, .int x4), (5, .int x5)] → W p l e ({ frames := 3, cells := 0, slots := 0, locals := 75 } : Room) s m ar below meth c H locs 0 0 QM (F0 m 40 ls []) := by
    intro n
    induction n with
    | zero => intro S0 x4 x5 H locs ls h; exact nn_el h
    | succ n ih =>
      intro S0 x4 x5 H locs ls h hP hD hS hl
      refine lv_iload hx hb dX2_smooth_40 (lv_at hl 3 rfl) ?_
      refine lv_bipush (v := 30) hx hb dX2_smooth_42 (by decide) ?_
      refine lv_icmp_ge (tgt := 62) hx hb dX2_smooth_44 (by decide) (fun c6 => ?_) (fun c6 => ?_)
      · have h := it_t h c6
        refine lv_iload_n hx hb dX2_smooth_62 rfl (lv_at hl 1 rfl) ?_
        refine lv_if_ne (tgt := 69) hx hb dX2_smooth_63 (by decide) (fun c7 => ?_) (fun c7 => ?_)
        · have h := it_f h c7
          refine lv_iconst (v := 0) hx hb dX2_smooth_69 (by decide) ?_
          refine lv_istore (lv' := [(6, .int 0), (0, .ref (q0 0)), (3, .int x3), (4, .int x4), (5, .int x5)]) hx hb dX2_smooth_70 hl (by decide) rfl (fun ls hl => ?_)
          refine lv_iconst (v := 0) hx hb dX2_smooth_72 (by decide) ?_
          refine lv_istore (lv' := [(7, .int 0), (6, .int 0), (0, .ref (q0 0)), (3, .int x3), (4, .int x4), (5, .int x5)]) hx hb dX2_smooth_73 hl (by decide) rfl (fun ls hl => ?_)
          exact N75 fu S0 x4 0 0 _ _ _ h hP hD hS (lv_sub hl [2, 4, 1, 0] rfl)
        · have h := it_t h c7
          refine lv_iload hx hb dX2_smooth_66 (lv_at hl 3 rfl) ?_
          exact RT x5 S0 _ _ _ _ h rfl hP hD hS dX2_smooth_68
      · have h := it_f h c6
        refine lv_aload_n hx hb dX2_smooth_47 rfl (lv_at hl 0 rfl) ?_
        refine lv_iload hx hb dX2_smooth_48 (lv_at hl 2 rfl) ?_
        obtain ⟨u8, hc, h⟩ := bd_el h
        have hC : ([0, 1, 2, 3, 4, 5, 6] : List Nat).map (fun i => (cw_X2 E q0 S0 ++ (cw_X8 E q1 S1))[i]?) = (cw_X2 E q0 S0).map some := rfl
        refine ct_i (ws' := cw_X2 E q0 u8.2 ++ (cw_X8 E q1 S1)) X hP hD hS [0, 1, 2, 3, 4, 5, 6] (va_runV (C := RX2) (As := [.int x4]) (rest := []) ⟨hx, hb, hml, hown, hg⟩ (c_X2_smoothOnce l E q0 H.size S0 x4 u8 hc) (cwV 1 hg (gwV wm_X2_49 wi_X2_smoothOnce wsl_X2_smoothOnce wini_X2 wco_X2_smoothOnce) rfl rfl rfl (by decide +kernel) ⟨Nat.le_of_ble_eq_true rfl, Nat.le_of_ble_eq_true rfl⟩) ⟨ct_blind, ct_rv X.1 hP 0 rfl rfl, ct_pre X hP hD hS [0, 1, 2, 3, 4, 5, 6] (by decide) hC _⟩ rfl rfl hl.1 rfl (lv_room (Nat.le_of_ble_eq_true rfl)) dX2_smooth_50 ⟨Nat.zero_le _, Nat.zero_le _⟩) hC rfl rfl (fun H locs hP hD hS => ?_)
        clear hC
        refine lv_if_eq (tgt := 62) hx hb dX2_smooth_53 (by decide) (fun c9 => ?_) (fun c9 => ?_)
        · have h := it_t h c9
          refine lv_iload_n hx hb dX2_smooth_62 rfl (lv_at hl 1 rfl) ?_
          refine lv_if_ne (tgt := 69) hx hb dX2_smooth_63 (by decide) (fun c10 => ?_) (fun c10 => ?_)
          · have h := it_f h c10
            refine lv_iconst (v := 0) hx hb dX2_smooth_69 (by decide) ?_
            refine lv_istore (lv' := [(6, .int 0), (0, .ref (q0 0)), (3, .int x3), (4, .int x4), (5, .int x5)]) hx hb dX2_smooth_70 hl (by decide) rfl (fun ls hl => ?_)
            refine lv_iconst (v := 0) hx hb dX2_smooth_72 (by decide) ?_
            refine lv_istore (lv' := [(7, .int 0), (6, .int 0), (0, .ref (q0 0)), (3, .int x3), (4, .int x4), (5, .int x5)]) hx hb dX2_smooth_73 hl (by decide) rfl (fun ls hl => ?_)
            exact N75 fu u8.2 x4 0 0 _ _ _ h hP hD hS (lv_sub hl [2, 4, 1, 0] rfl)
          · have h := it_t h c10
            refine lv_iload hx hb dX2_smooth_66 (lv_at hl 3 rfl) ?_
            exact RT x5 u8.2 _ _ _ _ h rfl hP hD hS dX2_smooth_68
        · have h := it_f h c9
          obtain ⟨v11, ev11, h⟩ := lt_el h
          refine lv_iinc (v := v11) (lv' := [(5, .int v11), (0, .ref (q0 0)), (3, .int x3), (4, .int x4)]) hx hb dX2_smooth_56 hl (k := 3) rfl (by rw [ev11]; rfl) (by decide) rfl (fun ls hl => ?_)
          refine lv_goto (tgt := 40) hx hb dX2_smooth_59 (by decide) ?_
          exact ih u8.2 x4 v11 _ _ _ h hP hD hS (lv_sub hl [1, 2, 3, 0] rfl)
  have N11 : ∀ (n : Nat) (S0 : Gr) (x4 : Int32) (x5 : Int32) (H : Heap) (locs : List Loc) (ls : Array Slot), f_X2_smooth_n11 S1 x2 x3 n S0 x4 x5 = some Rv → va_P E.1 vwCl (cw_X2 E q0 S0 ++ (cw_X8 E q1 S1)) H → va_D A (cw_X2 E q0 S0 ++ (cw_X8 E q1 S1)) → va_S A s.heap H locs → lv_has ls 8 [(0, .ref (q0 0)), (1, .ref (q1 0)), (3, .int x3), (4, .int x4), (5, .int x5)] → W p l e ({ frames := 3, cells := 0, slots := 0, locals := 75 } : Room) s m ar below meth c H locs 0 0 QM (F0 m 11 ls []) := by
    intro n
    induction n with
    | zero => intro S0 x4 x5 H locs ls h; exact nn_el h
    | succ n ih =>
      intro S0 x4 x5 H locs ls h hP hD hS hl
      refine lv_iload hx hb dX2_smooth_11 (lv_at hl 4 rfl) ?_
      refine lv_iload hx hb dX2_smooth_13 (lv_at hl 3 rfl) ?_
      refine lv_icmp_ge (tgt := 37) hx hb dX2_smooth_15 (by decide) (fun c2 => ?_) (fun c2 => ?_)
      · have h := it_t h c2
        refine lv_iconst (v := 0) hx hb dX2_smooth_37 (by decide) ?_
        refine lv_istore (lv' := [(5, .int 0), (0, .ref (q0 0)), (1, .ref (q1 0)), (3, .int x3), (4, .int x4)]) hx hb dX2_smooth_38 hl (by decide) rfl (fun ls hl => ?_)
        exact N40 fu S0 x4 0 _ _ _ h hP hD hS (lv_sub hl [1, 3, 4, 0] rfl)
      · have h := it_f h c2
        refine lv_aload_n hx hb dX2_smooth_18 rfl (lv_at hl 0 rfl) ?_
        refine va_get (D := E.1) (ci := 1) (v := .ref (q0 2)) (C := RX2) (T := TX2) (N := 6) hx hb hg in_X2 hown X.1 hP 0 rfl rfl 1 (by decide) (hg _ wf_X2_15) (fun _ h9 => h9) rfl dX2_smooth_19 ?_
        refine lv_iload hx hb dX2_smooth_22 (lv_at hl 4 rfl) ?_
        refine lv_aload_n hx hb dX2_smooth_24 rfl (lv_at hl 1 rfl) ?_
        refine lv_iload hx hb dX2_smooth_25 (lv_at hl 4 rfl) ?_
        obtain ⟨u3, hc, h⟩ := bd_el h
        have hC : ([7, 8] : List Nat).map (fun i => (cw_X2 E q0 S0 ++ (cw_X8 E q1 S1))[i]?) = (cw_X8 E q1 S1).map some := rfl
        refine ct_iR X hP hD hS [7, 8] hC (va_runV (C := RX8) (As := [.int x5]) (rest := [.int x5, .ref (q0 2)]) ⟨hx, hb, hml, hown, hg⟩ (c_X8_at l E q1 H.size S1 x5 u3 hc) (cwV 1 hg (gwV wm_X2_37 wi_X8_at wsl_X8_at wini_X8 wco_X8_at) rfl rfl rfl (by decide +kernel) ⟨Nat.le_of_ble_eq_true rfl, Nat.le_of_ble_eq_true rfl⟩) ⟨ct_blind, ct_rv X.1 hP 7 rfl rfl, ct_pre X hP hD hS [7, 8] (by decide) hC _⟩ rfl rfl hl.1 rfl (lv_room (Nat.le_of_ble_eq_true rfl)) dX2_smooth_27 ⟨Nat.zero_le _, Nat.zero_le _⟩) (fun H locs hP hD hS => ?_)
        clear hC
        obtain ⟨hi, h⟩ := ck_el h
        obtain ⟨S0_4, eS, h⟩ := lt_el h
        refine va_iast hx hb X.1 hP hD hS 2 0 rfl rfl hi dX2_smooth_30 (fun H locs hP hD hS => ?_)
        have hP : va_P E.1 vwCl (cw_X2 E q0 S0_4 ++ (cw_X8 E q1 S1)) H := by rw [eS]; exact hP
        have hD : va_D A (cw_X2 E q0 S0_4 ++ (cw_X8 E q1 S1)) := by rw [eS]; exact hD
        clear eS
        obtain ⟨v5, ev5, h⟩ := lt_el h
        refine lv_iinc (v := v5) (lv' := [(5, .int v5), (0, .ref (q0 0)), (1, .ref (q1 0)), (3, .int x3), (4, .int x4)]) hx hb dX2_smooth_31 hl (k := 4) rfl (by rw [ev5]; rfl) (by decide) rfl (fun ls hl => ?_)
        refine lv_goto (tgt := 11) hx hb dX2_smooth_34 (by decide) ?_
        exact ih S0_4 x4 v5 _ _ _ h hP hD hS (lv_sub hl [1, 2, 3, 4, 0] rfl)
  obtain ⟨H, eH⟩ : ∃ z, z = s.heap := ⟨_, rfl⟩
  rw [← eH]
  have hP : va_P E.1 vwCl (cw_X2 E q0 S0 ++ (cw_X8 E q1 S1)) H := by rw [eH]; exact hP
  have hS : va_S A s.heap H [] := by rw [eH]; exact hS
  clear eH
  obtain ⟨locs, el⟩ : ∃ z : List Loc, z = [] := ⟨_, rfl⟩
  rw [← el] at hS ⊢
  clear el
  refine lv_iload_n hx hb dX2_smooth_0 rfl (lv_at hl 2 rfl) ?_
  refine lv_bipush (v := 30) hx hb dX2_smooth_1 (by decide) ?_
  obtain ⟨v1, ev1, h⟩ := lt_el h
  refine va_mmin hx hb (hml.trans hl.1.symm) hown (hg _ wm_X2_31) (hg _ wst_Mmin) (hg _ wini_J9) (hg _ wco_Mmin) (Nat.le_of_ble_eq_true rfl) (Nat.le_of_ble_eq_true rfl) (Nat.zero_le _) (Nat.zero_le _) dX2_smooth_3 ?_
  refine lv_top' ev1 ?_
  refine lv_istore (lv' := [(4, .int v1), (0, .ref (q0 0)), (1, .ref (q1 0)), (2, .int x2), (3, .int x3)]) hx hb dX2_smooth_6 hl (by decide) rfl (fun ls hl => ?_)
  refine lv_iconst (v := 0) hx hb dX2_smooth_8 (by decide) ?_
  refine lv_istore (lv' := [(5, .int 0), (4, .int v1), (0, .ref (q0 0)), (1, .ref (q1 0)), (2, .int x2), (3, .int x3)]) hx hb dX2_smooth_9 hl (by decide) rfl (fun ls hl => ?_)
  exact N11 fu S0 v1 0 _ _ _ h hP hD hS (lv_sub hl [2, 3, 5, 1, 0] rfl)
theorem dX2_worstSpell_0 : decode cX2_worstSpell 0 = .ok (.ldc 57, 2) := by decide +kernel
theorem dX2_worstSpell_2 : decode cX2_worstSpell 2 = .ok (.istore 4, 2) := by decide +kernel
theorem dX2_worstSpell_4 : decode cX2_worstSpell 4 = .ok (.iconst 0, 1) := by decide +kernel
theorem dX2_worstSpell_5 : decode cX2_worstSpell 5 = .ok (.istore 5, 2) := by decide +kernel
theorem dX2_worstSpell_7 : decode cX2_worstSpell 7 = .ok (.iconst 0, 1) := by decide +kernel
theorem dX2_worstSpell_8 : decode cX2_worstSpell 8 = .ok (.istore 6, 2) := by decide +kernel
theorem dX2_worstSpell_10 : decode cX2_worstSpell 10 = .ok (.iconst 0, 1) := by decide +kernel
theorem dX2_worstSpell_11 : decode cX2_worstSpell 11 = .ok (.istore 7, 2) := by decide +kernel
theorem dX2_worstSpell_13 : decode cX2_worstSpell 13 = .ok (.iload 7, 2) := by decide +kernel
theorem dX2_worstSpell_15 : decode cX2_worstSpell 15 = .ok (.iload_n 2, 1) := by decide +kernel
theorem dX2_worstSpell_16 : decode cX2_worstSpell 16 = .ok (.if_icmp .ge 67, 3) := by decide +kernel
theorem dX2_worstSpell_19 : decode cX2_worstSpell 19 = .ok (.iconst 0, 1) := by decide +kernel
theorem dX2_worstSpell_20 : decode cX2_worstSpell 20 = .ok (.istore 8, 2) := by decide +kernel
theorem dX2_worstSpell_22 : decode cX2_worstSpell 22 = .ok (.iload 7, 2) := by decide +kernel
theorem dX2_worstSpell_24 : decode cX2_worstSpell 24 = .ok (.istore 9, 2) := by decide +kernel
theorem dX2_worstSpell_26 : decode cX2_worstSpell 26 = .ok (.iload 9, 2) := by decide +kernel
theorem dX2_worstSpell_28 : decode cX2_worstSpell 28 = .ok (.iload_n 2, 1) := by decide +kernel
theorem dX2_worstSpell_29 : decode cX2_worstSpell 29 = .ok (.if_icmp .ge 48, 3) := by decide +kernel
theorem dX2_worstSpell_32 : decode cX2_worstSpell 32 = .ok (.iload 8, 2) := by decide +kernel
theorem dX2_worstSpell_34 : decode cX2_worstSpell 34 = .ok (.aload_n 1, 1) := by decide +kernel
theorem dX2_worstSpell_35 : decode cX2_worstSpell 35 = .ok (.iload 9, 2) := by decide +kernel
theorem dX2_worstSpell_37 : decode cX2_worstSpell 37 = .ok (.invokevirtual 37, 3) := by decide +kernel
theorem dX2_worstSpell_40 : decode cX2_worstSpell 40 = .ok (.sipush 128, 3) := by decide +kernel
theorem dX2_worstSpell_43 : decode cX2_worstSpell 43 = .ok (.isub, 1) := by decide +kernel
theorem dX2_worstSpell_44 : decode cX2_worstSpell 44 = .ok (.iadd, 1) := by decide +kernel
theorem dX2_worstSpell_45 : decode cX2_worstSpell 45 = .ok (.istore 8, 2) := by decide +kernel
theorem dX2_worstSpell_47 : decode cX2_worstSpell 47 = .ok (.iload 8, 2) := by decide +kernel
theorem dX2_worstSpell_49 : decode cX2_worstSpell 49 = .ok (.iload 4, 2) := by decide +kernel
theorem dX2_worstSpell_51 : decode cX2_worstSpell 51 = .ok (.if_icmp .le 20, 3) := by decide +kernel
theorem dX2_worstSpell_54 : decode cX2_worstSpell 54 = .ok (.iload 8, 2) := by decide +kernel
theorem dX2_worstSpell_56 : decode cX2_worstSpell 56 = .ok (.istore 4, 2) := by decide +kernel
theorem dX2_worstSpell_58 : decode cX2_worstSpell 58 = .ok (.iload 7, 2) := by decide +kernel
theorem dX2_worstSpell_60 : decode cX2_worstSpell 60 = .ok (.istore 5, 2) := by decide +kernel
theorem dX2_worstSpell_62 : decode cX2_worstSpell 62 = .ok (.iload 9, 2) := by decide +kernel
theorem dX2_worstSpell_64 : decode cX2_worstSpell 64 = .ok (.iload 7, 2) := by decide +kernel
theorem dX2_worstSpell_66 : decode cX2_worstSpell 66 = .ok (.isub, 1) := by decide +kernel
theorem dX2_worstSpell_67 : decode cX2_worstSpell 67 = .ok (.iconst 1, 1) := by decide +kernel
theorem dX2_worstSpell_68 : decode cX2_worstSpell 68 = .ok (.iadd, 1) := by decide +kernel
theorem dX2_worstSpell_69 : decode cX2_worstSpell 69 = .ok (.istore 6, 2) := by decide +kernel
theorem dX2_worstSpell_71 : decode cX2_worstSpell 71 = .ok (.iinc 9 1, 3) := by decide +kernel
theorem dX2_worstSpell_74 : decode cX2_worstSpell 74 = .ok (.goto (-48), 3) := by decide +kernel
theorem dX2_worstSpell_77 : decode cX2_worstSpell 77 = .ok (.iinc 7 1, 3) := by decide +kernel
theorem dX2_worstSpell_80 : decode cX2_worstSpell 80 = .ok (.goto (-67), 3) := by decide +kernel
theorem dX2_worstSpell_83 : decode cX2_worstSpell 83 = .ok (.iload_n 3, 1) := by decide +kernel
theorem dX2_worstSpell_84 : decode cX2_worstSpell 84 = .ok (.ifCond .ne 6, 3) := by decide +kernel
theorem dX2_worstSpell_87 : decode cX2_worstSpell 87 = .ok (.iload 4, 2) := by decide +kernel
theorem dX2_worstSpell_89 : decode cX2_worstSpell 89 = .ok (.ireturn, 1) := by decide +kernel
theorem dX2_worstSpell_90 : decode cX2_worstSpell 90 = .ok (.iload_n 3, 1) := by decide +kernel
theorem dX2_worstSpell_91 : decode cX2_worstSpell 91 = .ok (.iconst 1, 1) := by decide +kernel
theorem dX2_worstSpell_92 : decode cX2_worstSpell 92 = .ok (.if_icmp .ne 8, 3) := by decide +kernel
theorem dX2_worstSpell_95 : decode cX2_worstSpell 95 = .ok (.iload 5, 2) := by decide +kernel
theorem dX2_worstSpell_97 : decode cX2_worstSpell 97 = .ok (.goto 5, 3) := by decide +kernel
theorem dX2_worstSpell_100 : decode cX2_worstSpell 100 = .ok (.iload 6, 2) := by decide +kernel
theorem dX2_worstSpell_102 : decode cX2_worstSpell 102 = .ok (.ireturn, 1) := by decide +kernel
def f_X2_worstSpell_n26 (S0 : Gr) (S1 : Gr) (x2 : Int32) (x3 : Int32) (k13 : Int32 → Int32 → Int32 → Int32 → Option (Int32)) : Nat → Int32 → Int32 → Int32 → Int32 → Int32 → Int32 → Option (Int32)
  | 0, _, _, _, _, _, _ => none
  | n + 1, x4, x5, x6, x7, x8, x9 => if x2 ≤ x9 then (lt' (x7 + 1) fun v5 => k13 x4 x5 x6 v5) else ((f_X8_at S1 x9).bind fun u6 => lt' ((x8 + (u6 - 128))) fun v7 => if v7 ≤ x4 then (lt' (x9 + 1) fun v9 => f_X2_worstSpell_n26 S0 S1 x2 x3 k13 n x4 x5 x6 x7 v7 v9) else (lt' (((x9 - x7) + 1)) fun v10 => lt' (x9 + 1) fun v11 => f_X2_worstSpell_n26 S0 S1 x2 x3 k13 n v7 x7 v10 x7 v7 v11))
def f_X2_worstSpell_n13 (S0 : Gr) (S1 : Gr) (x2 : Int32) (x3 : Int32) : Nat → Int32 → Int32 → Int32 → Int32 → Option (Int32)
  | 0, _, _, _, _ => none
  | n + 1, x4, x5, x6, x7 => if x2 ≤ x7 then (if x3 = 0 then (some x4) else (if x3 = 1 then (some x5) else (some x6))) else (f_X2_worstSpell_n26 S0 S1 x2 x3 (f_X2_worstSpell_n13 S0 S1 x2 x3 n) fu x4 x5 x6 x7 0 x7)
def f_X2_worstSpell (S0 : Gr) (S1 : Gr) (x2 : Int32) (x3 : Int32) : Option (Int32) := f_X2_worstSpell_n13 S0 S1 x2 x3 fu (-1000000) 0 0 0
set_option maxHeartbeats 4000000 in
set_option maxRecDepth 100000 in
theorem c_X2_worstSpell (l : Launch) (E : Ec) (q0 q1 : Nat → Nat) (sz : Nat) (S0 : Gr) (S1 : Gr) (x2 : Int32) (x3 : Int32) (Rv : Int32) (h : f_X2_worstSpell S0 S1 x2 x3 = some Rv) : Met l yX2_worstSpell (wsM (.code yX2_worstSpell cX2_worstSpell 10 (some .int))) ({ frames := 2, cells := 0, slots := 0, locals := 43 } : Room) (va_Pc [.ref (q0 0), .ref (q1 0), .int x2, .int x3] (ctP E (cw_X2 E q0 S0 ++ (cw_X8 E q1 S1)) sz)) (ctI E (cw_X2 E q0 S0 ++ (cw_X8 E q1 S1)) (cw_X2 E q0 S0 ++ (cw_X8 E q1 S1)) sz Rv) 0 0 (va_A (cw_X2 E q0 S0 ++ (cw_X8 E q1 S1)) sz) := by
  refine ct_metI (by decide) (Nat.le_of_ble_eq_true rfl) ?_
  intro p e s m ar below meth c A QM hx hb hml hown hg X hP hD hS RET ls hl
  have hown : s.vm.findClass RX2 = some m.cls := hown
  have hl : lv_has ls 10 [(0, .ref (q0 0)), (1, .ref (q1 0)), (2, .int x2), (3, .int x3)] := hl
  have RT : ∀ (v : Int32) (H : Heap) (locs : List Loc) (ls : Array Slot) (pc : Nat), some v = some Rv → narrow .int (.int v) = .int v → va_P E.1 vwCl (cw_X2 E q0 S0 ++ (cw_X8 E q1 S1)) H → va_D A (cw_X2 E q0 S0 ++ (cw_X8 E q1 S1)) → va_S A s.heap H locs → decode cX2_worstSpell pc = .ok (.ireturn, 1) → W p l e ({ frames := 2, cells := 0, slots := 0, locals := 43 } : Room) s m ar below meth c H locs 0 0 QM (F0 m pc ls [.int v]) := by
    intro v H locs ls pc e hn hP hD hS d
    obtain rfl := sm_e e
    exact RET H locs pc ls hn hP hD hS d
  clear RET
  have N26 : ∀ (k13 : Int32 → Int32 → Int32 → Int32 → Option (Int32)) (hk13 : ∀ (x4 : Int32) (x5 : Int32) (x6 : Int32) (x7 : Int32) (H : Heap) (locs : List Loc) (ls : Array Slot), k13 x4 x5 x6 x7 = some Rv → va_P E.1 vwCl (cw_X2 E q0 S0 ++ (cw_X8 E q1 S1)) H → va_D A (cw_X2 E q0 S0 ++ (cw_X8 E q1 S1)) → va_S A s.heap H locs → lv_has ls 10 [(1, .ref (q1 0)), (2, .int x2), (3, .int x3), (4, .int x4), (5, .int x5), (6, .int x6), (7, .int x7)] → W p l e ({ frames := 2, cells := 0, slots := 0, locals := 43 } : Room) s m ar below meth c H locs 0 0 QM (F0 m 13 ls [])) (n : Nat) (x4 : Int32) (x5 : Int32) (x6 : Int32) (x7 : Int32) (x8 : Int32) (x9 : Int32) (H : Heap) (locs : List Loc) (ls : Array Slot), f_X2_worstSpell_n26 S0 S1 x2 x3 k13 n x4 x5 x6 x7 x8 x9 = some Rv → va_P E.1 vwCl (cw_X2 E q0 S0 ++ (cw_X8 E q1 S1)) H → va_D A (cw_X2 E q0 S0 ++ (cw_X8 E q1 S1)) → va_S A s.heap H locs → lv_has ls 10 [(1, .ref (q1 0)), (2, .int x2), (3, .int x3), (4, .int x4), (5, .int x5), (6, .int x6), (7, .int x7), (8, .int x8), (9, .int x9)] → W p l e ({ frames := 2, cells := 0, slots := 0, locals := 43 } : Room) s m ar below meth c H locs 0 0 QM (F0 m 26 ls []) := by
    intro k13 hk13 n
    induction n with
    | zero => intro x4 x5 x6 x7 x8 x9 H locs ls h; exact nn_el h
    | succ n ih =>
      intro x4 x5 x6 x7 x8 x9 H locs ls h hP hD hS hl
      refine lv_iload hx hb dX2_worstSpell_26 (lv_at hl 8 rfl) ?_
      refine lv_iload_n hx hb dX2_worstSpell_28 rfl (lv_at hl 1 rfl) ?_
      refine lv_icmp_ge (tgt := 77) hx hb dX2_worstSpell_29 (by decide) (fun c4 => ?_) (fun c4 => ?_)
      · have h := it_t h c4
        obtain ⟨v5, ev5, h⟩ := lt_el h
        refine lv_iinc (v := v5) (lv' := [(7, .int v5), (1, .ref (q1 0)), (2, .int x2), (3, .int x3), (4, .int x4), (5, .int x5), (6, .int x6), (8, .int x8), (9, .int x9)]) hx hb dX2_worstSpell_77 hl (k := 6) rfl (by rw [ev5]; rfl) (by decide) rfl (fun ls hl => ?_)
        refine lv_goto (tgt := 13) hx hb dX2_worstSpell_80 (by decide) ?_
        exact hk13 x4 x5 x6 v5 _ _ _ h hP hD hS (lv_sub hl [1, 2, 3, 4, 5, 6, 0] rfl)
      · have h := it_f h c4
        refine lv_iload hx hb dX2_worstSpell_32 (lv_at hl 7 rfl) ?_
        refine lv_aload_n hx hb dX2_worstSpell_34 rfl (lv_at hl 0 rfl) ?_
        refine lv_iload hx hb dX2_worstSpell_35 (lv_at hl 8 rfl) ?_
        obtain ⟨u6, hc, h⟩ := bd_el h
        have hC : ([7, 8] : List Nat).map (fun i => (cw_X2 E q0 S0 ++ (cw_X8 E q1 S1))[i]?) = (cw_X8 E q1 S1).map some := rfl
        refine ct_iR X hP hD hS [7, 8] hC (va_runV (C := RX8) (As := [.int x9]) (rest := [.int x8]) ⟨hx, hb, hml, hown, hg⟩ (c_X8_at l E q1 H.size S1 x9 u6 hc) (cwV 1 hg (gwV wm_X2_37 wi_X8_at wsl_X8_at wini_X8 wco_X8_at) rfl rfl rfl (by decide +kernel) ⟨Nat.le_of_ble_eq_true rfl, Nat.le_of_ble_eq_true rfl⟩) ⟨ct_blind, ct_rv X.1 hP 7 rfl rfl, ct_pre X hP hD hS [7, 8] (by decide) hC _⟩ rfl rfl hl.1 rfl (lv_room (Nat.le_of_ble_eq_true rfl)) dX2_worstSpell_37 ⟨Nat.zero_le _, Nat.zero_le _⟩) (fun H locs hP hD hS => ?_)
        clear hC
        refine lv_sipush (v := 128) hx hb dX2_worstSpell_40 (by decide) ?_
        refine lv_isub hx hb dX2_worstSpell_43 ?_
        refine lv_iadd hx hb dX2_worstSpell_44 ?_
        obtain ⟨v7, ev7, h⟩ := lt_el h
        refine lv_top' ev7 ?_
        refine lv_istore (lv' := [(8, .int v7), (1, .ref (q1 0)), (2, .int x2), (3, .int x3), (4, .int x4), (5, .int x5), (6, .int x6), (7, .int x7), (9, .int x9)]) hx hb dX2_worstSpell_45 hl (by decide) rfl (fun ls hl => ?_)
        refine lv_iload hx hb dX2_worstSpell_47 (lv_at hl 0 rfl) ?_
        refine lv_iload hx hb dX2_worstSpell_49 (lv_at hl 4 rfl) ?_
        refine lv_icmp_le (tgt := 71) hx hb dX2_worstSpell_51 (by decide) (fun c8 => ?_) (fun c8 => ?_)
        · have h := it_t h c8
          obtain ⟨v9, ev9, h⟩ := lt_el h
          refine lv_iinc (v := v9) (lv' := [(9, .int v9), (8, .int v7), (1, .ref (q1 0)), (2, .int x2), (3, .int x3), (4, .int x4), (5, .int x5), (6, .int x6), (7, .int x7)]) hx hb dX2_worstSpell_71 hl (k := 8) rfl (by rw [ev9]; rfl) (by decide) rfl (fun ls hl => ?_)
          refine lv_goto (tgt := 26) hx hb dX2_worstSpell_74 (by decide) ?_
          exact ih x4 x5 x6 x7 v7 v9 _ _ _ h hP hD hS (lv_sub hl [2, 3, 4, 5, 6, 7, 8, 1, 0] rfl)
        · have h := it_f h c8
          refine lv_iload hx hb dX2_worstSpell_54 (lv_at hl 0 rfl) ?_
          refine lv_istore (lv' := [(4, .int v7), (8, .int v7), (1, .ref (q1 0)), (2, .int x2), (3, .int x3), (5, .int x5), (6, .int x6), (7, .int x7), (9, .int x9)]) hx hb dX2_worstSpell_56 hl (by decide) rfl (fun ls hl => ?_)
          refine lv_iload hx hb dX2_worstSpell_58 (lv_at hl 7 rfl) ?_
          refine lv_istore (lv' := [(5, .int x7), (4, .int v7), (8, .int v7), (1, .ref (q1 0)), (2, .int x2), (3, .int x3), (6, .int x6), (7, .int x7), (9, .int x9)]) hx hb dX2_worstSpell_60 hl (by decide) rfl (fun ls hl => ?_)
          refine lv_iload hx hb dX2_worstSpell_62 (lv_at hl 8 rfl) ?_
          refine lv_iload hx hb dX2_worstSpell_64 (lv_at hl 7 rfl) ?_
          refine lv_isub hx hb dX2_worstSpell_66 ?_
          refine lv_iconst (v := 1) hx hb dX2_worstSpell_67 (by decide) ?_
          refine lv_iadd hx hb dX2_worstSpell_68 ?_
          obtain ⟨v10, ev10, h⟩ := lt_el h
          refine lv_top' ev10 ?_
          refine lv_istore (lv' := [(6, .int v10), (5, .int x7), (4, .int v7), (8, .int v7), (1, .ref (q1 0)), (2, .int x2), (3, .int x3), (7, .int x7), (9, .int x9)]) hx hb dX2_worstSpell_69 hl (by decide) rfl (fun ls hl => ?_)
          obtain ⟨v11, ev11, h⟩ := lt_el h
          refine lv_iinc (v := v11) (lv' := [(9, .int v11), (6, .int v10), (5, .int x7), (4, .int v7), (8, .int v7), (1, .ref (q1 0)), (2, .int x2), (3, .int x3), (7, .int x7)]) hx hb dX2_worstSpell_71 hl (k := 8) rfl (by rw [ev11]; rfl) (by decide) rfl (fun ls hl => ?_)
          refine lv_goto (tgt := 26) hx hb dX2_worstSpell_74 (by decide) ?_
          exact ih v7 x7 v10 x7 v7 v11 _ _ _ h hP hD hS (lv_sub hl [5, 6, 7, 3, 2, 1, 8, 4, 0] rfl)
  have N13 : ∀ (n : Nat) (x4 : Int32) (x5 : Int32) (x6 : Int32) (x7 : Int32) (H : Heap) (locs : List Loc) (ls : Array Slot), f_X2_worstSpell_n13 S0 S1 x2 x3 n x4 x5 x6 x7 = some Rv → va_P E.1 vwCl (cw_X2 E q0 S0 ++ (cw_X8 E q1 S1)) H → va_D A (cw_X2 E q0 S0 ++ (cw_X8 E q1 S1)) → va_S A s.heap H locs → lv_has ls 10 [(1, .ref (q1 0)), (2, .int x2), (3, .int x3), (4, .int x4), (5, .int x5), (6, .int x6), (7, .int x7)] → W p l e ({ frames := 2, cells := 0, slots := 0, locals := 43 } : Room) s m ar below meth c H locs 0 0 QM (F0 m 13 ls []) := by
    intro n
    induction n with
    | zero => intro x4 x5 x6 x7 H locs ls h; exact nn_el h
    | succ n ih =>
      intro x4 x5 x6 x7 H locs ls h hP hD hS hl
      refine lv_iload hx hb dX2_worstSpell_13 (lv_at hl 6 rfl) ?_
      refine lv_iload_n hx hb dX2_worstSpell_15 rfl (lv_at hl 1 rfl) ?_
      refine lv_icmp_ge (tgt := 83) hx hb dX2_worstSpell_16 (by decide) (fun c1 => ?_) (fun c1 => ?_)
      · have h := it_t h c1
        refine lv_iload_n hx hb dX2_worstSpell_83 rfl (lv_at hl 2 rfl) ?_
        refine lv_if_ne (tgt := 90) hx hb dX2_worstSpell_84 (by decide) (fun c2 => ?_) (fun c2 => ?_)
        · have h := it_f h c2
          refine lv_iload_n hx hb dX2_worstSpell_90 rfl (lv_at hl 2 rfl) ?_
          refine lv_iconst (v := 1) hx hb dX2_worstSpell_91 (by decide) ?_
          refine lv_icmp_ne (tgt := 100) hx hb dX2_worstSpell_92 (by decide) (fun c3 => ?_) (fun c3 => ?_)
          · have h := it_f h c3
            refine lv_iload hx hb dX2_worstSpell_100 (lv_at hl 5 rfl) ?_
            exact RT x6 _ _ _ _ h rfl hP hD hS dX2_worstSpell_102
          · have h := it_t h c3
            refine lv_iload hx hb dX2_worstSpell_95 (lv_at hl 4 rfl) ?_
            refine lv_goto (tgt := 102) hx hb dX2_worstSpell_97 (by decide) ?_
            exact RT x5 _ _ _ _ h rfl hP hD hS dX2_worstSpell_102
        · have h := it_t h c2
          refine lv_iload hx hb dX2_worstSpell_87 (lv_at hl 3 rfl) ?_
          exact RT x4 _ _ _ _ h rfl hP hD hS dX2_worstSpell_89
      · have h := it_f h c1
        refine lv_iconst (v := 0) hx hb dX2_worstSpell_19 (by decide) ?_
        refine lv_istore (lv' := [(8, .int 0), (1, .ref (q1 0)), (2, .int x2), (3, .int x3), (4, .int x4), (5, .int x5), (6, .int x6), (7, .int x7)]) hx hb dX2_worstSpell_20 hl (by decide) rfl (fun ls hl => ?_)
        refine lv_iload hx hb dX2_worstSpell_22 (lv_at hl 7 rfl) ?_
        refine lv_istore (lv' := [(9, .int x7), (8, .int 0), (1, .ref (q1 0)), (2, .int x2), (3, .int x3), (4, .int x4), (5, .int x5), (6, .int x6), (7, .int x7)]) hx hb dX2_worstSpell_24 hl (by decide) rfl (fun ls hl => ?_)
        exact N26 (f_X2_worstSpell_n13 S0 S1 x2 x3 n) ih fu x4 x5 x6 x7 0 x7 _ _ _ h hP hD hS (lv_sub hl [2, 3, 4, 5, 6, 7, 8, 1, 0] rfl)
  obtain ⟨H, eH⟩ : ∃ z, z = s.heap := ⟨_, rfl⟩
  rw [← eH]
  have hP : va_P E.1 vwCl (cw_X2 E q0 S0 ++ (cw_X8 E q1 S1)) H := by rw [eH]; exact hP
  have hS : va_S A s.heap H [] := by rw [eH]; exact hS
  clear eH
  obtain ⟨locs, el⟩ : ∃ z : List Loc, z = [] := ⟨_, rfl⟩
  rw [← el] at hS ⊢
  clear el
  refine lv_ldc hx hb hown (hg _ wcn_X2_57) dX2_worstSpell_0 ?_
  refine lv_istore (lv' := [(4, .int (-1000000)), (0, .ref (q0 0)), (1, .ref (q1 0)), (2, .int x2), (3, .int x3)]) hx hb dX2_worstSpell_2 hl (by decide) rfl (fun ls hl => ?_)
  refine lv_iconst (v := 0) hx hb dX2_worstSpell_4 (by decide) ?_
  refine lv_istore (lv' := [(5, .int 0), (4, .int (-1000000)), (0, .ref (q0 0)), (1, .ref (q1 0)), (2, .int x2), (3, .int x3)]) hx hb dX2_worstSpell_5 hl (by decide) rfl (fun ls hl => ?_)
  refine lv_iconst (v := 0) hx hb dX2_worstSpell_7 (by decide) ?_
  refine lv_istore (lv' := [(6, .int 0), (5, .int 0), (4, .int (-1000000)), (0, .ref (q0 0)), (1, .ref (q1 0)), (2, .int x2), (3, .int x3)]) hx hb dX2_worstSpell_8 hl (by decide) rfl (fun ls hl => ?_)
  refine lv_iconst (v := 0) hx hb dX2_worstSpell_10 (by decide) ?_
  refine lv_istore (lv' := [(7, .int 0), (6, .int 0), (5, .int 0), (4, .int (-1000000)), (0, .ref (q0 0)), (1, .ref (q1 0)), (2, .int x2), (3, .int x3)]) hx hb dX2_worstSpell_11 hl (by decide) rfl (fun ls hl => ?_)
  exact N13 fu (-1000000) 0 0 0 _ _ _ h hP hD hS (lv_sub hl [5, 6, 7, 3, 2, 1, 0] rfl)
