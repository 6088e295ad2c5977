theorem dX12_longestRow_0 : decode cX12_longestRow 0 = .ok (.iconst 0, 1) := by decide +kernel
theorem dX12_longestRow_1 : decode cX12_longestRow 1 = .ok (.istore_n 1, 1) := by decide +kernel
theorem dX12_longestRow_2 : decode cX12_longestRow 2 = .ok (.iconst 0, 1) := by decide +kernel
theorem dX12_longestRow_3 : decode cX12_longestRow 3 = .ok (.istore_n 2, 1) := by decide +kernel
theorem dX12_longestRow_4 : decode cX12_longestRow 4 = .ok (.iconst 0, 1) := by decide +kernel
theorem dX12_longestRow_5 : decode cX12_longestRow 5 = .ok (.istore_n 3, 1) := by decide +kernel
theorem dX12_longestRow_6 : decode cX12_longestRow 6 = .ok (.iload_n 3, 1) := by decide +kernel
theorem dX12_longestRow_7 : decode cX12_longestRow 7 = .ok (.aload_n 0, 1) := by decide +kernel
theorem dX12_longestRow_8 : decode cX12_longestRow 8 = .ok (.getfield 369, 3) := by decide +kernel
theorem dX12_longestRow_11 : decode cX12_longestRow 11 = .ok (.if_icmp .ge 44, 3) := by decide +kernel
theorem dX12_longestRow_14 : decode cX12_longestRow 14 = .ok (.iload_n 3, 1) := by decide +kernel
theorem dX12_longestRow_15 : decode cX12_longestRow 15 = .ok (.ifCond .le 26, 3) := by decide +kernel
theorem dX12_longestRow_18 : decode cX12_longestRow 18 = .ok (.aload_n 0, 1) := by decide +kernel
theorem dX12_longestRow_19 : decode cX12_longestRow 19 = .ok (.getfield 80, 3) := by decide +kernel
theorem dX12_longestRow_22 : decode cX12_longestRow 22 = .ok (.iload_n 3, 1) := by decide +kernel
theorem dX12_longestRow_23 : decode cX12_longestRow 23 = .ok (.iaload, 1) := by decide +kernel
theorem dX12_longestRow_24 : decode cX12_longestRow 24 = .ok (.aload_n 0, 1) := by decide +kernel
theorem dX12_longestRow_25 : decode cX12_longestRow 25 = .ok (.getfield 80, 3) := by decide +kernel
theorem dX12_longestRow_28 : decode cX12_longestRow 28 = .ok (.iload_n 3, 1) := by decide +kernel
theorem dX12_longestRow_29 : decode cX12_longestRow 29 = .ok (.iconst 1, 1) := by decide +kernel
theorem dX12_longestRow_30 : decode cX12_longestRow 30 = .ok (.isub, 1) := by decide +kernel
theorem dX12_longestRow_31 : decode cX12_longestRow 31 = .ok (.iaload, 1) := by decide +kernel
theorem dX12_longestRow_32 : decode cX12_longestRow 32 = .ok (.if_icmp .ne 9, 3) := by decide +kernel
theorem dX12_longestRow_35 : decode cX12_longestRow 35 = .ok (.iload_n 2, 1) := by decide +kernel
theorem dX12_longestRow_36 : decode cX12_longestRow 36 = .ok (.iconst 1, 1) := by decide +kernel
theorem dX12_longestRow_37 : decode cX12_longestRow 37 = .ok (.iadd, 1) := by decide +kernel
theorem dX12_longestRow_38 : decode cX12_longestRow 38 = .ok (.goto 4, 3) := by decide +kernel
theorem dX12_longestRow_41 : decode cX12_longestRow 41 = .ok (.iconst 1, 1) := by decide +kernel
theorem dX12_longestRow_42 : decode cX12_longestRow 42 = .ok (.istore_n 2, 1) := by decide +kernel
theorem dX12_longestRow_43 : decode cX12_longestRow 43 = .ok (.iload_n 1, 1) := by decide +kernel
theorem dX12_longestRow_44 : decode cX12_longestRow 44 = .ok (.iload_n 2, 1) := by decide +kernel
theorem dX12_longestRow_45 : decode cX12_longestRow 45 = .ok (.invokestatic 129, 3) := by decide +kernel
theorem dX12_longestRow_48 : decode cX12_longestRow 48 = .ok (.istore_n 1, 1) := by decide +kernel
theorem dX12_longestRow_49 : decode cX12_longestRow 49 = .ok (.iinc 3 1, 3) := by decide +kernel
theorem dX12_longestRow_52 : decode cX12_longestRow 52 = .ok (.goto (-46), 3) := by decide +kernel
theorem dX12_longestRow_55 : decode cX12_longestRow 55 = .ok (.iload_n 1, 1) := by decide +kernel
theorem dX12_longestRow_56 : decode cX12_longestRow 56 = .ok (.ireturn, 1) := by decide +kernel
def f_X12_longestRow_n6 (S0 : Gr) : Nat → Int32 → Int32 → Int32 → Option (Int32)
  | 0, _, _, _ => none
  | n + 1, x1, x2, x3 => if (S0.1 44) ≤ x3 then (some x1) else (if x3 ≤ 0 then ((f_X12_max x1 1).bind fun u3 => lt' (x3 + 1) fun v4 => f_X12_longestRow_n6 S0 n u3 1 v4) else (rd' (S0.2 41) 64 x3 fun v5 => rd' (S0.2 41) 64 (x3 - 1) fun v6 => if v5 = v6 then (lt' ((x2 + 1)) fun v10 => (f_X12_max x1 v10).bind fun u11 => lt' (x3 + 1) fun v12 => f_X12_longestRow_n6 S0 n u11 v10 v12) else ((f_X12_max x1 1).bind fun u8 => lt' (x3 + 1) fun v9 => f_X12_longestRow_n6 S0 n u8 1 v9)))
def f_X12_longestRow (S0 : Gr) : Option (Int32) := f_X12_longestRow_n6 S0 fu 0 0 0
set_option maxHeartbeats 4000000 in
set_option maxRecDepth 100000 in
theorem c_X12_longestRow (l : Launch) (E : Ec) (q0 : Nat → Nat) (sz : Nat) (S0 : Gr) (Rv : Int32) (h : f_X12_longestRow S0 = some Rv) : Met l yX12_longestRow (wsM (.code yX12_longestRow cX12_longestRow 4 (some .int))) ({ frames := 1, cells := 0, slots := 0, locals := 21 } : Room) (va_Pc [.ref (q0 0)] (ctP E (cw_X12 E q0 S0) sz)) (ctI E (cw_X12 E q0 S0) (cw_X12 E q0 S0) sz Rv) 0 0 (va_A (cw_X12 E q0 S0) sz) := by
  refine ct_metI (by decide) (Nat.le_of_ble_eq_true rfl) ?_
  intro p e s m ar below meth c A QM hx hb hml hown hg X hP hD hS RET ls hl
  have hown : s.vm.findClass RX12 = some m.cls := hown
  have hl : lv_has ls 4 [(0, .ref (q0 0))] := hl
  have RT : ∀ (v : Int32) (H : Heap) (locs : List Loc) (ls : Array Slot) (pc : Nat), some v = some Rv → narrow .int (.int v) = .int v → va_P E.1 vwCl (cw_X12 E q0 S0) H → va_D A (cw_X12 E q0 S0) → va_S A s.heap H locs → decode cX12_longestRow pc = .ok (.ireturn, 1) → W p l e ({ frames := 1, cells := 0, slots := 0, locals := 21 } : Room) s m ar below meth c H locs 0 0 QM (F0 m pc ls [.int v]) := by
    intro v H locs ls pc e hn hP hD hS d
    obtain rfl := sm_e e
    exact RET H locs pc ls hn hP hD hS d
  clear RET
  have N6 : ∀ (n : Nat) (x1 : Int32) (x2 : Int32) (x3 : Int32) (H : Heap) (locs : List Loc) (ls : Array Slot), f_X12_longestRow_n6 S0 n x1 x2 x3 = some Rv → va_P E.1 vwCl (cw_X12 E q0 S0) H → va_D A (cw_X12 E q0 S0) → va_S A s.heap H locs → lv_has ls 4 [(0, .ref (q0 0)), (1, .int x1), (2, .int x2), (3, .int x3)] → W p l e ({ frames := 1, cells := 0, slots := 0, locals := 21 } : Room) s m ar below meth c H locs 0 0 QM (F0 m 6 ls []) := by
    intro n
    induction n with
    | zero => intro x1 x2 x3 H locs ls h; exact nn_el h
    | succ n ih =>
      intro x1 x2 x3 H locs ls h hP hD hS hl
      refine lv_iload_n hx hb dX12_longestRow_6 rfl (lv_at hl 3 rfl) ?_
      refine lv_aload_n hx hb dX12_longestRow_7 rfl (lv_at hl 0 rfl) ?_
      refine va_get (D := E.1) (ci := 11) (v := .int (S0.1 44)) (C := RX12) (T := TX12) (N := 57) hx hb hg in_X12 hown X.1 hP 0 rfl rfl 44 (by decide) (hg _ wf_X12_369) (fun _ h9 => h9) rfl dX12_longestRow_8 ?_
      refine lv_icmp_ge (tgt := 55) hx hb dX12_longestRow_11 (by decide) (fun c1 => ?_) (fun c1 => ?_)
      · have h := it_t h c1
        refine lv_iload_n hx hb dX12_longestRow_55 rfl (lv_at hl 1 rfl) ?_
        exact RT x1 _ _ _ _ h rfl hP hD hS dX12_longestRow_56
      · have h := it_f h c1
        refine lv_iload_n hx hb dX12_longestRow_14 rfl (lv_at hl 3 rfl) ?_
        refine lv_if_le (tgt := 41) hx hb dX12_longestRow_15 (by decide) (fun c2 => ?_) (fun c2 => ?_)
        · have h := it_t h c2
          refine lv_iconst (v := 1) hx hb dX12_longestRow_41 (by decide) ?_
          refine lv_istore_n (lv' := [(2, .int 1), (0, .ref (q0 0)), (1, .int x1), (3, .int x3)]) hx hb dX12_longestRow_42 rfl hl (by decide) rfl (fun ls hl => ?_)
          refine lv_iload_n hx hb dX12_longestRow_43 rfl (lv_at hl 2 rfl) ?_
          refine lv_iload_n hx hb dX12_longestRow_44 rfl (lv_at hl 0 rfl) ?_
          obtain ⟨u3, hc, h⟩ := bd_el h
          refine ct_iN X hP hD hS (va_runS (As := [.int x1, .int 1]) (rest := []) ⟨hx, hb, hml, hown, hg⟩ (c_X12_max l E  H.size x1 1 u3 hc) (va_cwS 2 hg (gwS wm_X12_129 wst_X12_max wini_X12 wco_X12_max) rfl rfl rfl (by decide +kernel) ⟨Nat.le_of_ble_eq_true rfl, Nat.le_of_ble_eq_true rfl⟩) ⟨ct_blind, ct_preN X hS _⟩ rfl rfl hl.1 rfl (lv_room (Nat.le_of_ble_eq_true rfl)) dX12_longestRow_45 ⟨Nat.zero_le _, Nat.zero_le _⟩) (fun H locs hP hD hS => ?_)
          refine lv_istore_n (lv' := [(1, .int u3), (2, .int 1), (0, .ref (q0 0)), (3, .int x3)]) hx hb dX12_longestRow_48 rfl hl (by decide) rfl (fun ls hl => ?_)
          obtain ⟨v4, ev4, h⟩ := lt_el h
          refine lv_iinc (v := v4) (lv' := [(3, .int v4), (1, .int u3), (2, .int 1), (0, .ref (q0 0))]) hx hb dX12_longestRow_49 hl (k := 3) rfl (by rw [ev4]; rfl) (by decide) rfl (fun ls hl => ?_)
          refine lv_goto (tgt := 6) hx hb dX12_longestRow_52 (by decide) ?_
          exact ih u3 1 v4 _ _ _ h hP hD hS (lv_sub hl [3, 1, 2, 0] rfl)
        · have h := it_f h c2
          refine lv_aload_n hx hb dX12_longestRow_18 rfl (lv_at hl 0 rfl) ?_
          refine va_get (D := E.1) (ci := 11) (v := .ref (q0 24)) (C := RX12) (T := TX12) (N := 57) hx hb hg in_X12 hown X.1 hP 0 rfl rfl 41 (by decide) (hg _ wf_X12_80) (fun _ h9 => h9) rfl dX12_longestRow_19 ?_
          refine lv_iload_n hx hb dX12_longestRow_22 rfl (lv_at hl 3 rfl) ?_
          obtain ⟨hi, v5, ev5, h⟩ := rd_el h
          refine va_iald hx hb X.1 hP 24 0 rfl rfl hi dX12_longestRow_23 ?_
          refine lv_top' ev5 ?_
          refine lv_aload_n hx hb dX12_longestRow_24 rfl (lv_at hl 0 rfl) ?_
          refine va_get (D := E.1) (ci := 11) (v := .ref (q0 24)) (C := RX12) (T := TX12) (N := 57) hx hb hg in_X12 hown X.1 hP 0 rfl rfl 41 (by decide) (hg _ wf_X12_80) (fun _ h9 => h9) rfl dX12_longestRow_25 ?_
          refine lv_iload_n hx hb dX12_longestRow_28 rfl (lv_at hl 3 rfl) ?_
          refine lv_iconst (v := 1) hx hb dX12_longestRow_29 (by decide) ?_
          refine lv_isub hx hb dX12_longestRow_30 ?_
          obtain ⟨hi, v6, ev6, h⟩ := rd_el h
          refine va_iald hx hb X.1 hP 24 0 rfl rfl hi dX12_longestRow_31 ?_
          refine lv_top' ev6 ?_
          refine lv_icmp_ne (tgt := 41) hx hb dX12_longestRow_32 (by decide) (fun c7 => ?_) (fun c7 => ?_)
          · have h := it_f h c7
            refine lv_iconst (v := 1) hx hb dX12_longestRow_41 (by decide) ?_
            refine lv_istore_n (lv' := [(2, .int 1), (0, .ref (q0 0)), (1, .int x1), (3, .int x3)]) hx hb dX12_longestRow_42 rfl hl (by decide) rfl (fun ls hl => ?_)
            refine lv_iload_n hx hb dX12_longestRow_43 rfl (lv_at hl 2 rfl) ?_
            refine lv_iload_n hx hb dX12_longestRow_44 rfl (lv_at hl 0 rfl) ?_
            obtain ⟨u8, hc, h⟩ := bd_el h
            refine ct_iN X hP hD hS (va_runS (As := [.int x1, .int 1]) (rest := []) ⟨hx, hb, hml, hown, hg⟩ (c_X12_max l E  H.size x1 1 u8 hc) (va_cwS 2 hg (gwS wm_X12_129 wst_X12_max wini_X12 wco_X12_max) rfl rfl rfl (by decide +kernel) ⟨Nat.le_of_ble_eq_true rfl, Nat.le_of_ble_eq_true rfl⟩) ⟨ct_blind, ct_preN X hS _⟩ rfl rfl hl.1 rfl (lv_room (Nat.le_of_ble_eq_true rfl)) dX12_longestRow_45 ⟨Nat.zero_le _, Nat.zero_le _⟩) (fun H locs hP hD hS => ?_)
            refine lv_istore_n (lv' := [(1, .int u8), (2, .int 1), (0, .ref (q0 0)), (3, .int x3)]) hx hb dX12_longestRow_48 rfl hl (by decide) rfl (fun ls hl => ?_)
            obtain ⟨v9, ev9, h⟩ := lt_el h
            refine lv_iinc (v := v9) (lv' := [(3, .int v9), (1, .int u8), (2, .int 1), (0, .ref (q0 0))]) hx hb dX12_longestRow_49 hl (k := 3) rfl (by rw [ev9]; rfl) (by decide) rfl (fun ls hl => ?_)
            refine lv_goto (tgt := 6) hx hb dX12_longestRow_52 (by decide) ?_
            exact ih u8 1 v9 _ _ _ h hP hD hS (lv_sub hl [3, 1, 2, 0] rfl)
          · have h := it_t h c7
            refine lv_iload_n hx hb dX12_longestRow_35 rfl (lv_at hl 2 rfl) ?_
            refine lv_iconst (v := 1) hx hb dX12_longestRow_36 (by decide) ?_
            refine lv_iadd hx hb dX12_longestRow_37 ?_
            refine lv_goto (tgt := 42) hx hb dX12_longestRow_38 (by decide) ?_
            obtain ⟨v10, ev10, h⟩ := lt_el h
            refine lv_top' ev10 ?_
            refine lv_istore_n (lv' := [(2, .int v10), (0, .ref (q0 0)), (1, .int x1), (3, .int x3)]) hx hb dX12_longestRow_42 rfl hl (by decide) rfl (fun ls hl => ?_)
            refine lv_iload_n hx hb dX12_longestRow_43 rfl (lv_at hl 2 rfl) ?_
            refine lv_iload_n hx hb dX12_longestRow_44 rfl (lv_at hl 0 rfl) ?_
            obtain ⟨u11, hc, h⟩ := bd_el h
            refine ct_iN X hP hD hS (va_runS (As := [.int x1, .int v10]) (rest := []) ⟨hx, hb, hml, hown, hg⟩ (c_X12_max l E  H.size x1 v10 u11 hc) (va_cwS 2 hg (gwS wm_X12_129 wst_X12_max wini_X12 wco_X12_max) rfl rfl rfl (by decide +kernel) ⟨Nat.le_of_ble_eq_true rfl, Nat.le_of_ble_eq_true rfl⟩) ⟨ct_blind, ct_preN X hS _⟩ rfl rfl hl.1 rfl (lv_room (Nat.le_of_ble_eq_true rfl)) dX12_longestRow_45 ⟨Nat.zero_le _, Nat.zero_le _⟩) (fun H locs hP hD hS => ?_)
            refine lv_istore_n (lv' := [(1, .int u11), (2, .int v10), (0, .ref (q0 0)), (3, .int x3)]) hx hb dX12_longestRow_48 rfl hl (by decide) rfl (fun ls hl => ?_)
            obtain ⟨v12, ev12, h⟩ := lt_el h
            refine lv_iinc (v := v12) (lv' := [(3, .int v12), (1, .int u11), (2, .int v10), (0, .ref (q0 0))]) hx hb dX12_longestRow_49 hl (k := 3) rfl (by rw [ev12]; rfl) (by decide) rfl (fun ls hl => ?_)
            refine lv_goto (tgt := 6) hx hb dX12_longestRow_52 (by decide) ?_
            exact ih u11 v10 v12 _ _ _ h hP hD hS (lv_sub hl [3, 1, 2, 0] rfl)
  obtain ⟨H, eH⟩ : ∃ z, z = s.heap := ⟨_, rfl⟩
  rw [← eH]
  have hP : va_P E.1 vwCl (cw_X12 E q0 S0) H := by rw [eH]; exact hP
  have hS : va_S A s.heap H [] := by rw [eH]; exact hS
  clear eH
  obtain ⟨locs, el⟩ : ∃ z : List Loc, z = [] := ⟨_, rfl⟩
  rw [← el] at hS ⊢
  clear el
  refine lv_iconst (v := 0) hx hb dX12_longestRow_0 (by decide) ?_
  refine lv_istore_n (lv' := [(1, .int 0), (0, .ref (q0 0))]) hx hb dX12_longestRow_1 rfl hl (by decide) rfl (fun ls hl => ?_)
  refine lv_iconst (v := 0) hx hb dX12_longestRow_2 (by decide) ?_
  refine lv_istore_n (lv' := [(2, .int 0), (1, .int 0), (0, .ref (q0 0))]) hx hb dX12_longestRow_3 rfl hl (by decide) rfl (fun ls hl => ?_)
  refine lv_iconst (v := 0) hx hb dX12_longestRow_4 (by decide) ?_
  refine lv_istore_n (lv' := [(3, .int 0), (2, .int 0), (1, .int 0), (0, .ref (q0 0))]) hx hb dX12_longestRow_5 rfl hl (by decide) rfl (fun ls hl => ?_)
  exact N6 fu 0 0 0 _ _ _ h hP hD hS (lv_sub hl [3, 2, 1, 0] rfl)
theorem dX12_oftenOf_0 : decode cX12_oftenOf 0 = .ok (.iconst 0, 1) := by decide +kernel
theorem dX12_oftenOf_1 : decode cX12_oftenOf 1 = .ok (.istore_n 2, 1) := by decide +kernel
theorem dX12_oftenOf_2 : decode cX12_oftenOf 2 = .ok (.iconst 0, 1) := by decide +kernel
theorem dX12_oftenOf_3 : decode cX12_oftenOf 3 = .ok (.istore_n 3, 1) := by decide +kernel
theorem dX12_oftenOf_4 : decode cX12_oftenOf 4 = .ok (.iload_n 3, 1) := by decide +kernel
theorem dX12_oftenOf_5 : decode cX12_oftenOf 5 = .ok (.aload_n 0, 1) := by decide +kernel
theorem dX12_oftenOf_6 : decode cX12_oftenOf 6 = .ok (.getfield 369, 3) := by decide +kernel
theorem dX12_oftenOf_9 : decode cX12_oftenOf 9 = .ok (.if_icmp .ge 23, 3) := by decide +kernel
theorem dX12_oftenOf_12 : decode cX12_oftenOf 12 = .ok (.aload_n 0, 1) := by decide +kernel
theorem dX12_oftenOf_13 : decode cX12_oftenOf 13 = .ok (.getfield 80, 3) := by decide +kernel
theorem dX12_oftenOf_16 : decode cX12_oftenOf 16 = .ok (.iload_n 3, 1) := by decide +kernel
theorem dX12_oftenOf_17 : decode cX12_oftenOf 17 = .ok (.iaload, 1) := by decide +kernel
theorem dX12_oftenOf_18 : decode cX12_oftenOf 18 = .ok (.iload_n 1, 1) := by decide +kernel
theorem dX12_oftenOf_19 : decode cX12_oftenOf 19 = .ok (.if_icmp .ne 7, 3) := by decide +kernel
theorem dX12_oftenOf_22 : decode cX12_oftenOf 22 = .ok (.iload_n 2, 1) := by decide +kernel
theorem dX12_oftenOf_23 : decode cX12_oftenOf 23 = .ok (.iconst 1, 1) := by decide +kernel
theorem dX12_oftenOf_24 : decode cX12_oftenOf 24 = .ok (.iadd, 1) := by decide +kernel
theorem dX12_oftenOf_25 : decode cX12_oftenOf 25 = .ok (.istore_n 2, 1) := by decide +kernel
theorem dX12_oftenOf_26 : decode cX12_oftenOf 26 = .ok (.iinc 3 1, 3) := by decide +kernel
theorem dX12_oftenOf_29 : decode cX12_oftenOf 29 = .ok (.goto (-25), 3) := by decide +kernel
theorem dX12_oftenOf_32 : decode cX12_oftenOf 32 = .ok (.iload_n 2, 1) := by decide +kernel
theorem dX12_oftenOf_33 : decode cX12_oftenOf 33 = .ok (.ireturn, 1) := by decide +kernel
def f_X12_oftenOf_n4 (S0 : Gr) (x1 : Int32) : Nat → Int32 → Int32 → Option (Int32)
  | 0, _, _ => none
  | n + 1, x2, x3 => if (S0.1 44) ≤ x3 then (some x2) else (rd' (S0.2 41) 64 x3 fun v2 => if v2 = x1 then (lt' ((x2 + 1)) fun v5 => lt' (x3 + 1) fun v6 => f_X12_oftenOf_n4 S0 x1 n v5 v6) else (lt' (x3 + 1) fun v4 => f_X12_oftenOf_n4 S0 x1 n x2 v4))
def f_X12_oftenOf (S0 : Gr) (x1 : Int32) : Option (Int32) := f_X12_oftenOf_n4 S0 x1 fu 0 0
set_option maxHeartbeats 4000000 in
set_option maxRecDepth 100000 in
theorem c_X12_oftenOf (l : Launch) (E : Ec) (q0 : Nat → Nat) (sz : Nat) (S0 : Gr) (x1 : Int32) (Rv : Int32) (h : f_X12_oftenOf S0 x1 = some Rv) : Met l yX12_oftenOf (wsM (.code yX12_oftenOf cX12_oftenOf 4 (some .int))) ({ frames := 0, cells := 0, slots := 0, locals := 0 } : Room) (va_Pc [.ref (q0 0), .int x1] (ctP E (cw_X12 E q0 S0) sz)) (ctI E (cw_X12 E q0 S0) (cw_X12 E q0 S0) sz Rv) 0 0 (va_A (cw_X12 E q0 S0) sz) := by
  refine ct_metI (by decide) (Nat.le_of_ble_eq_true rfl) ?_
  intro p e s m ar below meth c A QM hx hb hml hown hg X hP hD hS RET ls hl
  have hown : s.vm.findClass RX12 = some m.cls := hown
  have hl : lv_has ls 4 [(0, .ref (q0 0)), (1, .int x1)] := hl
  have RT : ∀ (v : Int32) (H : Heap) (locs : List Loc) (ls : Array Slot) (pc : Nat), some v = some Rv → narrow .int (.int v) = .int v → va_P E.1 vwCl (cw_X12 E q0 S0) H → va_D A (cw_X12 E q0 S0) → va_S A s.heap H locs → decode cX12_oftenOf pc = .ok (.ireturn, 1) → W p l e ({ frames := 0, cells := 0, slots := 0, locals := 0 } : Room) s m ar below meth c H locs 0 0 QM (F0 m pc ls [.int v]) := by
    intro v H locs ls pc e hn hP hD hS d
    obtain rfl := sm_e e
    exact RET H locs pc ls hn hP hD hS d
  clear RET
  have N4 : ∀ (n : Nat) (x2 : Int32) (x3 : Int32) (H : Heap) (locs : List Loc) (ls : Array Slot), f_X12_oftenOf_n4 S0 x1 n x2 x3 = some Rv → va_P E.1 vwCl (cw_X12 E q0 S0) H → va_D A (cw_X12 E q0 S0) → va_S A s.heap H locs → lv_has ls 4 [(0, .ref (q0 0)), (1, .int x1), (2, .int x2), (3, .int x3)] → W p l e ({ frames := 0, cells := 0, slots := 0, locals := 0 } : Room) s m ar below meth c H locs 0 0 QM (F0 m 4 ls []) := by
    intro n
    induction n with
    | zero => intro x2 x3 H locs ls h; exact nn_el h
    | succ n ih =>
      intro x2 x3 H locs ls h hP hD hS hl
      refine lv_iload_n hx hb dX12_oftenOf_4 rfl (lv_at hl 3 rfl) ?_
      refine lv_aload_n hx hb dX12_oftenOf_5 rfl (lv_at hl 0 rfl) ?_
      refine va_get (D := E.1) (ci := 11) (v := .int (S0.1 44)) (C := RX12) (T := TX12) (N := 57) hx hb hg in_X12 hown X.1 hP 0 rfl rfl 44 (by decide) (hg _ wf_X12_369) (fun _ h9 => h9) rfl dX12_oftenOf_6 ?_
      refine lv_icmp_ge (tgt := 32) hx hb dX12_oftenOf_9 (by decide) (fun c1 => ?_) (fun c1 => ?_)
      · have h := it_t h c1
        refine lv_iload_n hx hb dX12_oftenOf_32 rfl (lv_at hl 2 rfl) ?_
        exact RT x2 _ _ _ _ h rfl hP hD hS dX12_oftenOf_33
      · have h := it_f h c1
        refine lv_aload_n hx hb dX12_oftenOf_12 rfl (lv_at hl 0 rfl) ?_
        refine va_get (D := E.1) (ci := 11) (v := .ref (q0 24)) (C := RX12) (T := TX12) (N := 57) hx hb hg in_X12 hown X.1 hP 0 rfl rfl 41 (by decide) (hg _ wf_X12_80) (fun _ h9 => h9) rfl dX12_oftenOf_13 ?_
        refine lv_iload_n hx hb dX12_oftenOf_16 rfl (lv_at hl 3 rfl) ?_
        obtain ⟨hi, v2, ev2, h⟩ := rd_el h
        refine va_iald hx hb X.1 hP 24 0 rfl rfl hi dX12_oftenOf_17 ?_
        refine lv_top' ev2 ?_
        refine lv_iload_n hx hb dX12_oftenOf_18 rfl (lv_at hl 1 rfl) ?_
        refine lv_icmp_ne (tgt := 26) hx hb dX12_oftenOf_19 (by decide) (fun c3 => ?_) (fun c3 => ?_)
        · have h := it_f h c3
          obtain ⟨v4, ev4, h⟩ := lt_el h
          refine lv_iinc (v := v4) (lv' := [(3, .int v4), (0, .ref (q0 0)), (1, .int x1), (2, .int x2)]) hx hb dX12_oftenOf_26 hl (k := 3) rfl (by rw [ev4]; rfl) (by decide) rfl (fun ls hl => ?_)
          refine lv_goto (tgt := 4) hx hb dX12_oftenOf_29 (by decide) ?_
          exact ih x2 v4 _ _ _ h hP hD hS (lv_sub hl [1, 2, 3, 0] rfl)
        · have h := it_t h c3
          refine lv_iload_n hx hb dX12_oftenOf_22 rfl (lv_at hl 2 rfl) ?_
          refine lv_iconst (v := 1) hx hb dX12_oftenOf_23 (by decide) ?_
          refine lv_iadd hx hb dX12_oftenOf_24 ?_
          obtain ⟨v5, ev5, h⟩ := lt_el h
          refine lv_top' ev5 ?_
          refine lv_istore_n (lv' := [(2, .int v5), (0, .ref (q0 0)), (1, .int x1), (3, .int x3)]) hx hb dX12_oftenOf_25 rfl hl (by decide) rfl (fun ls hl => ?_)
          obtain ⟨v6, ev6, h⟩ := lt_el h
          refine lv_iinc (v := v6) (lv' := [(3, .int v6), (2, .int v5), (0, .ref (q0 0)), (1, .int x1)]) hx hb dX12_oftenOf_26 hl (k := 3) rfl (by rw [ev6]; rfl) (by decide) rfl (fun ls hl => ?_)
          refine lv_goto (tgt := 4) hx hb dX12_oftenOf_29 (by decide) ?_
          exact ih v5 v6 _ _ _ h hP hD hS (lv_sub hl [2, 3, 1, 0] rfl)
  obtain ⟨H, eH⟩ : ∃ z, z = s.heap := ⟨_, rfl⟩
  rw [← eH]
  have hP : va_P E.1 vwCl (cw_X12 E q0 S0) H := by rw [eH]; exact hP
  have hS : va_S A s.heap H [] := by rw [eH]; exact hS
  clear eH
  obtain ⟨locs, el⟩ : ∃ z : List Loc, z = [] := ⟨_, rfl⟩
  rw [← el] at hS ⊢
  clear el
  refine lv_iconst (v := 0) hx hb dX12_oftenOf_0 (by decide) ?_
  refine lv_istore_n (lv' := [(2, .int 0), (0, .ref (q0 0)), (1, .int x1)]) hx hb dX12_oftenOf_1 rfl hl (by decide) rfl (fun ls hl => ?_)
  refine lv_iconst (v := 0) hx hb dX12_oftenOf_2 (by decide) ?_
  refine lv_istore_n (lv' := [(3, .int 0), (2, .int 0), (0, .ref (q0 0)), (1, .int x1)]) hx hb dX12_oftenOf_3 rfl hl (by decide) rfl (fun ls hl => ?_)
  exact N4 fu 0 0 _ _ _ h hP hD hS (lv_sub hl [2, 3, 1, 0] rfl)
theorem dX12_mostOften_0 : decode cX12_mostOften 0 = .ok (.iconst 0, 1) := by decide +kernel
theorem dX12_mostOften_1 : decode cX12_mostOften 1 = .ok (.istore_n 1, 1) := by decide +kernel
theorem dX12_mostOften_2 : decode cX12_mostOften 2 = .ok (.iconst 1, 1) := by decide +kernel
theorem dX12_mostOften_3 : decode cX12_mostOften 3 = .ok (.istore_n 2, 1) := by decide +kernel
theorem dX12_mostOften_4 : decode cX12_mostOften 4 = .ok (.iload_n 2, 1) := by decide +kernel
theorem dX12_mostOften_5 : decode cX12_mostOften 5 = .ok (.bipush 8, 2) := by decide +kernel
theorem dX12_mostOften_7 : decode cX12_mostOften 7 = .ok (.if_icmp .ge 24, 3) := by decide +kernel
theorem dX12_mostOften_10 : decode cX12_mostOften 10 = .ok (.aload_n 0, 1) := by decide +kernel
theorem dX12_mostOften_11 : decode cX12_mostOften 11 = .ok (.iload_n 2, 1) := by decide +kernel
theorem dX12_mostOften_12 : decode cX12_mostOften 12 = .ok (.invokevirtual 375, 3) := by decide +kernel
theorem dX12_mostOften_15 : decode cX12_mostOften 15 = .ok (.aload_n 0, 1) := by decide +kernel
theorem dX12_mostOften_16 : decode cX12_mostOften 16 = .ok (.iload_n 1, 1) := by decide +kernel
theorem dX12_mostOften_17 : decode cX12_mostOften 17 = .ok (.invokevirtual 375, 3) := by decide +kernel
theorem dX12_mostOften_20 : decode cX12_mostOften 20 = .ok (.if_icmp .le 5, 3) := by decide +kernel
theorem dX12_mostOften_23 : decode cX12_mostOften 23 = .ok (.iload_n 2, 1) := by decide +kernel
theorem dX12_mostOften_24 : decode cX12_mostOften 24 = .ok (.istore_n 1, 1) := by decide +kernel
theorem dX12_mostOften_25 : decode cX12_mostOften 25 = .ok (.iinc 2 1, 3) := by decide +kernel
theorem dX12_mostOften_28 : decode cX12_mostOften 28 = .ok (.goto (-24), 3) := by decide +kernel
theorem dX12_mostOften_31 : decode cX12_mostOften 31 = .ok (.iload_n 1, 1) := by decide +kernel
theorem dX12_mostOften_32 : decode cX12_mostOften 32 = .ok (.ireturn, 1) := by decide +kernel
def f_X12_mostOften_n4 (S0 : Gr) : Nat → Int32 → Int32 → Option (Int32)
  | 0, _, _ => none
  | n + 1, x1, x2 => if 8 ≤ x2 then (some x1) else ((f_X12_oftenOf S0 x2).bind fun u2 => (f_X12_oftenOf S0 x1).bind fun u3 => if u2 ≤ u3 then (lt' (x2 + 1) fun v5 => f_X12_mostOften_n4 S0 n x1 v5) else (lt' (x2 + 1) fun v6 => f_X12_mostOften_n4 S0 n x2 v6))
def f_X12_mostOften (S0 : Gr) : Option (Int32) := f_X12_mostOften_n4 S0 fu 0 1
set_option maxHeartbeats 4000000 in
set_option maxRecDepth 100000 in
theorem c_X12_mostOften (l : Launch) (E : Ec) (q0 : Nat → Nat) (sz : Nat) (S0 : Gr) (Rv : Int32) (h : f_X12_mostOften S0 = some Rv) : Met l yX12_mostOften (wsM (.code yX12_mostOften cX12_mostOften 3 (some .int))) ({ frames := 1, cells := 0, slots := 0, locals := 23 } : Room) (va_Pc [.ref (q0 0)] (ctP E (cw_X12 E q0 S0) sz)) (ctI E (cw_X12 E q0 S0) (cw_X12 E q0 S0) sz Rv) 0 0 (va_A (cw_X12 E q0 S0) sz) := by
  refine ct_metI (by decide) (Nat.le_of_ble_eq_true rfl) ?_
  intro p e s m ar below meth c A QM hx hb hml hown hg X hP hD hS RET ls hl
  have hown : s.vm.findClass RX12 = some m.cls := hown
  have hl : lv_has ls 3 [(0, .ref (q0 0))] := hl
  have RT : ∀ (v : Int32) (H : Heap) (locs : List Loc) (ls : Array Slot) (pc : Nat), some v = some Rv → narrow .int (.int v) = .int v → va_P E.1 vwCl (cw_X12 E q0 S0) H → va_D A (cw_X12 E q0 S0) → va_S A s.heap H locs → decode cX12_mostOften pc = .ok (.ireturn, 1) → W p l e ({ frames := 1, cells := 0, slots := 0, locals := 23 } : Room) s m ar below meth c H locs 0 0 QM (F0 m pc ls [.int v]) := by
    intro v H locs ls pc e hn hP hD hS d
    obtain rfl := sm_e e
    exact RET H locs pc ls hn hP hD hS d
  clear RET
  have N4 : ∀ (n : Nat) (x1 : Int32) (x2 : Int32) (H : Heap) (locs : List Loc) (ls : Array Slot), f_X12_mostOften_n4 S0 n x1 x2 = some Rv → va_P E.1 vwCl (cw_X12 E q0 S0) H → va_D A (cw_X12 E q0 S0) → va_S A s.heap H locs → lv_has ls 3 [(0, .ref (q0 0)), (1, .int x1), (2, .int x2)] → W p l e ({ frames := 1, cells := 0, slots := 0, locals := 23 } : Room) s m ar below meth c H locs 0 0 QM (F0 m 4 ls []) := by
    intro n
    induction n with
    | zero => intro x1 x2 H locs ls h; exact nn_el h
    | succ n ih =>
      intro x1 x2 H locs ls h hP hD hS hl
      refine lv_iload_n hx hb dX12_mostOften_4 rfl (lv_at hl 2 rfl) ?_
      refine lv_bipush (v := 8) hx hb dX12_mostOften_5 (by decide) ?_
      refine lv_icmp_ge (tgt := 31) hx hb dX12_mostOften_7 (by decide) (fun c1 => ?_) (fun c1 => ?_)
      · have h := it_t h c1
        refine lv_iload_n hx hb dX12_mostOften_31 rfl (lv_at hl 1 rfl) ?_
        exact RT x1 _ _ _ _ h rfl hP hD hS dX12_mostOften_32
      · have h := it_f h c1
        refine lv_aload_n hx hb dX12_mostOften_10 rfl (lv_at hl 0 rfl) ?_
        refine lv_iload_n hx hb dX12_mostOften_11 rfl (lv_at hl 2 rfl) ?_
        obtain ⟨u2, hc, h⟩ := bd_el h
        refine ct_iA (w1 := cw_X12 E q0 S0) X hP hD hS (va_runV (C := RX12) (As := [.int x2]) (rest := []) ⟨hx, hb, hml, hown, hg⟩ (c_X12_oftenOf l E q0 H.size S0 x2 u2 hc) (cwV 1 hg (gwV wm_X12_375 wi_X12_oftenOf wsl_X12_oftenOf wini_X12 wco_X12_oftenOf) rfl rfl rfl (by decide +kernel) ⟨Nat.le_of_ble_eq_true rfl, Nat.le_of_ble_eq_true rfl⟩) ⟨ct_blind, ct_rv X.1 hP 0 rfl rfl, ct_preA X hP hD hS _⟩ rfl rfl hl.1 rfl (lv_room (Nat.le_of_ble_eq_true rfl)) dX12_mostOften_12 ⟨Nat.zero_le _, Nat.zero_le _⟩) (fun H locs hP hD hS => ?_)
        refine lv_aload_n hx hb dX12_mostOften_15 rfl (lv_at hl 0 rfl) ?_
        refine lv_iload_n hx hb dX12_mostOften_16 rfl (lv_at hl 1 rfl) ?_
        obtain ⟨u3, hc, h⟩ := bd_el h
        refine ct_iA (w1 := cw_X12 E q0 S0) X hP hD hS (va_runV (C := RX12) (As := [.int x1]) (rest := [.int u2]) ⟨hx, hb, hml, hown, hg⟩ (c_X12_oftenOf l E q0 H.size S0 x1 u3 hc) (cwV 1 hg (gwV wm_X12_375 wi_X12_oftenOf wsl_X12_oftenOf wini_X12 wco_X12_oftenOf) rfl rfl rfl (by decide +kernel) ⟨Nat.le_of_ble_eq_true rfl, Nat.le_of_ble_eq_true rfl⟩) ⟨ct_blind, ct_rv X.1 hP 0 rfl rfl, ct_preA X hP hD hS _⟩ rfl rfl hl.1 rfl (lv_room (Nat.le_of_ble_eq_true rfl)) dX12_mostOften_17 ⟨Nat.zero_le _, Nat.zero_le _⟩) (fun H locs hP hD hS => ?_)
        refine lv_icmp_le (tgt := 25) hx hb dX12_mostOften_20 (by decide) (fun c4 => ?_) (fun c4 => ?_)
        · have h := it_t h c4
          obtain ⟨v5, ev5, h⟩ := lt_el h
          refine lv_iinc (v := v5) (lv' := [(2, .int v5), (0, .ref (q0 0)), (1, .int x1)]) hx hb dX12_mostOften_25 hl (k := 2) rfl (by rw [ev5]; rfl) (by decide) rfl (fun ls hl => ?_)
          refine lv_goto (tgt := 4) hx hb dX12_mostOften_28 (by decide) ?_
          exact ih x1 v5 _ _ _ h hP hD hS (lv_sub hl [1, 2, 0] rfl)
        · have h := it_f h c4
          refine lv_iload_n hx hb dX12_mostOften_23 rfl (lv_at hl 2 rfl) ?_
          refine lv_istore_n (lv' := [(1, .int x2), (0, .ref (q0 0)), (2, .int x2)]) hx hb dX12_mostOften_24 rfl hl (by decide) rfl (fun ls hl => ?_)
          obtain ⟨v6, ev6, h⟩ := lt_el h
          refine lv_iinc (v := v6) (lv' := [(2, .int v6), (1, .int x2), (0, .ref (q0 0))]) hx hb dX12_mostOften_25 hl (k := 2) rfl (by rw [ev6]; rfl) (by decide) rfl (fun ls hl => ?_)
          refine lv_goto (tgt := 4) hx hb dX12_mostOften_28 (by decide) ?_
          exact ih x2 v6 _ _ _ h hP hD hS (lv_sub hl [2, 1, 0] rfl)
  obtain ⟨H, eH⟩ : ∃ z, z = s.heap := ⟨_, rfl⟩
  rw [← eH]
  have hP : va_P E.1 vwCl (cw_X12 E q0 S0) H := by rw [eH]; exact hP
  have hS : va_S A s.heap H [] := by rw [eH]; exact hS
  clear eH
  obtain ⟨locs, el⟩ : ∃ z : List Loc, z = [] := ⟨_, rfl⟩
  rw [← el] at hS ⊢
  clear el
  refine lv_iconst (v := 0) hx hb dX12_mostOften_0 (by decide) ?_
  refine lv_istore_n (lv' := [(1, .int 0), (0, .ref (q0 0))]) hx hb dX12_mostOften_1 rfl hl (by decide) rfl (fun ls hl => ?_)
  refine lv_iconst (v := 1) hx hb dX12_mostOften_2 (by decide) ?_
  refine lv_istore_n (lv' := [(2, .int 1), (1, .int 0), (0, .ref (q0 0))]) hx hb dX12_mostOften_3 rfl hl (by decide) rfl (fun ls hl => ?_)
  exact N4 fu 0 1 _ _ _ h hP hD hS (lv_sub hl [2, 1, 0] rfl)
theorem dX12_goesOnBy_0 : decode cX12_goesOnBy 0 = .ok (.iload_n 1, 1) := by decide +kernel
theorem dX12_goesOnBy_1 : decode cX12_goesOnBy 1 = .ok (.istore_n 2, 1) := by decide +kernel
theorem dX12_goesOnBy_2 : decode cX12_goesOnBy 2 = .ok (.iload_n 2, 1) := by decide +kernel
theorem dX12_goesOnBy_3 : decode cX12_goesOnBy 3 = .ok (.aload_n 0, 1) := by decide +kernel
theorem dX12_goesOnBy_4 : decode cX12_goesOnBy 4 = .ok (.getfield 369, 3) := by decide +kernel
theorem dX12_goesOnBy_7 : decode cX12_goesOnBy 7 = .ok (.if_icmp .ge 28, 3) := by decide +kernel
theorem dX12_goesOnBy_10 : decode cX12_goesOnBy 10 = .ok (.aload_n 0, 1) := by decide +kernel
theorem dX12_goesOnBy_11 : decode cX12_goesOnBy 11 = .ok (.getfield 80, 3) := by decide +kernel
theorem dX12_goesOnBy_14 : decode cX12_goesOnBy 14 = .ok (.iload_n 2, 1) := by decide +kernel
theorem dX12_goesOnBy_15 : decode cX12_goesOnBy 15 = .ok (.iaload, 1) := by decide +kernel
theorem dX12_goesOnBy_16 : decode cX12_goesOnBy 16 = .ok (.aload_n 0, 1) := by decide +kernel
theorem dX12_goesOnBy_17 : decode cX12_goesOnBy 17 = .ok (.getfield 80, 3) := by decide +kernel
theorem dX12_goesOnBy_20 : decode cX12_goesOnBy 20 = .ok (.iload_n 2, 1) := by decide +kernel
theorem dX12_goesOnBy_21 : decode cX12_goesOnBy 21 = .ok (.iload_n 1, 1) := by decide +kernel
theorem dX12_goesOnBy_22 : decode cX12_goesOnBy 22 = .ok (.isub, 1) := by decide +kernel
theorem dX12_goesOnBy_23 : decode cX12_goesOnBy 23 = .ok (.iaload, 1) := by decide +kernel
theorem dX12_goesOnBy_24 : decode cX12_goesOnBy 24 = .ok (.if_icmp .eq 5, 3) := by decide +kernel
theorem dX12_goesOnBy_27 : decode cX12_goesOnBy 27 = .ok (.iconst 0, 1) := by decide +kernel
theorem dX12_goesOnBy_28 : decode cX12_goesOnBy 28 = .ok (.ireturn, 1) := by decide +kernel
theorem dX12_goesOnBy_29 : decode cX12_goesOnBy 29 = .ok (.iinc 2 1, 3) := by decide +kernel
theorem dX12_goesOnBy_32 : decode cX12_goesOnBy 32 = .ok (.goto (-30), 3) := by decide +kernel
theorem dX12_goesOnBy_35 : decode cX12_goesOnBy 35 = .ok (.iconst 1, 1) := by decide +kernel
theorem dX12_goesOnBy_36 : decode cX12_goesOnBy 36 = .ok (.ireturn, 1) := by decide +kernel
def f_X12_goesOnBy_n2 (S0 : Gr) (x1 : Int32) : Nat → Int32 → Option (Int32)
  | 0, _ => none
  | n + 1, x2 => if (S0.1 44) ≤ x2 then (some 1) else (rd' (S0.2 41) 64 x2 fun v2 => rd' (S0.2 41) 64 (x2 - x1) fun v3 => if v2 = v3 then (lt' (x2 + 1) fun v5 => f_X12_goesOnBy_n2 S0 x1 n v5) else (some 0))
def f_X12_goesOnBy (S0 : Gr) (x1 : Int32) : Option (Int32) := f_X12_goesOnBy_n2 S0 x1 fu x1
set_option maxHeartbeats 4000000 in
set_option maxRecDepth 100000 in
theorem c_X12_goesOnBy (l : Launch) (E : Ec) (q0 : Nat → Nat) (sz : Nat) (S0 : Gr) (x1 : Int32) (Rv : Int32) (h : f_X12_goesOnBy S0 x1 = some Rv) : Met l yX12_goesOnBy (wsM (.code yX12_goesOnBy cX12_goesOnBy 3 (some .boolean))) ({ frames := 0, cells := 0, slots := 0, locals := 0 } : Room) (va_Pc [.ref (q0 0), .int x1] (ctP E (cw_X12 E q0 S0) sz)) (ctI E (cw_X12 E q0 S0) (cw_X12 E q0 S0) sz Rv) 0 0 (va_A (cw_X12 E q0 S0) sz) := by
  refine ct_metI (by decide) (Nat.le_of_ble_eq_true rfl) ?_
  intro p e s m ar below meth c A QM hx hb hml hown hg X hP hD hS RET ls hl
  have hown : s.vm.findClass RX12 = some m.cls := hown
  have hl : lv_has ls 3 [(0, .ref (q0 0)), (1, .int x1)] := hl
  have RT : ∀ (v : Int32) (H : Heap) (locs : List Loc) (ls : Array Slot) (pc : Nat), some v = some Rv → narrow .boolean (.int v) = .int v → va_P E.1 vwCl (cw_X12 E q0 S0) H → va_D A (cw_X12 E q0 S0) → va_S A s.heap H locs → decode cX12_goesOnBy pc = .ok (.ireturn, 1) → W p l e ({ frames := 0, cells := 0, slots := 0, locals := 0 } : Room) s m ar below meth c H locs 0 0 QM (F0 m pc ls [.int v]) := by
    intro v H locs ls pc e hn hP hD hS d
    obtain rfl := sm_e e
    exact RET H locs pc ls hn hP hD hS d
  clear RET
  have N2 : ∀ (n : Nat) (x2 : Int32) (H : Heap) (locs : List Loc) (ls : Array Slot), f_X12_goesOnBy_n2 S0 x1 n x2 = some Rv → va_P E.1 vwCl (cw_X12 E q0 S0) H → va_D A (cw_X12 E q0 S0) → va_S A s.heap H locs → lv_has ls 3 [(0, .ref (q0 0)), (1, .int x1), (2, .int x2)] → W p l e ({ frames := 0, cells := 0, slots := 0, locals := 0 } : Room) s m ar below meth c H locs 0 0 QM (F0 m 2 ls []) := by
    intro n
    induction n with
    | zero => intro x2 H locs ls h; exact nn_el h
    | succ n ih =>
      intro x2 H locs ls h hP hD hS hl
      refine lv_iload_n hx hb dX12_goesOnBy_2 rfl (lv_at hl 2 rfl) ?_
      refine lv_aload_n hx hb dX12_goesOnBy_3 rfl (lv_at hl 0 rfl) ?_
      refine va_get (D := E.1) (ci := 11) (v := .int (S0.1 44)) (C := RX12) (T := TX12) (N := 57) hx hb hg in_X12 hown X.1 hP 0 rfl rfl 44 (by decide) (hg _ wf_X12_369) (fun _ h9 => h9) rfl dX12_goesOnBy_4 ?_
      refine lv_icmp_ge (tgt := 35) hx hb dX12_goesOnBy_7 (by decide) (fun c1 => ?_) (fun c1 => ?_)
      · have h := it_t h c1
        refine lv_iconst (v := 1) hx hb dX12_goesOnBy_35 (by decide) ?_
        exact RT 1 _ _ _ _ h (by decide +kernel) hP hD hS dX12_goesOnBy_36
      · have h := it_f h c1
        refine lv_aload_n hx hb dX12_goesOnBy_10 rfl (lv_at hl 0 rfl) ?_
        refine va_get (D := E.1) (ci := 11) (v := .ref (q0 24)) (C := RX12) (T := TX12) (N := 57) hx hb hg in_X12 hown X.1 hP 0 rfl rfl 41 (by decide) (hg _ wf_X12_80) (fun _ h9 => h9) rfl dX12_goesOnBy_11 ?_
        refine lv_iload_n hx hb dX12_goesOnBy_14 rfl (lv_at hl 2 rfl) ?_
        obtain ⟨hi, v2, ev2, h⟩ := rd_el h
        refine va_iald hx hb X.1 hP 24 0 rfl rfl hi dX12_goesOnBy_15 ?_
        refine lv_top' ev2 ?_
        refine lv_aload_n hx hb dX12_goesOnBy_16 rfl (lv_at hl 0 rfl) ?_
        refine va_get (D := E.1) (ci := 11) (v := .ref (q0 24)) (C := RX12) (T := TX12) (N := 57) hx hb hg in_X12 hown X.1 hP 0 rfl rfl 41 (by decide) (hg _ wf_X12_80) (fun _ h9 => h9) rfl dX12_goesOnBy_17 ?_
        refine lv_iload_n hx hb dX12_goesOnBy_20 rfl (lv_at hl 2 rfl) ?_
        refine lv_iload_n hx hb dX12_goesOnBy_21 rfl (lv_at hl 1 rfl) ?_
        refine lv_isub hx hb dX12_goesOnBy_22 ?_
        obtain ⟨hi, v3, ev3, h⟩ := rd_el h
        refine va_iald hx hb X.1 hP 24 0 rfl rfl hi dX12_goesOnBy_23 ?_
        refine lv_top' ev3 ?_
        refine lv_icmp_eq (tgt := 29) hx hb dX12_goesOnBy_24 (by decide) (fun c4 => ?_) (fun c4 => ?_)
        · have h := it_t h c4
          obtain ⟨v5, ev5, h⟩ := lt_el h
          refine lv_iinc (v := v5) (lv' := [(2, .int v5), (0, .ref (q0 0)), (1, .int x1)]) hx hb dX12_goesOnBy_29 hl (k := 2) rfl (by rw [ev5]; rfl) (by decide) rfl (fun ls hl => ?_)
          refine lv_goto (tgt := 2) hx hb dX12_goesOnBy_32 (by decide) ?_
          exact ih v5 _ _ _ h hP hD hS (lv_sub hl [1, 2, 0] rfl)
        · have h := it_f h c4
          refine lv_iconst (v := 0) hx hb dX12_goesOnBy_27 (by decide) ?_
          exact RT 0 _ _ _ _ h (by decide +kernel) hP hD hS dX12_goesOnBy_28
  obtain ⟨H, eH⟩ : ∃ z, z = s.heap := ⟨_, rfl⟩
  rw [← eH]
  have hP : va_P E.1 vwCl (cw_X12 E q0 S0) H := by rw [eH]; exact hP
  have hS : va_S A s.heap H [] := by rw [eH]; exact hS
  clear eH
  obtain ⟨locs, el⟩ : ∃ z : List Loc, z = [] := ⟨_, rfl⟩
  rw [← el] at hS ⊢
  clear el
  refine lv_iload_n hx hb dX12_goesOnBy_0 rfl (lv_at hl 1 rfl) ?_
  refine lv_istore_n (lv' := [(2, .int x1), (0, .ref (q0 0)), (1, .int x1)]) hx hb dX12_goesOnBy_1 rfl hl (by decide) rfl (fun ls hl => ?_)
  exact N2 fu x1 _ _ _ h hP hD hS (lv_sub hl [1, 2, 0] rfl)
theorem dX12_periodOf_0 : decode cX12_periodOf 0 = .ok (.iconst 1, 1) := by decide +kernel
theorem dX12_periodOf_1 : decode cX12_periodOf 1 = .ok (.istore_n 1, 1) := by decide +kernel
theorem dX12_periodOf_2 : decode cX12_periodOf 2 = .ok (.aload_n 0, 1) := by decide +kernel
theorem dX12_periodOf_3 : decode cX12_periodOf 3 = .ok (.iload_n 1, 1) := by decide +kernel
theorem dX12_periodOf_4 : decode cX12_periodOf 4 = .ok (.invokevirtual 378, 3) := by decide +kernel
theorem dX12_periodOf_7 : decode cX12_periodOf 7 = .ok (.ifCond .ne 10, 3) := by decide +kernel
theorem dX12_periodOf_10 : decode cX12_periodOf 10 = .ok (.iload_n 1, 1) := by decide +kernel
theorem dX12_periodOf_11 : decode cX12_periodOf 11 = .ok (.iconst 1, 1) := by decide +kernel
theorem dX12_periodOf_12 : decode cX12_periodOf 12 = .ok (.iadd, 1) := by decide +kernel
theorem dX12_periodOf_13 : decode cX12_periodOf 13 = .ok (.istore_n 1, 1) := by decide +kernel
theorem dX12_periodOf_14 : decode cX12_periodOf 14 = .ok (.goto (-12), 3) := by decide +kernel
theorem dX12_periodOf_17 : decode cX12_periodOf 17 = .ok (.iload_n 1, 1) := by decide +kernel
theorem dX12_periodOf_18 : decode cX12_periodOf 18 = .ok (.ireturn, 1) := by decide +kernel
def f_X12_periodOf_n2 (S0 : Gr) : Nat → Int32 → Option (Int32)
  | 0, _ => none
  | n + 1, x1 => (f_X12_goesOnBy S0 x1).bind fun u1 => if u1 = 0 then (lt' ((x1 + 1)) fun v3 => f_X12_periodOf_n2 S0 n v3) else (some x1)
def f_X12_periodOf (S0 : Gr) : Option (Int32) := f_X12_periodOf_n2 S0 fu 1
set_option maxHeartbeats 4000000 in
set_option maxRecDepth 100000 in
theorem c_X12_periodOf (l : Launch) (E : Ec) (q0 : Nat → Nat) (sz : Nat) (S0 : Gr) (Rv : Int32) (h : f_X12_periodOf S0 = some Rv) : Met l yX12_periodOf (wsM (.code yX12_periodOf cX12_periodOf 2 (some .int))) ({ frames := 1, cells := 0, slots := 0, locals := 22 } : Room) (va_Pc [.ref (q0 0)] (ctP E (cw_X12 E q0 S0) sz)) (ctI E (cw_X12 E q0 S0) (cw_X12 E q0 S0) sz Rv) 0 0 (va_A (cw_X12 E q0 S0) sz) := by
  refine ct_metI (by decide) (Nat.le_of_ble_eq_true rfl) ?_
  intro p e s m ar below meth c A QM hx hb hml hown hg X hP hD hS RET ls hl
  have hown : s.vm.findClass RX12 = some m.cls := hown
  have hl : lv_has ls 2 [(0, .ref (q0 0))] := hl
  have RT : ∀ (v : Int32) (H : Heap) (locs : List Loc) (ls : Array Slot) (pc : Nat), some v = some Rv → narrow .int (.int v) = .int v → va_P E.1 vwCl (cw_X12 E q0 S0) H → va_D A (cw_X12 E q0 S0) → va_S A s.heap H locs → decode cX12_periodOf pc = .ok (.ireturn, 1) → W p l e ({ frames := 1, cells := 0, slots := 0, locals := 22 } : Room) s m ar below meth c H locs 0 0 QM (F0 m pc ls [.int v]) := by
    intro v H locs ls pc e hn hP hD hS d
    obtain rfl := sm_e e
    exact RET H locs pc ls hn hP hD hS d
  clear RET
  have N2 : ∀ (n : Nat) (x1 : Int32) (H : Heap) (locs : List Loc) (ls : Array Slot), f_X12_periodOf_n2 S0 n x1 = some Rv → va_P E.1 vwCl (cw_X12 E q0 S0) H → va_D A (cw_X12 E q0 S0) → va_S A s.heap H locs → lv_has ls 2 [(0, .ref (q0 0)), (1, .int x1)] → W p l e ({ frames := 1, cells := 0, slots := 0, locals := 22 } : Room) s m ar below meth c H locs 0 0 QM (F0 m 2 ls []) := by
    intro n
    induction n with
    | zero => intro x1 H locs ls h; exact nn_el h
    | succ n ih =>
      intro x1 H locs ls h hP hD hS hl
      refine lv_aload_n hx hb dX12_periodOf_2 rfl (lv_at hl 0 rfl) ?_
      refine lv_iload_n hx hb dX12_periodOf_3 rfl (lv_at hl 1 rfl) ?_
      obtain ⟨u1, hc, h⟩ := bd_el h
      refine ct_iA (w1 := cw_X12 E q0 S0) X hP hD hS (va_runV (C := RX12) (As := [.int x1]) (rest := []) ⟨hx, hb, hml, hown, hg⟩ (c_X12_goesOnBy l E q0 H.size S0 x1 u1 hc) (cwV 1 hg (gwV wm_X12_378 wi_X12_goesOnBy wsl_X12_goesOnBy wini_X12 wco_X12_goesOnBy) rfl rfl rfl (by decide +kernel) ⟨Nat.le_of_ble_eq_true rfl, Nat.le_of_ble_eq_true rfl⟩) ⟨ct_blind, ct_rv X.1 hP 0 rfl rfl, ct_preA X hP hD hS _⟩ rfl rfl hl.1 rfl (lv_room (Nat.le_of_ble_eq_true rfl)) dX12_periodOf_4 ⟨Nat.zero_le _, Nat.zero_le _⟩) (fun H locs hP hD hS => ?_)
      refine lv_if_ne (tgt := 17) hx hb dX12_periodOf_7 (by decide) (fun c2 => ?_) (fun c2 => ?_)
      · have h := it_f h c2
        refine lv_iload_n hx hb dX12_periodOf_17 rfl (lv_at hl 1 rfl) ?_
        exact RT x1 _ _ _ _ h rfl hP hD hS dX12_periodOf_18
      · have h := it_t h c2
        refine lv_iload_n hx hb dX12_periodOf_10 rfl (lv_at hl 1 rfl) ?_
        refine lv_iconst (v := 1) hx hb dX12_periodOf_11 (by decide) ?_
        refine lv_iadd hx hb dX12_periodOf_12 ?_
        obtain ⟨v3, ev3, h⟩ := lt_el h
        refine lv_top' ev3 ?_
        refine lv_istore_n (lv' := [(1, .int v3), (0, .ref (q0 0))]) hx hb dX12_periodOf_13 rfl hl (by decide) rfl (fun ls hl => ?_)
        refine lv_goto (tgt := 2) hx hb dX12_periodOf_14 (by decide) ?_
        exact ih v3 _ _ _ h hP hD hS (lv_sub hl [1, 0] rfl)
  obtain ⟨H, eH⟩ : ∃ z, z = s.heap := ⟨_, rfl⟩
  rw [← eH]
  have hP : va_P E.1 vwCl (cw_X12 E q0 S0) H := by rw [eH]; exact hP
  have hS : va_S A s.heap H [] := by rw [eH]; exact hS
  clear eH
  obtain ⟨locs, el⟩ : ∃ z : List Loc, z = [] := ⟨_, rfl⟩
  rw [← el] at hS ⊢
  clear el
  refine lv_iconst (v := 1) hx hb dX12_periodOf_0 (by decide) ?_
  refine lv_istore_n (lv' := [(1, .int 1), (0, .ref (q0 0))]) hx hb dX12_periodOf_1 rfl hl (by decide) rfl (fun ls hl => ?_)
  exact N2 fu 1 _ _ _ h hP hD hS (lv_sub hl [1, 0] rfl)
theorem dX12_readsRoundEnd_0 : decode cX12_readsRoundEnd 0 = .ok (.aload_n 0, 1) := by decide +kernel
theorem dX12_readsRoundEnd_1 : decode cX12_readsRoundEnd 1 = .ok (.aload_n 0, 1) := by decide +kernel
theorem dX12_readsRoundEnd_2 : decode cX12_readsRoundEnd 2 = .ok (.getfield 150, 3) := by decide +kernel
theorem dX12_readsRoundEnd_5 : decode cX12_readsRoundEnd 5 = .ok (.iconst 1, 1) := by decide +kernel
theorem dX12_readsRoundEnd_6 : decode cX12_readsRoundEnd 6 = .ok (.iadd, 1) := by decide +kernel
theorem dX12_readsRoundEnd_7 : decode cX12_readsRoundEnd 7 = .ok (.putfield 150, 3) := by decide +kernel
theorem dX12_readsRoundEnd_10 : decode cX12_readsRoundEnd 10 = .ok (.aload_n 0, 1) := by decide +kernel
theorem dX12_readsRoundEnd_11 : decode cX12_readsRoundEnd 11 = .ok (.aload_n 0, 1) := by decide +kernel
theorem dX12_readsRoundEnd_12 : decode cX12_readsRoundEnd 12 = .ok (.getfield 366, 3) := by decide +kernel
theorem dX12_readsRoundEnd_15 : decode cX12_readsRoundEnd 15 = .ok (.iconst 1, 1) := by decide +kernel
theorem dX12_readsRoundEnd_16 : decode cX12_readsRoundEnd 16 = .ok (.isub, 1) := by decide +kernel
theorem dX12_readsRoundEnd_17 : decode cX12_readsRoundEnd 17 = .ok (.putfield 366, 3) := by decide +kernel
theorem dX12_readsRoundEnd_20 : decode cX12_readsRoundEnd 20 = .ok (.aload_n 0, 1) := by decide +kernel
theorem dX12_readsRoundEnd_21 : decode cX12_readsRoundEnd 21 = .ok (.invokevirtual 156, 3) := by decide +kernel
theorem dX12_readsRoundEnd_24 : decode cX12_readsRoundEnd 24 = .ok (.bipush 42, 2) := by decide +kernel
theorem dX12_readsRoundEnd_26 : decode cX12_readsRoundEnd 26 = .ok (.if_icmp .eq 5, 3) := by decide +kernel
theorem dX12_readsRoundEnd_29 : decode cX12_readsRoundEnd 29 = .ok (.iconst 1, 1) := by decide +kernel
theorem dX12_readsRoundEnd_30 : decode cX12_readsRoundEnd 30 = .ok (.ireturn, 1) := by decide +kernel
theorem dX12_readsRoundEnd_31 : decode cX12_readsRoundEnd 31 = .ok (.aload_n 0, 1) := by decide +kernel
theorem dX12_readsRoundEnd_32 : decode cX12_readsRoundEnd 32 = .ok (.aload_n 0, 1) := by decide +kernel
theorem dX12_readsRoundEnd_33 : decode cX12_readsRoundEnd 33 = .ok (.getfield 150, 3) := by decide +kernel
theorem dX12_readsRoundEnd_36 : decode cX12_readsRoundEnd 36 = .ok (.iconst 1, 1) := by decide +kernel
theorem dX12_readsRoundEnd_37 : decode cX12_readsRoundEnd 37 = .ok (.iadd, 1) := by decide +kernel
theorem dX12_readsRoundEnd_38 : decode cX12_readsRoundEnd 38 = .ok (.putfield 150, 3) := by decide +kernel
theorem dX12_readsRoundEnd_41 : decode cX12_readsRoundEnd 41 = .ok (.aload_n 0, 1) := by decide +kernel
theorem dX12_readsRoundEnd_42 : decode cX12_readsRoundEnd 42 = .ok (.invokevirtual 156, 3) := by decide +kernel
theorem dX12_readsRoundEnd_45 : decode cX12_readsRoundEnd 45 = .ok (.bipush 50, 2) := by decide +kernel
theorem dX12_readsRoundEnd_47 : decode cX12_readsRoundEnd 47 = .ok (.bipush 57, 2) := by decide +kernel
theorem dX12_readsRoundEnd_49 : decode cX12_readsRoundEnd 49 = .ok (.invokestatic 110, 3) := by decide +kernel
theorem dX12_readsRoundEnd_52 : decode cX12_readsRoundEnd 52 = .ok (.ifCond .ne 13, 3) := by decide +kernel
theorem dX12_readsRoundEnd_55 : decode cX12_readsRoundEnd 55 = .ok (.aload_n 0, 1) := by decide +kernel
theorem dX12_readsRoundEnd_56 : decode cX12_readsRoundEnd 56 = .ok (.iconst 1, 1) := by decide +kernel
theorem dX12_readsRoundEnd_57 : decode cX12_readsRoundEnd 57 = .ok (.aload_n 0, 1) := by decide +kernel
theorem dX12_readsRoundEnd_58 : decode cX12_readsRoundEnd 58 = .ok (.getfield 150, 3) := by decide +kernel
theorem dX12_readsRoundEnd_61 : decode cX12_readsRoundEnd 61 = .ok (.invokevirtual 163, 3) := by decide +kernel
theorem dX12_readsRoundEnd_64 : decode cX12_readsRoundEnd 64 = .ok (.ireturn, 1) := by decide +kernel
theorem dX12_readsRoundEnd_65 : decode cX12_readsRoundEnd 65 = .ok (.aload_n 0, 1) := by decide +kernel
theorem dX12_readsRoundEnd_66 : decode cX12_readsRoundEnd 66 = .ok (.invokevirtual 156, 3) := by decide +kernel
theorem dX12_readsRoundEnd_69 : decode cX12_readsRoundEnd 69 = .ok (.bipush 48, 2) := by decide +kernel
theorem dX12_readsRoundEnd_71 : decode cX12_readsRoundEnd 71 = .ok (.isub, 1) := by decide +kernel
theorem dX12_readsRoundEnd_72 : decode cX12_readsRoundEnd 72 = .ok (.istore_n 1, 1) := by decide +kernel
theorem dX12_readsRoundEnd_73 : decode cX12_readsRoundEnd 73 = .ok (.aload_n 0, 1) := by decide +kernel
theorem dX12_readsRoundEnd_74 : decode cX12_readsRoundEnd 74 = .ok (.aload_n 0, 1) := by decide +kernel
theorem dX12_readsRoundEnd_75 : decode cX12_readsRoundEnd 75 = .ok (.getfield 150, 3) := by decide +kernel
theorem dX12_readsRoundEnd_78 : decode cX12_readsRoundEnd 78 = .ok (.iconst 1, 1) := by decide +kernel
theorem dX12_readsRoundEnd_79 : decode cX12_readsRoundEnd 79 = .ok (.iadd, 1) := by decide +kernel
theorem dX12_readsRoundEnd_80 : decode cX12_readsRoundEnd 80 = .ok (.putfield 150, 3) := by decide +kernel
theorem dX12_readsRoundEnd_83 : decode cX12_readsRoundEnd 83 = .ok (.aload_n 0, 1) := by decide +kernel
theorem dX12_readsRoundEnd_84 : decode cX12_readsRoundEnd 84 = .ok (.getfield 86, 3) := by decide +kernel
theorem dX12_readsRoundEnd_87 : decode cX12_readsRoundEnd 87 = .ok (.aload_n 0, 1) := by decide +kernel
theorem dX12_readsRoundEnd_88 : decode cX12_readsRoundEnd 88 = .ok (.getfield 366, 3) := by decide +kernel
theorem dX12_readsRoundEnd_91 : decode cX12_readsRoundEnd 91 = .ok (.iaload, 1) := by decide +kernel
theorem dX12_readsRoundEnd_92 : decode cX12_readsRoundEnd 92 = .ok (.istore_n 2, 1) := by decide +kernel
theorem dX12_readsRoundEnd_93 : decode cX12_readsRoundEnd 93 = .ok (.aload_n 0, 1) := by decide +kernel
theorem dX12_readsRoundEnd_94 : decode cX12_readsRoundEnd 94 = .ok (.getfield 369, 3) := by decide +kernel
theorem dX12_readsRoundEnd_97 : decode cX12_readsRoundEnd 97 = .ok (.iload_n 2, 1) := by decide +kernel
theorem dX12_readsRoundEnd_98 : decode cX12_readsRoundEnd 98 = .ok (.isub, 1) := by decide +kernel
theorem dX12_readsRoundEnd_99 : decode cX12_readsRoundEnd 99 = .ok (.istore_n 3, 1) := by decide +kernel
theorem dX12_readsRoundEnd_100 : decode cX12_readsRoundEnd 100 = .ok (.iload_n 2, 1) := by decide +kernel
theorem dX12_readsRoundEnd_101 : decode cX12_readsRoundEnd 101 = .ok (.iload_n 3, 1) := by decide +kernel
theorem dX12_readsRoundEnd_102 : decode cX12_readsRoundEnd 102 = .ok (.iload_n 1, 1) := by decide +kernel
theorem dX12_readsRoundEnd_103 : decode cX12_readsRoundEnd 103 = .ok (.imul, 1) := by decide +kernel
theorem dX12_readsRoundEnd_104 : decode cX12_readsRoundEnd 104 = .ok (.iadd, 1) := by decide +kernel
theorem dX12_readsRoundEnd_105 : decode cX12_readsRoundEnd 105 = .ok (.bipush 64, 2) := by decide +kernel
theorem dX12_readsRoundEnd_107 : decode cX12_readsRoundEnd 107 = .ok (.if_icmp .le 19, 3) := by decide +kernel
theorem dX12_readsRoundEnd_110 : decode cX12_readsRoundEnd 110 = .ok (.aload_n 0, 1) := by decide +kernel
theorem dX12_readsRoundEnd_111 : decode cX12_readsRoundEnd 111 = .ok (.bipush 6, 2) := by decide +kernel
theorem dX12_readsRoundEnd_113 : decode cX12_readsRoundEnd 113 = .ok (.aload_n 0, 1) := by decide +kernel
theorem dX12_readsRoundEnd_114 : decode cX12_readsRoundEnd 114 = .ok (.getfield 83, 3) := by decide +kernel
theorem dX12_readsRoundEnd_117 : decode cX12_readsRoundEnd 117 = .ok (.aload_n 0, 1) := by decide +kernel
theorem dX12_readsRoundEnd_118 : decode cX12_readsRoundEnd 118 = .ok (.getfield 366, 3) := by decide +kernel
theorem dX12_readsRoundEnd_121 : decode cX12_readsRoundEnd 121 = .ok (.iaload, 1) := by decide +kernel
theorem dX12_readsRoundEnd_122 : decode cX12_readsRoundEnd 122 = .ok (.invokevirtual 163, 3) := by decide +kernel
theorem dX12_readsRoundEnd_125 : decode cX12_readsRoundEnd 125 = .ok (.ireturn, 1) := by decide +kernel
theorem dX12_readsRoundEnd_126 : decode cX12_readsRoundEnd 126 = .ok (.iload_n 3, 1) := by decide +kernel
theorem dX12_readsRoundEnd_127 : decode cX12_readsRoundEnd 127 = .ok (.istore 4, 2) := by decide +kernel
theorem dX12_readsRoundEnd_129 : decode cX12_readsRoundEnd 129 = .ok (.iload 4, 2) := by decide +kernel
theorem dX12_readsRoundEnd_131 : decode cX12_readsRoundEnd 131 = .ok (.iload_n 3, 1) := by decide +kernel
theorem dX12_readsRoundEnd_132 : decode cX12_readsRoundEnd 132 = .ok (.iload_n 1, 1) := by decide +kernel
theorem dX12_readsRoundEnd_133 : decode cX12_readsRoundEnd 133 = .ok (.imul, 1) := by decide +kernel
theorem dX12_readsRoundEnd_134 : decode cX12_readsRoundEnd 134 = .ok (.if_icmp .ge 29, 3) := by decide +kernel
theorem dX12_readsRoundEnd_137 : decode cX12_readsRoundEnd 137 = .ok (.aload_n 0, 1) := by decide +kernel
theorem dX12_readsRoundEnd_138 : decode cX12_readsRoundEnd 138 = .ok (.getfield 80, 3) := by decide +kernel
theorem dX12_readsRoundEnd_141 : decode cX12_readsRoundEnd 141 = .ok (.iload_n 2, 1) := by decide +kernel
theorem dX12_readsRoundEnd_142 : decode cX12_readsRoundEnd 142 = .ok (.iload 4, 2) := by decide +kernel
theorem dX12_readsRoundEnd_144 : decode cX12_readsRoundEnd 144 = .ok (.iadd, 1) := by decide +kernel
theorem dX12_readsRoundEnd_145 : decode cX12_readsRoundEnd 145 = .ok (.aload_n 0, 1) := by decide +kernel
theorem dX12_readsRoundEnd_146 : decode cX12_readsRoundEnd 146 = .ok (.getfield 80, 3) := by decide +kernel
theorem dX12_readsRoundEnd_149 : decode cX12_readsRoundEnd 149 = .ok (.iload_n 2, 1) := by decide +kernel
theorem dX12_readsRoundEnd_150 : decode cX12_readsRoundEnd 150 = .ok (.iload 4, 2) := by decide +kernel
theorem dX12_readsRoundEnd_152 : decode cX12_readsRoundEnd 152 = .ok (.iadd, 1) := by decide +kernel
theorem dX12_readsRoundEnd_153 : decode cX12_readsRoundEnd 153 = .ok (.iload_n 3, 1) := by decide +kernel
theorem dX12_readsRoundEnd_154 : decode cX12_readsRoundEnd 154 = .ok (.isub, 1) := by decide +kernel
theorem dX12_readsRoundEnd_155 : decode cX12_readsRoundEnd 155 = .ok (.iaload, 1) := by decide +kernel
theorem dX12_readsRoundEnd_156 : decode cX12_readsRoundEnd 156 = .ok (.iastore, 1) := by decide +kernel
theorem dX12_readsRoundEnd_157 : decode cX12_readsRoundEnd 157 = .ok (.iinc 4 1, 3) := by decide +kernel
theorem dX12_readsRoundEnd_160 : decode cX12_readsRoundEnd 160 = .ok (.goto (-31), 3) := by decide +kernel
theorem dX12_readsRoundEnd_163 : decode cX12_readsRoundEnd 163 = .ok (.aload_n 0, 1) := by decide +kernel
theorem dX12_readsRoundEnd_164 : decode cX12_readsRoundEnd 164 = .ok (.iload_n 2, 1) := by decide +kernel
theorem dX12_readsRoundEnd_165 : decode cX12_readsRoundEnd 165 = .ok (.iload_n 3, 1) := by decide +kernel
theorem dX12_readsRoundEnd_166 : decode cX12_readsRoundEnd 166 = .ok (.iload_n 1, 1) := by decide +kernel
theorem dX12_readsRoundEnd_167 : decode cX12_readsRoundEnd 167 = .ok (.imul, 1) := by decide +kernel
theorem dX12_readsRoundEnd_168 : decode cX12_readsRoundEnd 168 = .ok (.iadd, 1) := by decide +kernel
theorem dX12_readsRoundEnd_169 : decode cX12_readsRoundEnd 169 = .ok (.putfield 369, 3) := by decide +kernel
theorem dX12_readsRoundEnd_172 : decode cX12_readsRoundEnd 172 = .ok (.iconst 1, 1) := by decide +kernel
theorem dX12_readsRoundEnd_173 : decode cX12_readsRoundEnd 173 = .ok (.ireturn, 1) := by decide +kernel
def f_X12_readsRoundEnd_n129  : Nat → Gr → Int32 → Int32 → Int32 → Int32 → Option (Int32 × Gr)
  | 0, _, _, _, _, _ => none
  | n + 1, S0, x1, x2, x3, x4 => if (x3 * x1) ≤ x4 then (lt' (sI S0 44 (x2 + (x3 * x1))) fun S0_19 => some (1, S0_19)) else (rd' (S0.2 41) 64 ((x2 + x4) - x3) fun v20 => ck' 64 (x2 + x4) (lt' (sA S0 41 (Int32.toNatClampNeg (x2 + x4)) v20) fun S0_21 => lt' (x4 + 1) fun v22 => f_X12_readsRoundEnd_n129 n S0_21 x1 x2 x3 v22))
def f_X12_readsRoundEnd (S0 : Gr) : Option (Int32 × Gr) := lt' (sI S0 9 ((S0.1 9) + 1)) fun S0_1 => lt' (sI S0_1 45 ((S0_1.1 45) - 1)) fun S0_2 => (f_X12_here S0_2).bind fun u3 => if u3 = 42 then (lt' (sI S0_2 9 ((S0_2.1 9) + 1)) fun S0_5 => (f_X12_here S0_5).bind fun u6 => (f_X12_in u6 50 57).bind fun u7 => if u7 = 0 then ((f_X12_wrongAt S0_5 1 (S0_5.1 9)).bind fun u17 => zb' u17.1 (some (u17.1, u17.2))) else ((f_X12_here S0_5).bind fun u9 => lt' ((u9 - 48)) fun v10 => lt' (sI S0_5 9 ((S0_5.1 9) + 1)) fun S0_11 => rd' (S0_11.2 43) 2 (S0_11.1 45) fun v12 => lt' (((S0_11.1 44) - v12)) fun v13 => if (v12 + (v13 * v10)) ≤ 64 then (f_X12_readsRoundEnd_n129 fu S0_11 v10 v12 v13 v13) else (rd' (S0_11.2 42) 2 (S0_11.1 45) fun v15 => (f_X12_wrongAt S0_11 6 v15).bind fun u16 => zb' u16.1 (some (u16.1, u16.2))))) else (some (1, S0_2))
set_option maxHeartbeats 4000000 in
set_option maxRecDepth 100000 in
theorem c_X12_readsRoundEnd (l : Launch) (E : Ec) (q0 : Nat → Nat) (sz : Nat) (S0 : Gr) (Rv : Int32 × Gr) (h : f_X12_readsRoundEnd S0 = some Rv) : Met l yX12_readsRoundEnd (wsM (.code yX12_readsRoundEnd cX12_readsRoundEnd 5 (some .boolean))) ({ frames := 1, cells := 0, slots := 0, locals := 22 } : Room) (va_Pc [.ref (q0 0)] (ctP E (cw_X12 E q0 S0) sz)) (ctI E (cw_X12 E q0 S0) (cw_X12 E q0 Rv.2) sz Rv.1) 0 0 (va_A (cw_X12 E q0 S0) sz) := by
  refine ct_metI (by decide) (Nat.le_of_ble_eq_true rfl) ?_
  intro p e s m ar below meth c A QM hx hb hml hown hg X hP hD hS RET ls hl
  have hown : s.vm.findClass RX12 = some m.cls := hown
  have hl : lv_has ls 5 [(0, .ref (q0 0))] := hl
  have RT : ∀ (v : Int32) (S0 : Gr) (H : Heap) (locs : List Loc) (ls : Array Slot) (pc : Nat), some (v, S0) = some Rv → narrow .boolean (.int v) = .int v → va_P E.1 vwCl (cw_X12 E q0 S0) H → va_D A (cw_X12 E q0 S0) → va_S A s.heap H locs → decode cX12_readsRoundEnd pc = .ok (.ireturn, 1) → W p l e ({ frames := 1, cells := 0, slots := 0, locals := 22 } : Room) s m ar below meth c H locs 0 0 QM (F0 m pc ls [.int v]) := by
    intro v S0 H locs ls pc e hn hP hD hS d
    obtain rfl := sm_e e
    exact RET H locs pc ls hn hP hD hS d
  clear RET
  have N129 : ∀ (n : Nat) (S0 : Gr) (x1 : Int32) (x2 : Int32) (x3 : Int32) (x4 : Int32) (H : Heap) (locs : List Loc) (ls : Array Slot), f_X12_readsRoundEnd_n129 n S0 x1 x2 x3 x4 = some Rv → va_P E.1 vwCl (cw_X12 E q0 S0) H → va_D A (cw_X12 E q0 S0) → va_S A s.heap H locs → lv_has ls 5 [(0, .ref (q0 0)), (1, .int x1), (2, .int x2), (3, .int x3), (4, .int x4)] → W p l e ({ frames := 1, cells := 0, slots := 0, locals := 22 } : Room) s m ar below meth c H locs 0 0 QM (F0 m 129 ls []) := by
    intro n
    induction n with
    | zero => intro S0 x1 x2 x3 x4 H locs ls h; exact nn_el h
    | succ n ih =>
      intro S0 x1 x2 x3 x4 H locs ls h hP hD hS hl
      refine lv_iload hx hb dX12_readsRoundEnd_129 (lv_at hl 4 rfl) ?_
      refine lv_iload_n hx hb dX12_readsRoundEnd_131 rfl (lv_at hl 3 rfl) ?_
      refine lv_iload_n hx hb dX12_readsRoundEnd_132 rfl (lv_at hl 1 rfl) ?_
      refine lv_imul hx hb dX12_readsRoundEnd_133 ?_
      refine lv_icmp_ge (tgt := 163) hx hb dX12_readsRoundEnd_134 (by decide) (fun c18 => ?_) (fun c18 => ?_)
      · have h := it_t h c18
        refine lv_aload_n hx hb dX12_readsRoundEnd_163 rfl (lv_at hl 0 rfl) ?_
        refine lv_iload_n hx hb dX12_readsRoundEnd_164 rfl (lv_at hl 2 rfl) ?_
        refine lv_iload_n hx hb dX12_readsRoundEnd_165 rfl (lv_at hl 3 rfl) ?_
        refine lv_iload_n hx hb dX12_readsRoundEnd_166 rfl (lv_at hl 1 rfl) ?_
        refine lv_imul hx hb dX12_readsRoundEnd_167 ?_
        refine lv_iadd hx hb dX12_readsRoundEnd_168 ?_
        obtain ⟨S0_19, eS, h⟩ := lt_el h
        refine va_put (D := E.1) (ci := 11) (v := .int (x2 + (x3 * x1))) (ty := .int) (C := RX12) (T := TX12) (N := 57) hx hb hg in_X12 tyX12 tyX12_ok nmX12 hown X.1 hP hD hS 0 rfl rfl 44 (by decide) (hg _ wf_X12_369) (fun _ h9 => h9) rfl (by decide +kernel) rfl rfl (Nat.le_of_ble_eq_true rfl) dX12_readsRoundEnd_169 (fun H locs hP hD hS => ?_)
        have hP : va_P E.1 vwCl (cw_X12 E q0 S0_19) H := by rw [eS]; exact hP
        have hD : va_D A (cw_X12 E q0 S0_19) := by rw [eS]; exact hD
        clear eS
        refine lv_iconst (v := 1) hx hb dX12_readsRoundEnd_172 (by decide) ?_
        exact RT 1 S0_19 _ _ _ _ h (by decide +kernel) hP hD hS dX12_readsRoundEnd_173
      · have h := it_f h c18
        refine lv_aload_n hx hb dX12_readsRoundEnd_137 rfl (lv_at hl 0 rfl) ?_
        refine va_get (D := E.1) (ci := 11) (v := .ref (q0 24)) (C := RX12) (T := TX12) (N := 57) hx hb hg in_X12 hown X.1 hP 0 rfl rfl 41 (by decide) (hg _ wf_X12_80) (fun _ h9 => h9) rfl dX12_readsRoundEnd_138 ?_
        refine lv_iload_n hx hb dX12_readsRoundEnd_141 rfl (lv_at hl 2 rfl) ?_
        refine lv_iload hx hb dX12_readsRoundEnd_142 (lv_at hl 4 rfl) ?_
        refine lv_iadd hx hb dX12_readsRoundEnd_144 ?_
        refine lv_aload_n hx hb dX12_readsRoundEnd_145 rfl (lv_at hl 0 rfl) ?_
        refine va_get (D := E.1) (ci := 11) (v := .ref (q0 24)) (C := RX12) (T := TX12) (N := 57) hx hb hg in_X12 hown X.1 hP 0 rfl rfl 41 (by decide) (hg _ wf_X12_80) (fun _ h9 => h9) rfl dX12_readsRoundEnd_146 ?_
        refine lv_iload_n hx hb dX12_readsRoundEnd_149 rfl (lv_at hl 2 rfl) ?_
        refine lv_iload hx hb dX12_readsRoundEnd_150 (lv_at hl 4 rfl) ?_
        refine lv_iadd hx hb dX12_readsRoundEnd_152 ?_
        refine lv_iload_n hx hb dX12_readsRoundEnd_153 rfl (lv_at hl 3 rfl) ?_
        refine lv_isub hx hb dX12_readsRoundEnd_154 ?_
        obtain ⟨hi, v20, ev20, h⟩ := rd_el h
        refine va_iald hx hb X.1 hP 24 0 rfl rfl hi dX12_readsRoundEnd_155 ?_
        refine lv_top' ev20 ?_
        obtain ⟨hi, h⟩ := ck_el h
        obtain ⟨S0_21, eS, h⟩ := lt_el h
        refine va_iast hx hb X.1 hP hD hS 24 0 rfl rfl hi dX12_readsRoundEnd_156 (fun H locs hP hD hS => ?_)
        have hP : va_P E.1 vwCl (cw_X12 E q0 S0_21) H := by rw [eS]; exact hP
        have hD : va_D A (cw_X12 E q0 S0_21) := by rw [eS]; exact hD
        clear eS
        obtain ⟨v22, ev22, h⟩ := lt_el h
        refine lv_iinc (v := v22) (lv' := [(4, .int v22), (0, .ref (q0 0)), (1, .int x1), (2, .int x2), (3, .int x3)]) hx hb dX12_readsRoundEnd_157 hl (k := 4) rfl (by rw [ev22]; rfl) (by decide) rfl (fun ls hl => ?_)
        refine lv_goto (tgt := 129) hx hb dX12_readsRoundEnd_160 (by decide) ?_
        exact ih S0_21 x1 x2 x3 v22 _ _ _ h hP hD hS (lv_sub hl [1, 2, 3, 4, 0] rfl)
  obtain ⟨H, eH⟩ : ∃ z, z = s.heap := ⟨_, rfl⟩
  rw [← eH]
  have hP : va_P E.1 vwCl (cw_X12 E q0 S0) H := by rw [eH]; exact hP
  have hS : va_S A s.heap H [] := by rw [eH]; exact hS
  clear eH
  obtain ⟨locs, el⟩ : ∃ z : List Loc, z = [] := ⟨_, rfl⟩
  rw [← el] at hS ⊢
  clear el
  refine lv_aload_n hx hb dX12_readsRoundEnd_0 rfl (lv_at hl 0 rfl) ?_
  refine lv_aload_n hx hb dX12_readsRoundEnd_1 rfl (lv_at hl 0 rfl) ?_
  refine va_get (D := E.1) (ci := 11) (v := .int (S0.1 9)) (C := RX12) (T := TX12) (N := 57) hx hb hg in_X12 hown X.1 hP 0 rfl rfl 9 (by decide) (hg _ wf_X12_150) (fun _ h9 => h9) rfl dX12_readsRoundEnd_2 ?_
  refine lv_iconst (v := 1) hx hb dX12_readsRoundEnd_5 (by decide) ?_
  refine lv_iadd hx hb dX12_readsRoundEnd_6 ?_
  obtain ⟨S0_1, eS, h⟩ := lt_el h
  refine va_put (D := E.1) (ci := 11) (v := .int ((S0.1 9) + 1)) (ty := .int) (C := RX12) (T := TX12) (N := 57) hx hb hg in_X12 tyX12 tyX12_ok nmX12 hown X.1 hP hD hS 0 rfl rfl 9 (by decide) (hg _ wf_X12_150) (fun _ h9 => h9) rfl (by decide +kernel) rfl rfl (Nat.le_of_ble_eq_true rfl) dX12_readsRoundEnd_7 (fun H locs hP hD hS => ?_)
  have hP : va_P E.1 vwCl (cw_X12 E q0 S0_1) H := by rw [eS]; exact hP
  have hD : va_D A (cw_X12 E q0 S0_1) := by rw [eS]; exact hD
  clear eS
  refine lv_aload_n hx hb dX12_readsRoundEnd_10 rfl (lv_at hl 0 rfl) ?_
  refine lv_aload_n hx hb dX12_readsRoundEnd_11 rfl (lv_at hl 0 rfl) ?_
  refine va_get (D := E.1) (ci := 11) (v := .int (S0_1.1 45)) (C := RX12) (T := TX12) (N := 57) hx hb hg in_X12 hown X.1 hP 0 rfl rfl 45 (by decide) (hg _ wf_X12_366) (fun _ h9 => h9) rfl dX12_readsRoundEnd_12 ?_
  refine lv_iconst (v := 1) hx hb dX12_readsRoundEnd_15 (by decide) ?_
  refine lv_isub hx hb dX12_readsRoundEnd_16 ?_
  obtain ⟨S0_2, eS, h⟩ := lt_el h
  refine va_put (D := E.1) (ci := 11) (v := .int ((S0_1.1 45) - 1)) (ty := .int) (C := RX12) (T := TX12) (N := 57) hx hb hg in_X12 tyX12 tyX12_ok nmX12 hown X.1 hP hD hS 0 rfl rfl 45 (by decide) (hg _ wf_X12_366) (fun _ h9 => h9) rfl (by decide +kernel) rfl rfl (Nat.le_of_ble_eq_true rfl) dX12_readsRoundEnd_17 (fun H locs hP hD hS => ?_)
  have hP : va_P E.1 vwCl (cw_X12 E q0 S0_2) H := by rw [eS]; exact hP
  have hD : va_D A (cw_X12 E q0 S0_2) := by rw [eS]; exact hD
  clear eS
  refine lv_aload_n hx hb dX12_readsRoundEnd_20 rfl (lv_at hl 0 rfl) ?_
  obtain ⟨u3, hc, h⟩ := bd_el h
  refine ct_iA (w1 := cw_X12 E q0 S0_2) X hP hD hS (va_runV (C := RX12) (As := []) (rest := []) ⟨hx, hb, hml, hown, hg⟩ (c_X12_here l E q0 H.size S0_2 u3 hc) (cwV 0 hg (gwV wm_X12_156 wi_X12_here wsl_X12_here wini_X12 wco_X12_here) rfl rfl rfl (by decide +kernel) ⟨Nat.le_of_ble_eq_true rfl, Nat.le_of_ble_eq_true rfl⟩) ⟨ct_blind, ct_rv X.1 hP 0 rfl rfl, ct_preA X hP hD hS _⟩ rfl rfl hl.1 rfl (lv_room (Nat.le_of_ble_eq_true rfl)) dX12_readsRoundEnd_21 ⟨Nat.zero_le _, Nat.zero_le _⟩) (fun H locs hP hD hS => ?_)
  refine lv_bipush (v := 42) hx hb dX12_readsRoundEnd_24 (by decide) ?_
  refine lv_icmp_eq (tgt := 31) hx hb dX12_readsRoundEnd_26 (by decide) (fun c4 => ?_) (fun c4 => ?_)
  · have h := it_t h c4
    refine lv_aload_n hx hb dX12_readsRoundEnd_31 rfl (lv_at hl 0 rfl) ?_
    refine lv_aload_n hx hb dX12_readsRoundEnd_32 rfl (lv_at hl 0 rfl) ?_
    refine va_get (D := E.1) (ci := 11) (v := .int (S0_2.1 9)) (C := RX12) (T := TX12) (N := 57) hx hb hg in_X12 hown X.1 hP 0 rfl rfl 9 (by decide) (hg _ wf_X12_150) (fun _ h9 => h9) rfl dX12_readsRoundEnd_33 ?_
    refine lv_iconst (v := 1) hx hb dX12_readsRoundEnd_36 (by decide) ?_
    refine lv_iadd hx hb dX12_readsRoundEnd_37 ?_
    obtain ⟨S0_5, eS, h⟩ := lt_el h
    refine va_put (D := E.1) (ci := 11) (v := .int ((S0_2.1 9) + 1)) (ty := .int) (C := RX12) (T := TX12) (N := 57) hx hb hg in_X12 tyX12 tyX12_ok nmX12 hown X.1 hP hD hS 0 rfl rfl 9 (by decide) (hg _ wf_X12_150) (fun _ h9 => h9) rfl (by decide +kernel) rfl rfl (Nat.le_of_ble_eq_true rfl) dX12_readsRoundEnd_38 (fun H locs hP hD hS => ?_)
    have hP : va_P E.1 vwCl (cw_X12 E q0 S0_5) H := by rw [eS]; exact hP
    have hD : va_D A (cw_X12 E q0 S0_5) := by rw [eS]; exact hD
    clear eS
    refine lv_aload_n hx hb dX12_readsRoundEnd_41 rfl (lv_at hl 0 rfl) ?_
    obtain ⟨u6, hc, h⟩ := bd_el h
    refine ct_iA (w1 := cw_X12 E q0 S0_5) X hP hD hS (va_runV (C := RX12) (As := []) (rest := []) ⟨hx, hb, hml, hown, hg⟩ (c_X12_here l E q0 H.size S0_5 u6 hc) (cwV 0 hg (gwV wm_X12_156 wi_X12_here wsl_X12_here wini_X12 wco_X12_here) rfl rfl rfl (by decide +kernel) ⟨Nat.le_of_ble_eq_true rfl, Nat.le_of_ble_eq_true rfl⟩) ⟨ct_blind, ct_rv X.1 hP 0 rfl rfl, ct_preA X hP hD hS _⟩ rfl rfl hl.1 rfl (lv_room (Nat.le_of_ble_eq_true rfl)) dX12_readsRoundEnd_42 ⟨Nat.zero_le _, Nat.zero_le _⟩) (fun H locs hP hD hS => ?_)
    refine lv_bipush (v := 50) hx hb dX12_readsRoundEnd_45 (by decide) ?_
    refine lv_bipush (v := 57) hx hb dX12_readsRoundEnd_47 (by decide) ?_
    obtain ⟨u7, hc, h⟩ := bd_el h
    refine ct_iN X hP hD hS (va_runS (As := [.int u6, .int 50, .int 57]) (rest := []) ⟨hx, hb, hml, hown, hg⟩ (c_X12_in l E  H.size u6 50 57 u7 hc) (va_cwS 3 hg (gwS wm_X12_110 wst_X12_in wini_X12 wco_X12_in) rfl rfl rfl (by decide +kernel) ⟨Nat.le_of_ble_eq_true rfl, Nat.le_of_ble_eq_true rfl⟩) ⟨ct_blind, ct_preN X hS _⟩ rfl rfl hl.1 rfl (lv_room (Nat.le_of_ble_eq_true rfl)) dX12_readsRoundEnd_49 ⟨Nat.zero_le _, Nat.zero_le _⟩) (fun H locs hP hD hS => ?_)
    refine lv_if_ne (tgt := 65) hx hb dX12_readsRoundEnd_52 (by decide) (fun c8 => ?_) (fun c8 => ?_)
    · have h := it_f h c8
      refine lv_aload_n hx hb dX12_readsRoundEnd_65 rfl (lv_at hl 0 rfl) ?_
      obtain ⟨u9, hc, h⟩ := bd_el h
      refine ct_iA (w1 := cw_X12 E q0 S0_5) X hP hD hS (va_runV (C := RX12) (As := []) (rest := []) ⟨hx, hb, hml, hown, hg⟩ (c_X12_here l E q0 H.size S0_5 u9 hc) (cwV 0 hg (gwV wm_X12_156 wi_X12_here wsl_X12_here wini_X12 wco_X12_here) rfl rfl rfl (by decide +kernel) ⟨Nat.le_of_ble_eq_true rfl, Nat.le_of_ble_eq_true rfl⟩) ⟨ct_blind, ct_rv X.1 hP 0 rfl rfl, ct_preA X hP hD hS _⟩ rfl rfl hl.1 rfl (lv_room (Nat.le_of_ble_eq_true rfl)) dX12_readsRoundEnd_66 ⟨Nat.zero_le _, Nat.zero_le _⟩) (fun H locs hP hD hS => ?_)
      refine lv_bipush (v := 48) hx hb dX12_readsRoundEnd_69 (by decide) ?_
      refine lv_isub hx hb dX12_readsRoundEnd_71 ?_
      obtain ⟨v10, ev10, h⟩ := lt_el h
      refine lv_top' ev10 ?_
      refine lv_istore_n (lv' := [(1, .int v10), (0, .ref (q0 0))]) hx hb dX12_readsRoundEnd_72 rfl hl (by decide) rfl (fun ls hl => ?_)
      refine lv_aload_n hx hb dX12_readsRoundEnd_73 rfl (lv_at hl 1 rfl) ?_
      refine lv_aload_n hx hb dX12_readsRoundEnd_74 rfl (lv_at hl 1 rfl) ?_
      refine va_get (D := E.1) (ci := 11) (v := .int (S0_5.1 9)) (C := RX12) (T := TX12) (N := 57) hx hb hg in_X12 hown X.1 hP 0 rfl rfl 9 (by decide) (hg _ wf_X12_150) (fun _ h9 => h9) rfl dX12_readsRoundEnd_75 ?_
      refine lv_iconst (v := 1) hx hb dX12_readsRoundEnd_78 (by decide) ?_
      refine lv_iadd hx hb dX12_readsRoundEnd_79 ?_
      obtain ⟨S0_11, eS, h⟩ := lt_el h
      refine va_put (D := E.1) (ci := 11) (v := .int ((S0_5.1 9) + 1)) (ty := .int) (C := RX12) (T := TX12) (N := 57) hx hb hg in_X12 tyX12 tyX12_ok nmX12 hown X.1 hP hD hS 0 rfl rfl 9 (by decide) (hg _ wf_X12_150) (fun _ h9 => h9) rfl (by decide +kernel) rfl rfl (Nat.le_of_ble_eq_true rfl) dX12_readsRoundEnd_80 (fun H locs hP hD hS => ?_)
      have hP : va_P E.1 vwCl (cw_X12 E q0 S0_11) H := by rw [eS]; exact hP
      have hD : va_D A (cw_X12 E q0 S0_11) := by rw [eS]; exact hD
      clear eS
      refine lv_aload_n hx hb dX12_readsRoundEnd_83 rfl (lv_at hl 1 rfl) ?_
      refine va_get (D := E.1) (ci := 11) (v := .ref (q0 26)) (C := RX12) (T := TX12) (N := 57) hx hb hg in_X12 hown X.1 hP 0 rfl rfl 43 (by decide) (hg _ wf_X12_86) (fun _ h9 => h9) rfl dX12_readsRoundEnd_84 ?_
      refine lv_aload_n hx hb dX12_readsRoundEnd_87 rfl (lv_at hl 1 rfl) ?_
      refine va_get (D := E.1) (ci := 11) (v := .int (S0_11.1 45)) (C := RX12) (T := TX12) (N := 57) hx hb hg in_X12 hown X.1 hP 0 rfl rfl 45 (by decide) (hg _ wf_X12_366) (fun _ h9 => h9) rfl dX12_readsRoundEnd_88 ?_
      obtain ⟨hi, v12, ev12, h⟩ := rd_el h
      refine va_iald hx hb X.1 hP 26 0 rfl rfl hi dX12_readsRoundEnd_91 ?_
      refine lv_top' ev12 ?_
      refine lv_istore_n (lv' := [(2, .int v12), (1, .int v10), (0, .ref (q0 0))]) hx hb dX12_readsRoundEnd_92 rfl hl (by decide) rfl (fun ls hl => ?_)
      refine lv_aload_n hx hb dX12_readsRoundEnd_93 rfl (lv_at hl 2 rfl) ?_
      refine va_get (D := E.1) (ci := 11) (v := .int (S0_11.1 44)) (C := RX12) (T := TX12) (N := 57) hx hb hg in_X12 hown X.1 hP 0 rfl rfl 44 (by decide) (hg _ wf_X12_369) (fun _ h9 => h9) rfl dX12_readsRoundEnd_94 ?_
      refine lv_iload_n hx hb dX12_readsRoundEnd_97 rfl (lv_at hl 0 rfl) ?_
      refine lv_isub hx hb dX12_readsRoundEnd_98 ?_
      obtain ⟨v13, ev13, h⟩ := lt_el h
      refine lv_top' ev13 ?_
      refine lv_istore_n (lv' := [(3, .int v13), (2, .int v12), (1, .int v10), (0, .ref (q0 0))]) hx hb dX12_readsRoundEnd_99 rfl hl (by decide) rfl (fun ls hl => ?_)
      refine lv_iload_n hx hb dX12_readsRoundEnd_100 rfl (lv_at hl 1 rfl) ?_
      refine lv_iload_n hx hb dX12_readsRoundEnd_101 rfl (lv_at hl 0 rfl) ?_
      refine lv_iload_n hx hb dX12_readsRoundEnd_102 rfl (lv_at hl 2 rfl) ?_
      refine lv_imul hx hb dX12_readsRoundEnd_103 ?_
      refine lv_iadd hx hb dX12_readsRoundEnd_104 ?_
      refine lv_bipush (v := 64) hx hb dX12_readsRoundEnd_105 (by decide) ?_
      refine lv_icmp_le (tgt := 126) hx hb dX12_readsRoundEnd_107 (by decide) (fun c14 => ?_) (fun c14 => ?_)
      · have h := it_t h c14
        refine lv_iload_n hx hb dX12_readsRoundEnd_126 rfl (lv_at hl 0 rfl) ?_
        refine lv_istore (lv' := [(4, .int v13), (3, .int v13), (2, .int v12), (1, .int v10), (0, .ref (q0 0))]) hx hb dX12_readsRoundEnd_127 hl (by decide) rfl (fun ls hl => ?_)
        exact N129 fu S0_11 v10 v12 v13 v13 _ _ _ h hP hD hS (lv_sub hl [4, 3, 2, 1, 0] rfl)
      · have h := it_f h c14
        refine lv_aload_n hx hb dX12_readsRoundEnd_110 rfl (lv_at hl 3 rfl) ?_
        refine lv_bipush (v := 6) hx hb dX12_readsRoundEnd_111 (by decide) ?_
        refine lv_aload_n hx hb dX12_readsRoundEnd_113 rfl (lv_at hl 3 rfl) ?_
        refine va_get (D := E.1) (ci := 11) (v := .ref (q0 25)) (C := RX12) (T := TX12) (N := 57) hx hb hg in_X12 hown X.1 hP 0 rfl rfl 42 (by decide) (hg _ wf_X12_83) (fun _ h9 => h9) rfl dX12_readsRoundEnd_114 ?_
        refine lv_aload_n hx hb dX12_readsRoundEnd_117 rfl (lv_at hl 3 rfl) ?_
        refine va_get (D := E.1) (ci := 11) (v := .int (S0_11.1 45)) (C := RX12) (T := TX12) (N := 57) hx hb hg in_X12 hown X.1 hP 0 rfl rfl 45 (by decide) (hg _ wf_X12_366) (fun _ h9 => h9) rfl dX12_readsRoundEnd_118 ?_
        obtain ⟨hi, v15, ev15, h⟩ := rd_el h
        refine va_iald hx hb X.1 hP 25 0 rfl rfl hi dX12_readsRoundEnd_121 ?_
        refine lv_top' ev15 ?_
        obtain ⟨u16, hc, h⟩ := bd_el h
        refine ct_iA (w1 := cw_X12 E q0 u16.2) X hP hD hS (va_runV (C := RX12) (As := [.int 6, .int v15]) (rest := []) ⟨hx, hb, hml, hown, hg⟩ (c_X12_wrongAt l E q0 H.size S0_11 6 v15 u16 hc) (cwV 2 hg (gwV wm_X12_163 wi_X12_wrongAt wsl_X12_wrongAt wini_X12 wco_X12_wrongAt) rfl rfl rfl (by decide +kernel) ⟨Nat.le_of_ble_eq_true rfl, Nat.le_of_ble_eq_true rfl⟩) ⟨ct_blind, ct_rv X.1 hP 0 rfl rfl, ct_preA X hP hD hS _⟩ rfl rfl hl.1 rfl (lv_room (Nat.le_of_ble_eq_true rfl)) dX12_readsRoundEnd_122 ⟨Nat.zero_le _, Nat.zero_le _⟩) (fun H locs hP hD hS => ?_)
        obtain ⟨hn1, -, h⟩ := zb_el h
        exact RT u16.1 u16.2 _ _ _ _ h hn1 hP hD hS dX12_readsRoundEnd_125
    · have h := it_t h c8
      refine lv_aload_n hx hb dX12_readsRoundEnd_55 rfl (lv_at hl 0 rfl) ?_
      refine lv_iconst (v := 1) hx hb dX12_readsRoundEnd_56 (by decide) ?_
      refine lv_aload_n hx hb dX12_readsRoundEnd_57 rfl (lv_at hl 0 rfl) ?_
      refine va_get (D := E.1) (ci := 11) (v := .int (S0_5.1 9)) (C := RX12) (T := TX12) (N := 57) hx hb hg in_X12 hown X.1 hP 0 rfl rfl 9 (by decide) (hg _ wf_X12_150) (fun _ h9 => h9) rfl dX12_readsRoundEnd_58 ?_
      obtain ⟨u17, hc, h⟩ := bd_el h
      refine ct_iA (w1 := cw_X12 E q0 u17.2) X hP hD hS (va_runV (C := RX12) (As := [.int 1, .int (S0_5.1 9)]) (rest := []) ⟨hx, hb, hml, hown, hg⟩ (c_X12_wrongAt l E q0 H.size S0_5 1 (S0_5.1 9) u17 hc) (cwV 2 hg (gwV wm_X12_163 wi_X12_wrongAt wsl_X12_wrongAt wini_X12 wco_X12_wrongAt) rfl rfl rfl (by decide +kernel) ⟨Nat.le_of_ble_eq_true rfl, Nat.le_of_ble_eq_true rfl⟩) ⟨ct_blind, ct_rv X.1 hP 0 rfl rfl, ct_preA X hP hD hS _⟩ rfl rfl hl.1 rfl (lv_room (Nat.le_of_ble_eq_true rfl)) dX12_readsRoundEnd_61 ⟨Nat.zero_le _, Nat.zero_le _⟩) (fun H locs hP hD hS => ?_)
      obtain ⟨hn1, -, h⟩ := zb_el h
      exact RT u17.1 u17.2 _ _ _ _ h hn1 hP hD hS dX12_readsRoundEnd_64
  · have h := it_f h c4
    refine lv_iconst (v := 1) hx hb dX12_readsRoundEnd_29 (by decide) ?_
    exact RT 1 S0_2 _ _ _ _ h (by decide +kernel) hP hD hS dX12_readsRoundEnd_30
theorem dX12_readsSpoke_0 : decode cX12_readsSpoke 0 = .ok (.aload_n 0, 1) := by decide +kernel
theorem dX12_readsSpoke_1 : decode cX12_readsSpoke 1 = .ok (.invokevirtual 156, 3) := by decide +kernel
theorem dX12_readsSpoke_4 : decode cX12_readsSpoke 4 = .ok (.bipush 40, 2) := by decide +kernel
theorem dX12_readsSpoke_6 : decode cX12_readsSpoke 6 = .ok (.if_icmp .ne 70, 3) := by decide +kernel
theorem dX12_readsSpoke_9 : decode cX12_readsSpoke 9 = .ok (.aload_n 0, 1) := by decide +kernel
theorem dX12_readsSpoke_10 : decode cX12_readsSpoke 10 = .ok (.getfield 366, 3) := by decide +kernel
theorem dX12_readsSpoke_13 : decode cX12_readsSpoke 13 = .ok (.iconst 2, 1) := by decide +kernel
theorem dX12_readsSpoke_14 : decode cX12_readsSpoke 14 = .ok (.if_icmp .ne 13, 3) := by decide +kernel
theorem dX12_readsSpoke_17 : decode cX12_readsSpoke 17 = .ok (.aload_n 0, 1) := by decide +kernel
theorem dX12_readsSpoke_18 : decode cX12_readsSpoke 18 = .ok (.iconst 5, 1) := by decide +kernel
theorem dX12_readsSpoke_19 : decode cX12_readsSpoke 19 = .ok (.aload_n 0, 1) := by decide +kernel
theorem dX12_readsSpoke_20 : decode cX12_readsSpoke 20 = .ok (.getfield 150, 3) := by decide +kernel
theorem dX12_readsSpoke_23 : decode cX12_readsSpoke 23 = .ok (.invokevirtual 163, 3) := by decide +kernel
theorem dX12_readsSpoke_26 : decode cX12_readsSpoke 26 = .ok (.ireturn, 1) := by decide +kernel
theorem dX12_readsSpoke_27 : decode cX12_readsSpoke 27 = .ok (.aload_n 0, 1) := by decide +kernel
theorem dX12_readsSpoke_28 : decode cX12_readsSpoke 28 = .ok (.getfield 83, 3) := by decide +kernel
theorem dX12_readsSpoke_31 : decode cX12_readsSpoke 31 = .ok (.aload_n 0, 1) := by decide +kernel
theorem dX12_readsSpoke_32 : decode cX12_readsSpoke 32 = .ok (.getfield 366, 3) := by decide +kernel
theorem dX12_readsSpoke_35 : decode cX12_readsSpoke 35 = .ok (.aload_n 0, 1) := by decide +kernel
theorem dX12_readsSpoke_36 : decode cX12_readsSpoke 36 = .ok (.getfield 150, 3) := by decide +kernel
theorem dX12_readsSpoke_39 : decode cX12_readsSpoke 39 = .ok (.iastore, 1) := by decide +kernel
theorem dX12_readsSpoke_40 : decode cX12_readsSpoke 40 = .ok (.aload_n 0, 1) := by decide +kernel
theorem dX12_readsSpoke_41 : decode cX12_readsSpoke 41 = .ok (.getfield 86, 3) := by decide +kernel
theorem dX12_readsSpoke_44 : decode cX12_readsSpoke 44 = .ok (.aload_n 0, 1) := by decide +kernel
theorem dX12_readsSpoke_45 : decode cX12_readsSpoke 45 = .ok (.getfield 366, 3) := by decide +kernel
theorem dX12_readsSpoke_48 : decode cX12_readsSpoke 48 = .ok (.aload_n 0, 1) := by decide +kernel
theorem dX12_readsSpoke_49 : decode cX12_readsSpoke 49 = .ok (.getfield 369, 3) := by decide +kernel
theorem dX12_readsSpoke_52 : decode cX12_readsSpoke 52 = .ok (.iastore, 1) := by decide +kernel
theorem dX12_readsSpoke_53 : decode cX12_readsSpoke 53 = .ok (.aload_n 0, 1) := by decide +kernel
theorem dX12_readsSpoke_54 : decode cX12_readsSpoke 54 = .ok (.aload_n 0, 1) := by decide +kernel
theorem dX12_readsSpoke_55 : decode cX12_readsSpoke 55 = .ok (.getfield 366, 3) := by decide +kernel
theorem dX12_readsSpoke_58 : decode cX12_readsSpoke 58 = .ok (.iconst 1, 1) := by decide +kernel
theorem dX12_readsSpoke_59 : decode cX12_readsSpoke 59 = .ok (.iadd, 1) := by decide +kernel
theorem dX12_readsSpoke_60 : decode cX12_readsSpoke 60 = .ok (.putfield 366, 3) := by decide +kernel
theorem dX12_readsSpoke_63 : decode cX12_readsSpoke 63 = .ok (.aload_n 0, 1) := by decide +kernel
theorem dX12_readsSpoke_64 : decode cX12_readsSpoke 64 = .ok (.aload_n 0, 1) := by decide +kernel
theorem dX12_readsSpoke_65 : decode cX12_readsSpoke 65 = .ok (.getfield 150, 3) := by decide +kernel
theorem dX12_readsSpoke_68 : decode cX12_readsSpoke 68 = .ok (.iconst 1, 1) := by decide +kernel
theorem dX12_readsSpoke_69 : decode cX12_readsSpoke 69 = .ok (.iadd, 1) := by decide +kernel
theorem dX12_readsSpoke_70 : decode cX12_readsSpoke 70 = .ok (.putfield 150, 3) := by decide +kernel
theorem dX12_readsSpoke_73 : decode cX12_readsSpoke 73 = .ok (.goto (-73), 3) := by decide +kernel
theorem dX12_readsSpoke_76 : decode cX12_readsSpoke 76 = .ok (.aload_n 0, 1) := by decide +kernel
theorem dX12_readsSpoke_77 : decode cX12_readsSpoke 77 = .ok (.invokevirtual 156, 3) := by decide +kernel
theorem dX12_readsSpoke_80 : decode cX12_readsSpoke 80 = .ok (.bipush 48, 2) := by decide +kernel
theorem dX12_readsSpoke_82 : decode cX12_readsSpoke 82 = .ok (.bipush 55, 2) := by decide +kernel
theorem dX12_readsSpoke_84 : decode cX12_readsSpoke 84 = .ok (.invokestatic 110, 3) := by decide +kernel
theorem dX12_readsSpoke_87 : decode cX12_readsSpoke 87 = .ok (.ifCond .ne 13, 3) := by decide +kernel
theorem dX12_readsSpoke_90 : decode cX12_readsSpoke 90 = .ok (.aload_n 0, 1) := by decide +kernel
theorem dX12_readsSpoke_91 : decode cX12_readsSpoke 91 = .ok (.iconst 1, 1) := by decide +kernel
theorem dX12_readsSpoke_92 : decode cX12_readsSpoke 92 = .ok (.aload_n 0, 1) := by decide +kernel
theorem dX12_readsSpoke_93 : decode cX12_readsSpoke 93 = .ok (.getfield 150, 3) := by decide +kernel
theorem dX12_readsSpoke_96 : decode cX12_readsSpoke 96 = .ok (.invokevirtual 163, 3) := by decide +kernel
theorem dX12_readsSpoke_99 : decode cX12_readsSpoke 99 = .ok (.ireturn, 1) := by decide +kernel
theorem dX12_readsSpoke_100 : decode cX12_readsSpoke 100 = .ok (.aload_n 0, 1) := by decide +kernel
theorem dX12_readsSpoke_101 : decode cX12_readsSpoke 101 = .ok (.getfield 369, 3) := by decide +kernel
theorem dX12_readsSpoke_104 : decode cX12_readsSpoke 104 = .ok (.bipush 64, 2) := by decide +kernel
theorem dX12_readsSpoke_106 : decode cX12_readsSpoke 106 = .ok (.if_icmp .ne 14, 3) := by decide +kernel
theorem dX12_readsSpoke_109 : decode cX12_readsSpoke 109 = .ok (.aload_n 0, 1) := by decide +kernel
theorem dX12_readsSpoke_110 : decode cX12_readsSpoke 110 = .ok (.bipush 6, 2) := by decide +kernel
theorem dX12_readsSpoke_112 : decode cX12_readsSpoke 112 = .ok (.aload_n 0, 1) := by decide +kernel
theorem dX12_readsSpoke_113 : decode cX12_readsSpoke 113 = .ok (.getfield 150, 3) := by decide +kernel
theorem dX12_readsSpoke_116 : decode cX12_readsSpoke 116 = .ok (.invokevirtual 163, 3) := by decide +kernel
theorem dX12_readsSpoke_119 : decode cX12_readsSpoke 119 = .ok (.ireturn, 1) := by decide +kernel
theorem dX12_readsSpoke_120 : decode cX12_readsSpoke 120 = .ok (.aload_n 0, 1) := by decide +kernel
theorem dX12_readsSpoke_121 : decode cX12_readsSpoke 121 = .ok (.getfield 80, 3) := by decide +kernel
theorem dX12_readsSpoke_124 : decode cX12_readsSpoke 124 = .ok (.aload_n 0, 1) := by decide +kernel
theorem dX12_readsSpoke_125 : decode cX12_readsSpoke 125 = .ok (.getfield 369, 3) := by decide +kernel
theorem dX12_readsSpoke_128 : decode cX12_readsSpoke 128 = .ok (.aload_n 0, 1) := by decide +kernel
theorem dX12_readsSpoke_129 : decode cX12_readsSpoke 129 = .ok (.invokevirtual 156, 3) := by decide +kernel
theorem dX12_readsSpoke_132 : decode cX12_readsSpoke 132 = .ok (.bipush 48, 2) := by decide +kernel
theorem dX12_readsSpoke_134 : decode cX12_readsSpoke 134 = .ok (.isub, 1) := by decide +kernel
theorem dX12_readsSpoke_135 : decode cX12_readsSpoke 135 = .ok (.iastore, 1) := by decide +kernel
theorem dX12_readsSpoke_136 : decode cX12_readsSpoke 136 = .ok (.aload_n 0, 1) := by decide +kernel
theorem dX12_readsSpoke_137 : decode cX12_readsSpoke 137 = .ok (.aload_n 0, 1) := by decide +kernel
theorem dX12_readsSpoke_138 : decode cX12_readsSpoke 138 = .ok (.getfield 369, 3) := by decide +kernel
theorem dX12_readsSpoke_141 : decode cX12_readsSpoke 141 = .ok (.iconst 1, 1) := by decide +kernel
theorem dX12_readsSpoke_142 : decode cX12_readsSpoke 142 = .ok (.iadd, 1) := by decide +kernel
theorem dX12_readsSpoke_143 : decode cX12_readsSpoke 143 = .ok (.putfield 369, 3) := by decide +kernel
theorem dX12_readsSpoke_146 : decode cX12_readsSpoke 146 = .ok (.aload_n 0, 1) := by decide +kernel
theorem dX12_readsSpoke_147 : decode cX12_readsSpoke 147 = .ok (.aload_n 0, 1) := by decide +kernel
theorem dX12_readsSpoke_148 : decode cX12_readsSpoke 148 = .ok (.getfield 150, 3) := by decide +kernel
theorem dX12_readsSpoke_151 : decode cX12_readsSpoke 151 = .ok (.iconst 1, 1) := by decide +kernel
theorem dX12_readsSpoke_152 : decode cX12_readsSpoke 152 = .ok (.iadd, 1) := by decide +kernel
theorem dX12_readsSpoke_153 : decode cX12_readsSpoke 153 = .ok (.putfield 150, 3) := by decide +kernel
theorem dX12_readsSpoke_156 : decode cX12_readsSpoke 156 = .ok (.aload_n 0, 1) := by decide +kernel
theorem dX12_readsSpoke_157 : decode cX12_readsSpoke 157 = .ok (.invokevirtual 156, 3) := by decide +kernel
theorem dX12_readsSpoke_160 : decode cX12_readsSpoke 160 = .ok (.bipush 41, 2) := by decide +kernel
theorem dX12_readsSpoke_162 : decode cX12_readsSpoke 162 = .ok (.if_icmp .ne 19, 3) := by decide +kernel
theorem dX12_readsSpoke_165 : decode cX12_readsSpoke 165 = .ok (.aload_n 0, 1) := by decide +kernel
theorem dX12_readsSpoke_166 : decode cX12_readsSpoke 166 = .ok (.getfield 366, 3) := by decide +kernel
theorem dX12_readsSpoke_169 : decode cX12_readsSpoke 169 = .ok (.ifCond .le 12, 3) := by decide +kernel
theorem dX12_readsSpoke_172 : decode cX12_readsSpoke 172 = .ok (.aload_n 0, 1) := by decide +kernel
theorem dX12_readsSpoke_173 : decode cX12_readsSpoke 173 = .ok (.invokevirtual 372, 3) := by decide +kernel
theorem dX12_readsSpoke_176 : decode cX12_readsSpoke 176 = .ok (.ifCond .ne (-20), 3) := by decide +kernel
theorem dX12_readsSpoke_179 : decode cX12_readsSpoke 179 = .ok (.iconst 0, 1) := by decide +kernel
theorem dX12_readsSpoke_180 : decode cX12_readsSpoke 180 = .ok (.ireturn, 1) := by decide +kernel
theorem dX12_readsSpoke_181 : decode cX12_readsSpoke 181 = .ok (.iconst 1, 1) := by decide +kernel
theorem dX12_readsSpoke_182 : decode cX12_readsSpoke 182 = .ok (.ireturn, 1) := by decide +kernel
def f_X12_readsSpoke_n156  : Nat → Gr → Option (Int32 × Gr)
  | 0, _ => none
  | n + 1, S0 => (f_X12_here S0).bind fun u19 => if u19 = 41 then (if (S0.1 45) ≤ 0 then (some (1, S0)) else ((f_X12_readsRoundEnd S0).bind fun u22 => if u22.1 = 0 then (some (0, u22.2)) else (f_X12_readsSpoke_n156 n u22.2))) else (some (1, S0))
def f_X12_readsSpoke_n0  : Nat → Gr → Option (Int32 × Gr)
  | 0, _ => none
  | n + 1, S0 => (f_X12_here S0).bind fun u1 => if u1 = 40 then (if (S0.1 45) = 2 then ((f_X12_wrongAt S0 5 (S0.1 9)).bind fun u18 => zb' u18.1 (some (u18.1, u18.2))) else (ck' 2 (S0.1 45) (lt' (sA S0 42 (Int32.toNatClampNeg (S0.1 45)) (S0.1 9)) fun S0_14 => ck' 2 (S0_14.1 45) (lt' (sA S0_14 43 (Int32.toNatClampNeg (S0_14.1 45)) (S0_14.1 44)) fun S0_15 => lt' (sI S0_15 45 ((S0_15.1 45) + 1)) fun S0_16 => lt' (sI S0_16 9 ((S0_16.1 9) + 1)) fun S0_17 => f_X12_readsSpoke_n0 n S0_17)))) else ((f_X12_here S0).bind fun u3 => (f_X12_in u3 48 55).bind fun u4 => if u4 = 0 then ((f_X12_wrongAt S0 1 (S0.1 9)).bind fun u12 => zb' u12.1 (some (u12.1, u12.2))) else (if (S0.1 44) = 64 then ((f_X12_wrongAt S0 6 (S0.1 9)).bind fun u11 => zb' u11.1 (some (u11.1, u11.2))) else ((f_X12_here S0).bind fun u7 => ck' 64 (S0.1 44) (lt' (sA S0 41 (Int32.toNatClampNeg (S0.1 44)) (u7 - 48)) fun S0_8 => lt' (sI S0_8 44 ((S0_8.1 44) + 1)) fun S0_9 => lt' (sI S0_9 9 ((S0_9.1 9) + 1)) fun S0_10 => f_X12_readsSpoke_n156 fu S0_10))))
def f_X12_readsSpoke (S0 : Gr) : Option (Int32 × Gr) := f_X12_readsSpoke_n0 fu S0
set_option maxHeartbeats 4000000 in
set_option maxRecDepth 100000 in
theorem c_X12_readsSpoke (l : Launch) (E : Ec) (q0 : Nat → Nat) (sz : Nat) (S0 : Gr) (Rv : Int32 × Gr) (h : f_X12_readsSpoke S0 = some Rv) : Met l yX12_readsSpoke (wsM (.code yX12_readsSpoke cX12_readsSpoke 1 (some .boolean))) ({ frames := 2, cells := 0, slots := 0, locals := 46 } : Room) (va_Pc [.ref (q0 0)] (ctP E (cw_X12 E q0 S0) sz)) (ctI E (cw_X12 E q0 S0) (cw_X12 E q0 Rv.2) sz Rv.1) 0 0 (va_A (cw_X12 E q0 S0) sz) := by
  refine ct_metI (by decide) (Nat.le_of_ble_eq_true rfl) ?_
  intro p e s m ar below meth c A QM hx hb hml hown hg X hP hD hS RET ls hl
  have hown : s.vm.findClass RX12 = some m.cls := hown
  have hl : lv_has ls 1 [(0, .ref (q0 0))] := hl
  have RT : ∀ (v : Int32) (S0 : Gr) (H : Heap) (locs : List Loc) (ls : Array Slot) (pc : Nat), some (v, S0) = some Rv → narrow .boolean (.int v) = .int v → va_P E.1 vwCl (cw_X12 E q0 S0) H → va_D A (cw_X12 E q0 S0) → va_S A s.heap H locs → decode cX12_readsSpoke pc = .ok (.ireturn, 1) → W p l e ({ frames := 2, cells := 0, slots := 0, locals := 46 } : Room) s m ar below meth c H locs 0 0 QM (F0 m pc ls [.int v]) := by
    intro v S0 H locs ls pc e hn hP hD hS d
    obtain rfl := sm_e e
    exact RET H locs pc ls hn hP hD hS d
  clear RET
  have N156 : ∀ (n : Nat) (S0 : Gr) (H : Heap) (locs : List Loc) (ls : Array Slot), f_X12_readsSpoke_n156 n S0 = some Rv → va_P E.1 vwCl (cw_X12 E q0 S0) H → va_D A (cw_X12 E q0 S0) → va_S A s.heap H locs → lv_has ls 1 [(0, .ref (q0 0))] → W p l e ({ frames := 2, cells := 0, slots := 0, locals := 46 } : Room) s m ar below meth c H locs 0 0 QM (F0 m 156 ls []) := by
    intro n
    induction n with
    | zero => intro S0 H locs ls h; exact nn_el h
    | succ n ih =>
      intro S0 H locs ls h hP hD hS hl
      refine lv_aload_n hx hb dX12_readsSpoke_156 rfl (lv_at hl 0 rfl) ?_
      obtain ⟨u19, hc, h⟩ := bd_el h
      refine ct_iA (w1 := cw_X12 E q0 S0) X hP hD hS (va_runV (C := RX12) (As := []) (rest := []) ⟨hx, hb, hml, hown, hg⟩ (c_X12_here l E q0 H.size S0 u19 hc) (cwV 0 hg (gwV wm_X12_156 wi_X12_here wsl_X12_here wini_X12 wco_X12_here) rfl rfl rfl (by decide +kernel) ⟨Nat.le_of_ble_eq_true rfl, Nat.le_of_ble_eq_true rfl⟩) ⟨ct_blind, ct_rv X.1 hP 0 rfl rfl, ct_preA X hP hD hS _⟩ rfl rfl hl.1 rfl (lv_room (Nat.le_of_ble_eq_true rfl)) dX12_readsSpoke_157 ⟨Nat.zero_le _, Nat.zero_le _⟩) (fun H locs hP hD hS => ?_)
      refine lv_bipush (v := 41) hx hb dX12_readsSpoke_160 (by decide) ?_
      refine lv_icmp_ne (tgt := 181) hx hb dX12_readsSpoke_162 (by decide) (fun c20 => ?_) (fun c20 => ?_)
      · have h := it_f h c20
        refine lv_iconst (v := 1) hx hb dX12_readsSpoke_181 (by decide) ?_
        exact RT 1 S0 _ _ _ _ h (by decide +kernel) hP hD hS dX12_readsSpoke_182
      · have h := it_t h c20
        refine lv_aload_n hx hb dX12_readsSpoke_165 rfl (lv_at hl 0 rfl) ?_
        refine va_get (D := E.1) (ci := 11) (v := .int (S0.1 45)) (C := RX12) (T := TX12) (N := 57) hx hb hg in_X12 hown X.1 hP 0 rfl rfl 45 (by decide) (hg _ wf_X12_366) (fun _ h9 => h9) rfl dX12_readsSpoke_166 ?_
        refine lv_if_le (tgt := 181) hx hb dX12_readsSpoke_169 (by decide) (fun c21 => ?_) (fun c21 => ?_)
        · have h := it_t h c21
          refine lv_iconst (v := 1) hx hb dX12_readsSpoke_181 (by decide) ?_
          exact RT 1 S0 _ _ _ _ h (by decide +kernel) hP hD hS dX12_readsSpoke_182
        · have h := it_f h c21
          refine lv_aload_n hx hb dX12_readsSpoke_172 rfl (lv_at hl 0 rfl) ?_
          obtain ⟨u22, hc, h⟩ := bd_el h
          refine ct_iA (w1 := cw_X12 E q0 u22.2) X hP hD hS (va_runV (C := RX12) (As := []) (rest := []) ⟨hx, hb, hml, hown, hg⟩ (c_X12_readsRoundEnd l E q0 H.size S0 u22 hc) (cwV 0 hg (gwV wm_X12_372 wi_X12_readsRoundEnd wsl_X12_readsRoundEnd wini_X12 wco_X12_readsRoundEnd) rfl rfl rfl (by decide +kernel) ⟨Nat.le_of_ble_eq_true rfl, Nat.le_of_ble_eq_true rfl⟩) ⟨ct_blind, ct_rv X.1 hP 0 rfl rfl, ct_preA X hP hD hS _⟩ rfl rfl hl.1 rfl (lv_room (Nat.le_of_ble_eq_true rfl)) dX12_readsSpoke_173 ⟨Nat.zero_le _, Nat.zero_le _⟩) (fun H locs hP hD hS => ?_)
          refine lv_if_ne (tgt := 156) hx hb dX12_readsSpoke_176 (by decide) (fun c23 => ?_) (fun c23 => ?_)
          · have h := it_f h c23
            exact ih u22.2 _ _ _ h hP hD hS (lv_sub hl [0] rfl)
          · have h := it_t h c23
            refine lv_iconst (v := 0) hx hb dX12_readsSpoke_179 (by decide) ?_
            exact RT 0 u22.2 _ _ _ _ h (by decide +kernel) hP hD hS dX12_readsSpoke_180
  have N0 : ∀ (n : Nat) (S0 : Gr) (H : Heap) (locs : List Loc) (ls : Array Slot), f_X12_readsSpoke_n0 n S0 = some Rv → va_P E.1 vwCl (cw_X12 E q0 S0) H → va_D A (cw_X12 E q0 S0) → va_S A s.heap H locs → lv_has ls 1 [(0, .ref (q0 0))] → W p l e ({ frames := 2, cells := 0, slots := 0, locals := 46 } : Room) s m ar below meth c H locs 0 0 QM (F0 m 0 ls []) := by
    intro n
    induction n with
    | zero => intro S0 H locs ls h; exact nn_el h
    | succ n ih =>
      intro S0 H locs ls h hP hD hS hl
      refine lv_aload_n hx hb dX12_readsSpoke_0 rfl (lv_at hl 0 rfl) ?_
      obtain ⟨u1, hc, h⟩ := bd_el h
      refine ct_iA (w1 := cw_X12 E q0 S0) X hP hD hS (va_runV (C := RX12) (As := []) (rest := []) ⟨hx, hb, hml, hown, hg⟩ (c_X12_here l E q0 H.size S0 u1 hc) (cwV 0 hg (gwV wm_X12_156 wi_X12_here wsl_X12_here wini_X12 wco_X12_here) rfl rfl rfl (by decide +kernel) ⟨Nat.le_of_ble_eq_true rfl, Nat.le_of_ble_eq_true rfl⟩) ⟨ct_blind, ct_rv X.1 hP 0 rfl rfl, ct_preA X hP hD hS _⟩ rfl rfl hl.1 rfl (lv_room (Nat.le_of_ble_eq_true rfl)) dX12_readsSpoke_1 ⟨Nat.zero_le _, Nat.zero_le _⟩) (fun H locs hP hD hS => ?_)
      refine lv_bipush (v := 40) hx hb dX12_readsSpoke_4 (by decide) ?_
      refine lv_icmp_ne (tgt := 76) hx hb dX12_readsSpoke_6 (by decide) (fun c2 => ?_) (fun c2 => ?_)
      · have h := it_f h c2
        refine lv_aload_n hx hb dX12_readsSpoke_76 rfl (lv_at hl 0 rfl) ?_
        obtain ⟨u3, hc, h⟩ := bd_el h
        refine ct_iA (w1 := cw_X12 E q0 S0) X hP hD hS (va_runV (C := RX12) (As := []) (rest := []) ⟨hx, hb, hml, hown, hg⟩ (c_X12_here l E q0 H.size S0 u3 hc) (cwV 0 hg (gwV wm_X12_156 wi_X12_here wsl_X12_here wini_X12 wco_X12_here) rfl rfl rfl (by decide +kernel) ⟨Nat.le_of_ble_eq_true rfl, Nat.le_of_ble_eq_true rfl⟩) ⟨ct_blind, ct_rv X.1 hP 0 rfl rfl, ct_preA X hP hD hS _⟩ rfl rfl hl.1 rfl (lv_room (Nat.le_of_ble_eq_true rfl)) dX12_readsSpoke_77 ⟨Nat.zero_le _, Nat.zero_le _⟩) (fun H locs hP hD hS => ?_)
        refine lv_bipush (v := 48) hx hb dX12_readsSpoke_80 (by decide) ?_
        refine lv_bipush (v := 55) hx hb dX12_readsSpoke_82 (by decide) ?_
        obtain ⟨u4, hc, h⟩ := bd_el h
        refine ct_iN X hP hD hS (va_runS (As := [.int u3, .int 48, .int 55]) (rest := []) ⟨hx, hb, hml, hown, hg⟩ (c_X12_in l E  H.size u3 48 55 u4 hc) (va_cwS 3 hg (gwS wm_X12_110 wst_X12_in wini_X12 wco_X12_in) rfl rfl rfl (by decide +kernel) ⟨Nat.le_of_ble_eq_true rfl, Nat.le_of_ble_eq_true rfl⟩) ⟨ct_blind, ct_preN X hS _⟩ rfl rfl hl.1 rfl (lv_room (Nat.le_of_ble_eq_true rfl)) dX12_readsSpoke_84 ⟨Nat.zero_le _, Nat.zero_le _⟩) (fun H locs hP hD hS => ?_)
        refine lv_if_ne (tgt := 100) hx hb dX12_readsSpoke_87 (by decide) (fun c5 => ?_) (fun c5 => ?_)
        · have h := it_f h c5
          refine lv_aload_n hx hb dX12_readsSpoke_100 rfl (lv_at hl 0 rfl) ?_
          refine va_get (D := E.1) (ci := 11) (v := .int (S0.1 44)) (C := RX12) (T := TX12) (N := 57) hx hb hg in_X12 hown X.1 hP 0 rfl rfl 44 (by decide) (hg _ wf_X12_369) (fun _ h9 => h9) rfl dX12_readsSpoke_101 ?_
          refine lv_bipush (v := 64) hx hb dX12_readsSpoke_104 (by decide) ?_
          refine lv_icmp_ne (tgt := 120) hx hb dX12_readsSpoke_106 (by decide) (fun c6 => ?_) (fun c6 => ?_)
          · have h := it_f h c6
            refine lv_aload_n hx hb dX12_readsSpoke_120 rfl (lv_at hl 0 rfl) ?_
            refine va_get (D := E.1) (ci := 11) (v := .ref (q0 24)) (C := RX12) (T := TX12) (N := 57) hx hb hg in_X12 hown X.1 hP 0 rfl rfl 41 (by decide) (hg _ wf_X12_80) (fun _ h9 => h9) rfl dX12_readsSpoke_121 ?_
            refine lv_aload_n hx hb dX12_readsSpoke_124 rfl (lv_at hl 0 rfl) ?_
            refine va_get (D := E.1) (ci := 11) (v := .int (S0.1 44)) (C := RX12) (T := TX12) (N := 57) hx hb hg in_X12 hown X.1 hP 0 rfl rfl 44 (by decide) (hg _ wf_X12_369) (fun _ h9 => h9) rfl dX12_readsSpoke_125 ?_
            refine lv_aload_n hx hb dX12_readsSpoke_128 rfl (lv_at hl 0 rfl) ?_
            obtain ⟨u7, hc, h⟩ := bd_el h
            refine ct_iA (w1 := cw_X12 E q0 S0) X hP hD hS (va_runV (C := RX12) (As := []) (rest := [.int (S0.1 44), .ref (q0 24)]) ⟨hx, hb, hml, hown, hg⟩ (c_X12_here l E q0 H.size S0 u7 hc) (cwV 0 hg (gwV wm_X12_156 wi_X12_here wsl_X12_here wini_X12 wco_X12_here) rfl rfl rfl (by decide +kernel) ⟨Nat.le_of_ble_eq_true rfl, Nat.le_of_ble_eq_true rfl⟩) ⟨ct_blind, ct_rv X.1 hP 0 rfl rfl, ct_preA X hP hD hS _⟩ rfl rfl hl.1 rfl (lv_room (Nat.le_of_ble_eq_true rfl)) dX12_readsSpoke_129 ⟨Nat.zero_le _, Nat.zero_le _⟩) (fun H locs hP hD hS => ?_)
            refine lv_bipush (v := 48) hx hb dX12_readsSpoke_132 (by decide) ?_
            refine lv_isub hx hb dX12_readsSpoke_134 ?_
            obtain ⟨hi, h⟩ := ck_el h
            obtain ⟨S0_8, eS, h⟩ := lt_el h
            refine va_iast hx hb X.1 hP hD hS 24 0 rfl rfl hi dX12_readsSpoke_135 (fun H locs hP hD hS => ?_)
            have hP : va_P E.1 vwCl (cw_X12 E q0 S0_8) H := by rw [eS]; exact hP
            have hD : va_D A (cw_X12 E q0 S0_8) := by rw [eS]; exact hD
            clear eS
            refine lv_aload_n hx hb dX12_readsSpoke_136 rfl (lv_at hl 0 rfl) ?_
            refine lv_aload_n hx hb dX12_readsSpoke_137 rfl (lv_at hl 0 rfl) ?_
            refine va_get (D := E.1) (ci := 11) (v := .int (S0_8.1 44)) (C := RX12) (T := TX12) (N := 57) hx hb hg in_X12 hown X.1 hP 0 rfl rfl 44 (by decide) (hg _ wf_X12_369) (fun _ h9 => h9) rfl dX12_readsSpoke_138 ?_
            refine lv_iconst (v := 1) hx hb dX12_readsSpoke_141 (by decide) ?_
            refine lv_iadd hx hb dX12_readsSpoke_142 ?_
            obtain ⟨S0_9, eS, h⟩ := lt_el h
            refine va_put (D := E.1) (ci := 11) (v := .int ((S0_8.1 44) + 1)) (ty := .int) (C := RX12) (T := TX12) (N := 57) hx hb hg in_X12 tyX12 tyX12_ok nmX12 hown X.1 hP hD hS 0 rfl rfl 44 (by decide) (hg _ wf_X12_369) (fun _ h9 => h9) rfl (by decide +kernel) rfl rfl (Nat.le_of_ble_eq_true rfl) dX12_readsSpoke_143 (fun H locs hP hD hS => ?_)
            have hP : va_P E.1 vwCl (cw_X12 E q0 S0_9) H := by rw [eS]; exact hP
            have hD : va_D A (cw_X12 E q0 S0_9) := by rw [eS]; exact hD
            clear eS
            refine lv_aload_n hx hb dX12_readsSpoke_146 rfl (lv_at hl 0 rfl) ?_
            refine lv_aload_n hx hb dX12_readsSpoke_147 rfl (lv_at hl 0 rfl) ?_
            refine va_get (D := E.1) (ci := 11) (v := .int (S0_9.1 9)) (C := RX12) (T := TX12) (N := 57) hx hb hg in_X12 hown X.1 hP 0 rfl rfl 9 (by decide) (hg _ wf_X12_150) (fun _ h9 => h9) rfl dX12_readsSpoke_148 ?_
            refine lv_iconst (v := 1) hx hb dX12_readsSpoke_151 (by decide) ?_
            refine lv_iadd hx hb dX12_readsSpoke_152 ?_
            obtain ⟨S0_10, eS, h⟩ := lt_el h
            refine va_put (D := E.1) (ci := 11) (v := .int ((S0_9.1 9) + 1)) (ty := .int) (C := RX12) (T := TX12) (N := 57) hx hb hg in_X12 tyX12 tyX12_ok nmX12 hown X.1 hP hD hS 0 rfl rfl 9 (by decide) (hg _ wf_X12_150) (fun _ h9 => h9) rfl (by decide +kernel) rfl rfl (Nat.le_of_ble_eq_true rfl) dX12_readsSpoke_153 (fun H locs hP hD hS => ?_)
            have hP : va_P E.1 vwCl (cw_X12 E q0 S0_10) H := by rw [eS]; exact hP
            have hD : va_D A (cw_X12 E q0 S0_10) := by rw [eS]; exact hD
            clear eS
            exact N156 fu S0_10 _ _ _ h hP hD hS (lv_sub hl [0] rfl)
          · have h := it_t h c6
            refine lv_aload_n hx hb dX12_readsSpoke_109 rfl (lv_at hl 0 rfl) ?_
            refine lv_bipush (v := 6) hx hb dX12_readsSpoke_110 (by decide) ?_
            refine lv_aload_n hx hb dX12_readsSpoke_112 rfl (lv_at hl 0 rfl) ?_
            refine va_get (D := E.1) (ci := 11) (v := .int (S0.1 9)) (C := RX12) (T := TX12) (N := 57) hx hb hg in_X12 hown X.1 hP 0 rfl rfl 9 (by decide) (hg _ wf_X12_150) (fun _ h9 => h9) rfl dX12_readsSpoke_113 ?_
            obtain ⟨u11, hc, h⟩ := bd_el h
            refine ct_iA (w1 := cw_X12 E q0 u11.2) X hP hD hS (va_runV (C := RX12) (As := [.int 6, .int (S0.1 9)]) (rest := []) ⟨hx, hb, hml, hown, hg⟩ (c_X12_wrongAt l E q0 H.size S0 6 (S0.1 9) u11 hc) (cwV 2 hg (gwV wm_X12_163 wi_X12_wrongAt wsl_X12_wrongAt wini_X12 wco_X12_wrongAt) rfl rfl rfl (by decide +kernel) ⟨Nat.le_of_ble_eq_true rfl, Nat.le_of_ble_eq_true rfl⟩) ⟨ct_blind, ct_rv X.1 hP 0 rfl rfl, ct_preA X hP hD hS _⟩ rfl rfl hl.1 rfl (lv_room (Nat.le_of_ble_eq_true rfl)) dX12_readsSpoke_116 ⟨Nat.zero_le _, Nat.zero_le _⟩) (fun H locs hP hD hS => ?_)
            obtain ⟨hn1, -, h⟩ := zb_el h
            exact RT u11.1 u11.2 _ _ _ _ h hn1 hP hD hS dX12_readsSpoke_119
        · have h := it_t h c5
          refine lv_aload_n hx hb dX12_readsSpoke_90 rfl (lv_at hl 0 rfl) ?_
          refine lv_iconst (v := 1) hx hb dX12_readsSpoke_91 (by decide) ?_
          refine lv_aload_n hx hb dX12_readsSpoke_92 rfl (lv_at hl 0 rfl) ?_
          refine va_get (D := E.1) (ci := 11) (v := .int (S0.1 9)) (C := RX12) (T := TX12) (N := 57) hx hb hg in_X12 hown X.1 hP 0 rfl rfl 9 (by decide) (hg _ wf_X12_150) (fun _ h9 => h9) rfl dX12_readsSpoke_93 ?_
          obtain ⟨u12, hc, h⟩ := bd_el h
          refine ct_iA (w1 := cw_X12 E q0 u12.2) X hP hD hS (va_runV (C := RX12) (As := [.int 1, .int (S0.1 9)]) (rest := []) ⟨hx, hb, hml, hown, hg⟩ (c_X12_wrongAt l E q0 H.size S0 1 (S0.1 9) u12 hc) (cwV 2 hg (gwV wm_X12_163 wi_X12_wrongAt wsl_X12_wrongAt wini_X12 wco_X12_wrongAt) rfl rfl rfl (by decide +kernel) ⟨Nat.le_of_ble_eq_true rfl, Nat.le_of_ble_eq_true rfl⟩) ⟨ct_blind, ct_rv X.1 hP 0 rfl rfl, ct_preA X hP hD hS _⟩ rfl rfl hl.1 rfl (lv_room (Nat.le_of_ble_eq_true rfl)) dX12_readsSpoke_96 ⟨Nat.zero_le _, Nat.zero_le _⟩) (fun H locs hP hD hS => ?_)
          obtain ⟨hn1, -, h⟩ := zb_el h
          exact RT u12.1 u12.2 _ _ _ _ h hn1 hP hD hS dX12_readsSpoke_99
      · have h := it_t h c2
        refine lv_aload_n hx hb dX12_readsSpoke_9 rfl (lv_at hl 0 rfl) ?_
        refine va_get (D := E.1) (ci := 11) (v := .int (S0.1 45)) (C := RX12) (T := TX12) (N := 57) hx hb hg in_X12 hown X.1 hP 0 rfl rfl 45 (by decide) (hg _ wf_X12_366) (fun _ h9 => h9) rfl dX12_readsSpoke_10 ?_
        refine lv_iconst (v := 2) hx hb dX12_readsSpoke_13 (by decide) ?_
        refine lv_icmp_ne (tgt := 27) hx hb dX12_readsSpoke_14 (by decide) (fun c13 => ?_) (fun c13 => ?_)
        · have h := it_f h c13
          refine lv_aload_n hx hb dX12_readsSpoke_27 rfl (lv_at hl 0 rfl) ?_
          refine va_get (D := E.1) (ci := 11) (v := .ref (q0 25)) (C := RX12) (T := TX12) (N := 57) hx hb hg in_X12 hown X.1 hP 0 rfl rfl 42 (by decide) (hg _ wf_X12_83) (fun _ h9 => h9) rfl dX12_readsSpoke_28 ?_
          refine lv_aload_n hx hb dX12_readsSpoke_31 rfl (lv_at hl 0 rfl) ?_
          refine va_get (D := E.1) (ci := 11) (v := .int (S0.1 45)) (C := RX12) (T := TX12) (N := 57) hx hb hg in_X12 hown X.1 hP 0 rfl rfl 45 (by decide) (hg _ wf_X12_366) (fun _ h9 => h9) rfl dX12_readsSpoke_32 ?_
          refine lv_aload_n hx hb dX12_readsSpoke_35 rfl (lv_at hl 0 rfl) ?_
          refine va_get (D := E.1) (ci := 11) (v := .int (S0.1 9)) (C := RX12) (T := TX12) (N := 57) hx hb hg in_X12 hown X.1 hP 0 rfl rfl 9 (by decide) (hg _ wf_X12_150) (fun _ h9 => h9) rfl dX12_readsSpoke_36 ?_
          obtain ⟨hi, h⟩ := ck_el h
          obtain ⟨S0_14, eS, h⟩ := lt_el h
          refine va_iast hx hb X.1 hP hD hS 25 0 rfl rfl hi dX12_readsSpoke_39 (fun H locs hP hD hS => ?_)
          have hP : va_P E.1 vwCl (cw_X12 E q0 S0_14) H := by rw [eS]; exact hP
          have hD : va_D A (cw_X12 E q0 S0_14) := by rw [eS]; exact hD
          clear eS
          refine lv_aload_n hx hb dX12_readsSpoke_40 rfl (lv_at hl 0 rfl) ?_
          refine va_get (D := E.1) (ci := 11) (v := .ref (q0 26)) (C := RX12) (T := TX12) (N := 57) hx hb hg in_X12 hown X.1 hP 0 rfl rfl 43 (by decide) (hg _ wf_X12_86) (fun _ h9 => h9) rfl dX12_readsSpoke_41 ?_
          refine lv_aload_n hx hb dX12_readsSpoke_44 rfl (lv_at hl 0 rfl) ?_
          refine va_get (D := E.1) (ci := 11) (v := .int (S0_14.1 45)) (C := RX12) (T := TX12) (N := 57) hx hb hg in_X12 hown X.1 hP 0 rfl rfl 45 (by decide) (hg _ wf_X12_366) (fun _ h9 => h9) rfl dX12_readsSpoke_45 ?_
          refine lv_aload_n hx hb dX12_readsSpoke_48 rfl (lv_at hl 0 rfl) ?_
          refine va_get (D := E.1) (ci := 11) (v := .int (S0_14.1 44)) (C := RX12) (T := TX12) (N := 57) hx hb hg in_X12 hown X.1 hP 0 rfl rfl 44 (by decide) (hg _ wf_X12_369) (fun _ h9 => h9) rfl dX12_readsSpoke_49 ?_
          obtain ⟨hi, h⟩ := ck_el h
          obtain ⟨S0_15, eS, h⟩ := lt_el h
          refine va_iast hx hb X.1 hP hD hS 26 0 rfl rfl hi dX12_readsSpoke_52 (fun H locs hP hD hS => ?_)
          have hP : va_P E.1 vwCl (cw_X12 E q0 S0_15) H := by rw [eS]; exact hP
          have hD : va_D A (cw_X12 E q0 S0_15) := by rw [eS]; exact hD
          clear eS
          refine lv_aload_n hx hb dX12_readsSpoke_53 rfl (lv_at hl 0 rfl) ?_
          refine lv_aload_n hx hb dX12_readsSpoke_54 rfl (lv_at hl 0 rfl) ?_
          refine va_get (D := E.1) (ci := 11) (v := .int (S0_15.1 45)) (C := RX12) (T := TX12) (N := 57) hx hb hg in_X12 hown X.1 hP 0 rfl rfl 45 (by decide) (hg _ wf_X12_366) (fun _ h9 => h9) rfl dX12_readsSpoke_55 ?_
          refine lv_iconst (v := 1) hx hb dX12_readsSpoke_58 (by decide) ?_
          refine lv_iadd hx hb dX12_readsSpoke_59 ?_
          obtain ⟨S0_16, eS, h⟩ := lt_el h
          refine va_put (D := E.1) (ci := 11) (v := .int ((S0_15.1 45) + 1)) (ty := .int) (C := RX12) (T := TX12) (N := 57) hx hb hg in_X12 tyX12 tyX12_ok nmX12 hown X.1 hP hD hS 0 rfl rfl 45 (by decide) (hg _ wf_X12_366) (fun _ h9 => h9) rfl (by decide +kernel) rfl rfl (Nat.le_of_ble_eq_true rfl) dX12_readsSpoke_60 (fun H locs hP hD hS => ?_)
          have hP : va_P E.1 vwCl (cw_X12 E q0 S0_16) H := by rw [eS]; exact hP
          have hD : va_D A (cw_X12 E q0 S0_16) := by rw [eS]; exact hD
          clear eS
          refine lv_aload_n hx hb dX12_readsSpoke_63 rfl (lv_at hl 0 rfl) ?_
          refine lv_aload_n hx hb dX12_readsSpoke_64 rfl (lv_at hl 0 rfl) ?_
          refine va_get (D := E.1) (ci := 11) (v := .int (S0_16.1 9)) (C := RX12) (T := TX12) (N := 57) hx hb hg in_X12 hown X.1 hP 0 rfl rfl 9 (by decide) (hg _ wf_X12_150) (fun _ h9 => h9) rfl dX12_readsSpoke_65 ?_
          refine lv_iconst (v := 1) hx hb dX12_readsSpoke_68 (by decide) ?_
          refine lv_iadd hx hb dX12_readsSpoke_69 ?_
          obtain ⟨S0_17, eS, h⟩ := lt_el h
          refine va_put (D := E.1) (ci := 11) (v := .int ((S0_16.1 9) + 1)) (ty := .int) (C := RX12) (T := TX12) (N := 57) hx hb hg in_X12 tyX12 tyX12_ok nmX12 hown X.1 hP hD hS 0 rfl rfl 9 (by decide) (hg _ wf_X12_150) (fun _ h9 => h9) rfl (by decide +kernel) rfl rfl (Nat.le_of_ble_eq_true rfl) dX12_readsSpoke_70 (fun H locs hP hD hS => ?_)
          have hP : va_P E.1 vwCl (cw_X12 E q0 S0_17) H := by rw [eS]; exact hP
          have hD : va_D A (cw_X12 E q0 S0_17) := by rw [eS]; exact hD
          clear eS
          refine lv_goto (tgt := 0) hx hb dX12_readsSpoke_73 (by decide) ?_
          exact ih S0_17 _ _ _ h hP hD hS (lv_sub hl [0] rfl)
        · have h := it_t h c13
          refine lv_aload_n hx hb dX12_readsSpoke_17 rfl (lv_at hl 0 rfl) ?_
          refine lv_iconst (v := 5) hx hb dX12_readsSpoke_18 (by decide) ?_
          refine lv_aload_n hx hb dX12_readsSpoke_19 rfl (lv_at hl 0 rfl) ?_
          refine va_get (D := E.1) (ci := 11) (v := .int (S0.1 9)) (C := RX12) (T := TX12) (N := 57) hx hb hg in_X12 hown X.1 hP 0 rfl rfl 9 (by decide) (hg _ wf_X12_150) (fun _ h9 => h9) rfl dX12_readsSpoke_20 ?_
          obtain ⟨u18, hc, h⟩ := bd_el h
          refine ct_iA (w1 := cw_X12 E q0 u18.2) X hP hD hS (va_runV (C := RX12) (As := [.int 5, .int (S0.1 9)]) (rest := []) ⟨hx, hb, hml, hown, hg⟩ (c_X12_wrongAt l E q0 H.size S0 5 (S0.1 9) u18 hc) (cwV 2 hg (gwV wm_X12_163 wi_X12_wrongAt wsl_X12_wrongAt wini_X12 wco_X12_wrongAt) rfl rfl rfl (by decide +kernel) ⟨Nat.le_of_ble_eq_true rfl, Nat.le_of_ble_eq_true rfl⟩) ⟨ct_blind, ct_rv X.1 hP 0 rfl rfl, ct_preA X hP hD hS _⟩ rfl rfl hl.1 rfl (lv_room (Nat.le_of_ble_eq_true rfl)) dX12_readsSpoke_23 ⟨Nat.zero_le _, Nat.zero_le _⟩) (fun H locs hP hD hS => ?_)
          obtain ⟨hn1, -, h⟩ := zb_el h
          exact RT u18.1 u18.2 _ _ _ _ h hn1 hP hD hS dX12_readsSpoke_26
  obtain ⟨H, eH⟩ : ∃ z, z = s.heap := ⟨_, rfl⟩
  rw [← eH]
  have hP : va_P E.1 vwCl (cw_X12 E q0 S0) H := by rw [eH]; exact hP
  have hS : va_S A s.heap H [] := by rw [eH]; exact hS
  clear eH
  obtain ⟨locs, el⟩ : ∃ z : List Loc, z = [] := ⟨_, rfl⟩
  rw [← el] at hS ⊢
  clear el
  exact N0 fu S0 _ _ _ h hP hD hS (lv_sub hl [0] rfl)
theorem dX12_turnsOf_0 : decode cX12_turnsOf 0 = .ok (.iconst 0, 1) := by decide +kernel
theorem dX12_turnsOf_1 : decode cX12_turnsOf 1 = .ok (.istore_n 1, 1) := by decide +kernel
theorem dX12_turnsOf_2 : decode cX12_turnsOf 2 = .ok (.iconst 1, 1) := by decide +kernel
theorem dX12_turnsOf_3 : decode cX12_turnsOf 3 = .ok (.istore_n 2, 1) := by decide +kernel
theorem dX12_turnsOf_4 : decode cX12_turnsOf 4 = .ok (.iload_n 2, 1) := by decide +kernel
theorem dX12_turnsOf_5 : decode cX12_turnsOf 5 = .ok (.aload_n 0, 1) := by decide +kernel
theorem dX12_turnsOf_6 : decode cX12_turnsOf 6 = .ok (.getfield 369, 3) := by decide +kernel
theorem dX12_turnsOf_9 : decode cX12_turnsOf 9 = .ok (.if_icmp .ge 47, 3) := by decide +kernel
theorem dX12_turnsOf_12 : decode cX12_turnsOf 12 = .ok (.aload_n 0, 1) := by decide +kernel
theorem dX12_turnsOf_13 : decode cX12_turnsOf 13 = .ok (.getfield 80, 3) := by decide +kernel
theorem dX12_turnsOf_16 : decode cX12_turnsOf 16 = .ok (.iload_n 2, 1) := by decide +kernel
theorem dX12_turnsOf_17 : decode cX12_turnsOf 17 = .ok (.iaload, 1) := by decide +kernel
theorem dX12_turnsOf_18 : decode cX12_turnsOf 18 = .ok (.aload_n 0, 1) := by decide +kernel
theorem dX12_turnsOf_19 : decode cX12_turnsOf 19 = .ok (.getfield 80, 3) := by decide +kernel
theorem dX12_turnsOf_22 : decode cX12_turnsOf 22 = .ok (.iload_n 2, 1) := by decide +kernel
theorem dX12_turnsOf_23 : decode cX12_turnsOf 23 = .ok (.iconst 1, 1) := by decide +kernel
theorem dX12_turnsOf_24 : decode cX12_turnsOf 24 = .ok (.isub, 1) := by decide +kernel
theorem dX12_turnsOf_25 : decode cX12_turnsOf 25 = .ok (.iaload, 1) := by decide +kernel
theorem dX12_turnsOf_26 : decode cX12_turnsOf 26 = .ok (.isub, 1) := by decide +kernel
theorem dX12_turnsOf_27 : decode cX12_turnsOf 27 = .ok (.bipush 8, 2) := by decide +kernel
theorem dX12_turnsOf_29 : decode cX12_turnsOf 29 = .ok (.iadd, 1) := by decide +kernel
theorem dX12_turnsOf_30 : decode cX12_turnsOf 30 = .ok (.bipush 8, 2) := by decide +kernel
theorem dX12_turnsOf_32 : decode cX12_turnsOf 32 = .ok (.irem, 1) := by decide +kernel
theorem dX12_turnsOf_33 : decode cX12_turnsOf 33 = .ok (.istore_n 3, 1) := by decide +kernel
theorem dX12_turnsOf_34 : decode cX12_turnsOf 34 = .ok (.iload_n 1, 1) := by decide +kernel
theorem dX12_turnsOf_35 : decode cX12_turnsOf 35 = .ok (.iload_n 3, 1) := by decide +kernel
theorem dX12_turnsOf_36 : decode cX12_turnsOf 36 = .ok (.iconst 4, 1) := by decide +kernel
theorem dX12_turnsOf_37 : decode cX12_turnsOf 37 = .ok (.if_icmp .ge 7, 3) := by decide +kernel
theorem dX12_turnsOf_40 : decode cX12_turnsOf 40 = .ok (.iload_n 3, 1) := by decide +kernel
theorem dX12_turnsOf_41 : decode cX12_turnsOf 41 = .ok (.goto 7, 3) := by decide +kernel
theorem dX12_turnsOf_44 : decode cX12_turnsOf 44 = .ok (.iload_n 3, 1) := by decide +kernel
theorem dX12_turnsOf_45 : decode cX12_turnsOf 45 = .ok (.bipush 8, 2) := by decide +kernel
theorem dX12_turnsOf_47 : decode cX12_turnsOf 47 = .ok (.isub, 1) := by decide +kernel
theorem dX12_turnsOf_48 : decode cX12_turnsOf 48 = .ok (.iadd, 1) := by decide +kernel
theorem dX12_turnsOf_49 : decode cX12_turnsOf 49 = .ok (.istore_n 1, 1) := by decide +kernel
theorem dX12_turnsOf_50 : decode cX12_turnsOf 50 = .ok (.iinc 2 1, 3) := by decide +kernel
theorem dX12_turnsOf_53 : decode cX12_turnsOf 53 = .ok (.goto (-49), 3) := by decide +kernel
theorem dX12_turnsOf_56 : decode cX12_turnsOf 56 = .ok (.iload_n 1, 1) := by decide +kernel
theorem dX12_turnsOf_57 : decode cX12_turnsOf 57 = .ok (.ireturn, 1) := by decide +kernel
def f_X12_turnsOf_n4 (S0 : Gr) : Nat → Int32 → Int32 → Option (Int32)
  | 0, _, _ => none
  | n + 1, x1, x2 => if (S0.1 44) ≤ x2 then (some x1) else (rd' (S0.2 41) 64 x2 fun v2 => rd' (S0.2 41) 64 (x2 - 1) fun v3 => lt' (((v2 - v3) + 8) - ((v2 - v3) + 8) / 8 * 8) fun v4 => if 4 ≤ v4 then (lt' ((x1 + (v4 - 8))) fun v6 => lt' (x2 + 1) fun v7 => f_X12_turnsOf_n4 S0 n v6 v7) else (lt' ((x1 + v4)) fun v8 => lt' (x2 + 1) fun v9 => f_X12_turnsOf_n4 S0 n v8 v9))
def f_X12_turnsOf (S0 : Gr) : Option (Int32) := f_X12_turnsOf_n4 S0 fu 0 1
set_option maxHeartbeats 4000000 in
set_option maxRecDepth 100000 in
theorem c_X12_turnsOf (l : Launch) (E : Ec) (q0 : Nat → Nat) (sz : Nat) (S0 : Gr) (Rv : Int32) (h : f_X12_turnsOf S0 = some Rv) : Met l yX12_turnsOf (wsM (.code yX12_turnsOf cX12_turnsOf 4 (some .int))) ({ frames := 0, cells := 0, slots := 0, locals := 0 } : Room) (va_Pc [.ref (q0 0)] (ctP E (cw_X12 E q0 S0) sz)) (ctI E (cw_X12 E q0 S0) (cw_X12 E q0 S0) sz Rv) 0 0 (va_A (cw_X12 E q0 S0) sz) := by
  refine ct_metI (by decide) (Nat.le_of_ble_eq_true rfl) ?_
  intro p e s m ar below meth c A QM hx hb hml hown hg X hP hD hS RET ls hl
  have hown : s.vm.findClass RX12 = some m.cls := hown
  have hl : lv_has ls 4 [(0, .ref (q0 0))] := hl
  have RT : ∀ (v : Int32) (H : Heap) (locs : List Loc) (ls : Array Slot) (pc : Nat), some v = some Rv → narrow .int (.int v) = .int v → va_P E.1 vwCl (cw_X12 E q0 S0) H → va_D A (cw_X12 E q0 S0) → va_S A s.heap H locs → decode cX12_turnsOf pc = .ok (.ireturn, 1) → W p l e ({ frames := 0, cells := 0, slots := 0, locals := 0 } : Room) s m ar below meth c H locs 0 0 QM (F0 m pc ls [.int v]) := by
    intro v H locs ls pc e hn hP hD hS d
    obtain rfl := sm_e e
    exact RET H locs pc ls hn hP hD hS d
  clear RET
  have N4 : ∀ (n : Nat) (x1 : Int32) (x2 : Int32) (H : Heap) (locs : List Loc) (ls : Array Slot), f_X12_turnsOf_n4 S0 n x1 x2 = some Rv → va_P E.1 vwCl (cw_X12 E q0 S0) H → va_D A (cw_X12 E q0 S0) → va_S A s.heap H locs → lv_has ls 4 [(0, .ref (q0 0)), (1, .int x1), (2, .int x2)] → W p l e ({ frames := 0, cells := 0, slots := 0, locals := 0 } : Room) s m ar below meth c H locs 0 0 QM (F0 m 4 ls []) := by
    intro n
    induction n with
    | zero => intro x1 x2 H locs ls h; exact nn_el h
    | succ n ih =>
      intro x1 x2 H locs ls h hP hD hS hl
      refine lv_iload_n hx hb dX12_turnsOf_4 rfl (lv_at hl 2 rfl) ?_
      refine lv_aload_n hx hb dX12_turnsOf_5 rfl (lv_at hl 0 rfl) ?_
      refine va_get (D := E.1) (ci := 11) (v := .int (S0.1 44)) (C := RX12) (T := TX12) (N := 57) hx hb hg in_X12 hown X.1 hP 0 rfl rfl 44 (by decide) (hg _ wf_X12_369) (fun _ h9 => h9) rfl dX12_turnsOf_6 ?_
      refine lv_icmp_ge (tgt := 56) hx hb dX12_turnsOf_9 (by decide) (fun c1 => ?_) (fun c1 => ?_)
      · have h := it_t h c1
        refine lv_iload_n hx hb dX12_turnsOf_56 rfl (lv_at hl 1 rfl) ?_
        exact RT x1 _ _ _ _ h rfl hP hD hS dX12_turnsOf_57
      · have h := it_f h c1
        refine lv_aload_n hx hb dX12_turnsOf_12 rfl (lv_at hl 0 rfl) ?_
        refine va_get (D := E.1) (ci := 11) (v := .ref (q0 24)) (C := RX12) (T := TX12) (N := 57) hx hb hg in_X12 hown X.1 hP 0 rfl rfl 41 (by decide) (hg _ wf_X12_80) (fun _ h9 => h9) rfl dX12_turnsOf_13 ?_
        refine lv_iload_n hx hb dX12_turnsOf_16 rfl (lv_at hl 2 rfl) ?_
        obtain ⟨hi, v2, ev2, h⟩ := rd_el h
        refine va_iald hx hb X.1 hP 24 0 rfl rfl hi dX12_turnsOf_17 ?_
        refine lv_top' ev2 ?_
        refine lv_aload_n hx hb dX12_turnsOf_18 rfl (lv_at hl 0 rfl) ?_
        refine va_get (D := E.1) (ci := 11) (v := .ref (q0 24)) (C := RX12) (T := TX12) (N := 57) hx hb hg in_X12 hown X.1 hP 0 rfl rfl 41 (by decide) (hg _ wf_X12_80) (fun _ h9 => h9) rfl dX12_turnsOf_19 ?_
        refine lv_iload_n hx hb dX12_turnsOf_22 rfl (lv_at hl 2 rfl) ?_
        refine lv_iconst (v := 1) hx hb dX12_turnsOf_23 (by decide) ?_
        refine lv_isub hx hb dX12_turnsOf_24 ?_
        obtain ⟨hi, v3, ev3, h⟩ := rd_el h
        refine va_iald hx hb X.1 hP 24 0 rfl rfl hi dX12_turnsOf_25 ?_
        refine lv_top' ev3 ?_
        refine lv_isub hx hb dX12_turnsOf_26 ?_
        refine lv_bipush (v := 8) hx hb dX12_turnsOf_27 (by decide) ?_
        refine lv_iadd hx hb dX12_turnsOf_29 ?_
        refine lv_bipush (v := 8) hx hb dX12_turnsOf_30 (by decide) ?_
        refine lv_irem hx hb dX12_turnsOf_32 (by decide) ?_
        obtain ⟨v4, ev4, h⟩ := lt_el h
        refine lv_top' ev4 ?_
        refine lv_istore_n (lv' := [(3, .int v4), (0, .ref (q0 0)), (1, .int x1), (2, .int x2)]) hx hb dX12_turnsOf_33 rfl hl (by decide) rfl (fun ls hl => ?_)
        refine lv_iload_n hx hb dX12_turnsOf_34 rfl (lv_at hl 2 rfl) ?_
        refine lv_iload_n hx hb dX12_turnsOf_35 rfl (lv_at hl 0 rfl) ?_
        refine lv_iconst (v := 4) hx hb dX12_turnsOf_36 (by decide) ?_
        refine lv_icmp_ge (tgt := 44) hx hb dX12_turnsOf_37 (by decide) (fun c5 => ?_) (fun c5 => ?_)
        · have h := it_t h c5
          refine lv_iload_n hx hb dX12_turnsOf_44 rfl (lv_at hl 0 rfl) ?_
          refine lv_bipush (v := 8) hx hb dX12_turnsOf_45 (by decide) ?_
          refine lv_isub hx hb dX12_turnsOf_47 ?_
          refine lv_iadd hx hb dX12_turnsOf_48 ?_
          obtain ⟨v6, ev6, h⟩ := lt_el h
          refine lv_top' ev6 ?_
          refine lv_istore_n (lv' := [(1, .int v6), (3, .int v4), (0, .ref (q0 0)), (2, .int x2)]) hx hb dX12_turnsOf_49 rfl hl (by decide) rfl (fun ls hl => ?_)
          obtain ⟨v7, ev7, h⟩ := lt_el h
          refine lv_iinc (v := v7) (lv' := [(2, .int v7), (1, .int v6), (3, .int v4), (0, .ref (q0 0))]) hx hb dX12_turnsOf_50 hl (k := 3) rfl (by rw [ev7]; rfl) (by decide) rfl (fun ls hl => ?_)
          refine lv_goto (tgt := 4) hx hb dX12_turnsOf_53 (by decide) ?_
          exact ih v6 v7 _ _ _ h hP hD hS (lv_sub hl [3, 1, 0] rfl)
        · have h := it_f h c5
          refine lv_iload_n hx hb dX12_turnsOf_40 rfl (lv_at hl 0 rfl) ?_
          refine lv_goto (tgt := 48) hx hb dX12_turnsOf_41 (by decide) ?_
          refine lv_iadd hx hb dX12_turnsOf_48 ?_
          obtain ⟨v8, ev8, h⟩ := lt_el h
          refine lv_top' ev8 ?_
          refine lv_istore_n (lv' := [(1, .int v8), (3, .int v4), (0, .ref (q0 0)), (2, .int x2)]) hx hb dX12_turnsOf_49 rfl hl (by decide) rfl (fun ls hl => ?_)
          obtain ⟨v9, ev9, h⟩ := lt_el h
          refine lv_iinc (v := v9) (lv' := [(2, .int v9), (1, .int v8), (3, .int v4), (0, .ref (q0 0))]) hx hb dX12_turnsOf_50 hl (k := 3) rfl (by rw [ev9]; rfl) (by decide) rfl (fun ls hl => ?_)
          refine lv_goto (tgt := 4) hx hb dX12_turnsOf_53 (by decide) ?_
          exact ih v8 v9 _ _ _ h hP hD hS (lv_sub hl [3, 1, 0] rfl)
  obtain ⟨H, eH⟩ : ∃ z, z = s.heap := ⟨_, rfl⟩
  rw [← eH]
  have hP : va_P E.1 vwCl (cw_X12 E q0 S0) H := by rw [eH]; exact hP
  have hS : va_S A s.heap H [] := by rw [eH]; exact hS
  clear eH
  obtain ⟨locs, el⟩ : ∃ z : List Loc, z = [] := ⟨_, rfl⟩
  rw [← el] at hS ⊢
  clear el
  refine lv_iconst (v := 0) hx hb dX12_turnsOf_0 (by decide) ?_
  refine lv_istore_n (lv' := [(1, .int 0), (0, .ref (q0 0))]) hx hb dX12_turnsOf_1 rfl hl (by decide) rfl (fun ls hl => ?_)
  refine lv_iconst (v := 1) hx hb dX12_turnsOf_2 (by decide) ?_
  refine lv_istore_n (lv' := [(2, .int 1), (1, .int 0), (0, .ref (q0 0))]) hx hb dX12_turnsOf_3 rfl hl (by decide) rfl (fun ls hl => ?_)
  exact N4 fu 0 1 _ _ _ h hP hD hS (lv_sub hl [2, 1, 0] rfl)
theorem dX12_log_0 : decode cX12_log 0 = .ok (.iload_n 1, 1) := by decide +kernel
theorem dX12_log_1 : decode cX12_log 1 = .ok (.iconst 1, 1) := by decide +kernel
theorem dX12_log_2 : decode cX12_log 2 = .ok (.bipush 80, 2) := by decide +kernel
theorem dX12_log_4 : decode cX12_log 4 = .ok (.invokestatic 110, 3) := by decide +kernel
theorem dX12_log_7 : decode cX12_log 7 = .ok (.ifCond .eq 32, 3) := by decide +kernel
theorem dX12_log_10 : decode cX12_log 10 = .ok (.iload_n 2, 1) := by decide +kernel
theorem dX12_log_11 : decode cX12_log 11 = .ok (.iconst 0, 1) := by decide +kernel
theorem dX12_log_12 : decode cX12_log 12 = .ok (.bipush 7, 2) := by decide +kernel
theorem dX12_log_14 : decode cX12_log 14 = .ok (.invokestatic 110, 3) := by decide +kernel
theorem dX12_log_17 : decode cX12_log 17 = .ok (.ifCond .ne 14, 3) := by decide +kernel
theorem dX12_log_20 : decode cX12_log 20 = .ok (.iload_n 2, 1) := by decide +kernel
theorem dX12_log_21 : decode cX12_log 21 = .ok (.bipush 100, 2) := by decide +kernel
theorem dX12_log_23 : decode cX12_log 23 = .ok (.bipush 104, 2) := by decide +kernel
theorem dX12_log_25 : decode cX12_log 25 = .ok (.invokestatic 110, 3) := by decide +kernel
theorem dX12_log_28 : decode cX12_log 28 = .ok (.ifCond .eq 11, 3) := by decide +kernel
theorem dX12_log_31 : decode cX12_log 31 = .ok (.iload_n 1, 1) := by decide +kernel
theorem dX12_log_32 : decode cX12_log 32 = .ok (.aload_n 0, 1) := by decide +kernel
theorem dX12_log_33 : decode cX12_log 33 = .ok (.getfield 143, 3) := by decide +kernel
theorem dX12_log_36 : decode cX12_log 36 = .ok (.if_icmp .le 5, 3) := by decide +kernel
theorem dX12_log_39 : decode cX12_log 39 = .ok (.iconst (-1), 1) := by decide +kernel
theorem dX12_log_40 : decode cX12_log 40 = .ok (.ireturn, 1) := by decide +kernel
theorem dX12_log_41 : decode cX12_log 41 = .ok (.aload_n 0, 1) := by decide +kernel
theorem dX12_log_42 : decode cX12_log 42 = .ok (.iload_n 1, 1) := by decide +kernel
theorem dX12_log_43 : decode cX12_log 43 = .ok (.invokevirtual 233, 3) := by decide +kernel
theorem dX12_log_46 : decode cX12_log 46 = .ok (.aload_n 0, 1) := by decide +kernel
theorem dX12_log_47 : decode cX12_log 47 = .ok (.iconst 0, 1) := by decide +kernel
theorem dX12_log_48 : decode cX12_log 48 = .ok (.putfield 369, 3) := by decide +kernel
theorem dX12_log_51 : decode cX12_log 51 = .ok (.aload_n 0, 1) := by decide +kernel
theorem dX12_log_52 : decode cX12_log 52 = .ok (.iconst 0, 1) := by decide +kernel
theorem dX12_log_53 : decode cX12_log 53 = .ok (.putfield 366, 3) := by decide +kernel
theorem dX12_log_56 : decode cX12_log 56 = .ok (.aload_n 0, 1) := by decide +kernel
theorem dX12_log_57 : decode cX12_log 57 = .ok (.invokevirtual 381, 3) := by decide +kernel
theorem dX12_log_60 : decode cX12_log 60 = .ok (.istore_n 3, 1) := by decide +kernel
theorem dX12_log_61 : decode cX12_log 61 = .ok (.iload_n 3, 1) := by decide +kernel
theorem dX12_log_62 : decode cX12_log 62 = .ok (.ifCond .eq 29, 3) := by decide +kernel
theorem dX12_log_65 : decode cX12_log 65 = .ok (.aload_n 0, 1) := by decide +kernel
theorem dX12_log_66 : decode cX12_log 66 = .ok (.getfield 150, 3) := by decide +kernel
theorem dX12_log_69 : decode cX12_log 69 = .ok (.aload_n 0, 1) := by decide +kernel
theorem dX12_log_70 : decode cX12_log 70 = .ok (.getfield 153, 3) := by decide +kernel
theorem dX12_log_73 : decode cX12_log 73 = .ok (.if_icmp .lt 10, 3) := by decide +kernel
theorem dX12_log_76 : decode cX12_log 76 = .ok (.aload_n 0, 1) := by decide +kernel
theorem dX12_log_77 : decode cX12_log 77 = .ok (.getfield 366, 3) := by decide +kernel
theorem dX12_log_80 : decode cX12_log 80 = .ok (.ifCond .le 11, 3) := by decide +kernel
theorem dX12_log_83 : decode cX12_log 83 = .ok (.aload_n 0, 1) := by decide +kernel
theorem dX12_log_84 : decode cX12_log 84 = .ok (.invokevirtual 381, 3) := by decide +kernel
theorem dX12_log_87 : decode cX12_log 87 = .ok (.istore_n 3, 1) := by decide +kernel
theorem dX12_log_88 : decode cX12_log 88 = .ok (.goto (-27), 3) := by decide +kernel
theorem dX12_log_91 : decode cX12_log 91 = .ok (.aload_n 0, 1) := by decide +kernel
theorem dX12_log_92 : decode cX12_log 92 = .ok (.iconst 0, 1) := by decide +kernel
theorem dX12_log_93 : decode cX12_log 93 = .ok (.putfield 143, 3) := by decide +kernel
theorem dX12_log_96 : decode cX12_log 96 = .ok (.iload_n 3, 1) := by decide +kernel
theorem dX12_log_97 : decode cX12_log 97 = .ok (.ifCond .ne 8, 3) := by decide +kernel
theorem dX12_log_100 : decode cX12_log 100 = .ok (.aload_n 0, 1) := by decide +kernel
theorem dX12_log_101 : decode cX12_log 101 = .ok (.getfield 160, 3) := by decide +kernel
theorem dX12_log_104 : decode cX12_log 104 = .ok (.ireturn, 1) := by decide +kernel
theorem dX12_log_105 : decode cX12_log 105 = .ok (.iload_n 2, 1) := by decide +kernel
theorem dX12_log_106 : decode cX12_log 106 = .ok (.tableswitch 59 100 104 #[34, 39, 44, 49, 54], 34) := by decide +kernel
theorem dX12_log_140 : decode cX12_log 140 = .ok (.aload_n 0, 1) := by decide +kernel
theorem dX12_log_141 : decode cX12_log 141 = .ok (.getfield 369, 3) := by decide +kernel
theorem dX12_log_144 : decode cX12_log 144 = .ok (.ireturn, 1) := by decide +kernel
theorem dX12_log_145 : decode cX12_log 145 = .ok (.aload_n 0, 1) := by decide +kernel
theorem dX12_log_146 : decode cX12_log 146 = .ok (.invokevirtual 384, 3) := by decide +kernel
theorem dX12_log_149 : decode cX12_log 149 = .ok (.ireturn, 1) := by decide +kernel
theorem dX12_log_150 : decode cX12_log 150 = .ok (.aload_n 0, 1) := by decide +kernel
theorem dX12_log_151 : decode cX12_log 151 = .ok (.invokevirtual 387, 3) := by decide +kernel
theorem dX12_log_154 : decode cX12_log 154 = .ok (.ireturn, 1) := by decide +kernel
theorem dX12_log_155 : decode cX12_log 155 = .ok (.aload_n 0, 1) := by decide +kernel
theorem dX12_log_156 : decode cX12_log 156 = .ok (.invokevirtual 390, 3) := by decide +kernel
theorem dX12_log_159 : decode cX12_log 159 = .ok (.ireturn, 1) := by decide +kernel
theorem dX12_log_160 : decode cX12_log 160 = .ok (.aload_n 0, 1) := by decide +kernel
theorem dX12_log_161 : decode cX12_log 161 = .ok (.invokevirtual 393, 3) := by decide +kernel
theorem dX12_log_164 : decode cX12_log 164 = .ok (.ireturn, 1) := by decide +kernel
theorem dX12_log_165 : decode cX12_log 165 = .ok (.aload_n 0, 1) := by decide +kernel
theorem dX12_log_166 : decode cX12_log 166 = .ok (.iload_n 2, 1) := by decide +kernel
theorem dX12_log_167 : decode cX12_log 167 = .ok (.invokevirtual 375, 3) := by decide +kernel
theorem dX12_log_170 : decode cX12_log 170 = .ok (.ireturn, 1) := by decide +kernel
def f_X12_log_n91 (x1 : Int32) (x2 : Int32) (S0 : Gr) (x3 : Int32) : Option (Int32 × Gr) := lt' (sI S0 8 0) fun S0_17 => if x3 = 0 then (some ((S0_17.1 11), S0_17)) else (if x2 = 100 then (some ((S0_17.1 44), S0_17)) else if x2 = 101 then ((f_X12_mostOften S0_17).bind fun u21 => some (u21, S0_17)) else if x2 = 102 then ((f_X12_longestRow S0_17).bind fun u23 => some (u23, S0_17)) else if x2 = 103 then ((f_X12_turnsOf S0_17).bind fun u25 => some (u25, S0_17)) else if x2 = 104 then ((f_X12_periodOf S0_17).bind fun u27 => some (u27, S0_17)) else ((f_X12_oftenOf S0_17 x2).bind fun u28 => some (u28, S0_17)))
def f_X12_log_n61 (x1 : Int32) (x2 : Int32) : Nat → Gr → Int32 → Option (Int32 × Gr)
  | 0, _, _ => none
  | n + 1, S0, x3 => if x3 = 0 then (f_X12_log_n91 x1 x2 S0 x3) else (if (S0.1 9) < (S0.1 10) then ((f_X12_readsSpoke S0).bind fun u14 => f_X12_log_n61 x1 x2 n u14.2 u14.1) else (if (S0.1 45) ≤ 0 then (f_X12_log_n91 x1 x2 S0 x3) else ((f_X12_readsSpoke S0).bind fun u16 => f_X12_log_n61 x1 x2 n u16.2 u16.1)))
def f_X12_log_n31 (x1 : Int32) (x2 : Int32) (S0 : Gr) : Option (Int32 × Gr) := if x1 ≤ (S0.1 8) then ((f_X12_beginsText S0 x1).bind fun u8 => lt' (sI u8 44 0) fun S0_9 => lt' (sI S0_9 45 0) fun S0_10 => (f_X12_readsSpoke S0_10).bind fun u11 => f_X12_log_n61 x1 x2 fu u11.2 u11.1) else (some ((-1), S0))
def f_X12_log (S0 : Gr) (x1 : Int32) (x2 : Int32) : Option (Int32 × Gr) := (f_X12_in x1 1 80).bind fun u1 => if u1 = 0 then (some ((-1), S0)) else ((f_X12_in x2 0 7).bind fun u3 => if u3 = 0 then ((f_X12_in x2 100 104).bind fun u5 => if u5 = 0 then (some ((-1), S0)) else (f_X12_log_n31 x1 x2 S0)) else (f_X12_log_n31 x1 x2 S0))
set_option maxHeartbeats 4000000 in
set_option maxRecDepth 100000 in
theorem c_X12_log (l : Launch) (E : Ec) (q0 : Nat → Nat) (sz : Nat) (S0 : Gr) (x1 : Int32) (x2 : Int32) (Rv : Int32 × Gr) (h : f_X12_log S0 x1 x2 = some Rv) : Met l yX12_log (wsM (.code yX12_log cX12_log 4 (some .int))) ({ frames := 3, cells := 0, slots := 0, locals := 66 } : Room) (va_Pc [.ref (q0 0), .int x1, .int x2] (ctP E (cw_X12 E q0 S0) sz)) (ctI E (cw_X12 E q0 S0) (cw_X12 E q0 Rv.2) sz Rv.1) 0 0 (va_A (cw_X12 E q0 S0) sz) := by
  refine ct_metI (by decide) (Nat.le_of_ble_eq_true rfl) ?_
  intro p e s m ar below meth c A QM hx hb hml hown hg X hP hD hS RET ls hl
  have hown : s.vm.findClass RX12 = some m.cls := hown
  have hl : lv_has ls 4 [(0, .ref (q0 0)), (1, .int x1), (2, .int x2)] := hl
  have RT : ∀ (v : Int32) (S0 : Gr) (H : Heap) (locs : List Loc) (ls : Array Slot) (pc : Nat), some (v, S0) = some Rv → narrow .int (.int v) = .int v → va_P E.1 vwCl (cw_X12 E q0 S0) H → va_D A (cw_X12 E q0 S0) → va_S A s.heap H locs → decode cX12_log pc = .ok (.ireturn, 1) → W p l e ({ frames := 3, cells := 0, slots := 0, locals := 66 } : Room) s m ar below meth c H locs 0 0 QM (F0 m pc ls [.int v]) := by
    intro v S0 H locs ls pc e hn hP hD hS d
    obtain rfl := sm_e e
    exact RET H locs pc ls hn hP hD hS d
  clear RET
  have N91 : ∀ (S0 : Gr) (x3 : Int32) (H : Heap) (locs : List Loc) (ls : Array Slot), f_X12_log_n91 x1 x2 S0 x3 = some Rv → va_P E.1 vwCl (cw_X12 E q0 S0) H → va_D A (cw_X12 E q0 S0) → va_S A s.heap H locs → lv_has ls 4 [(0, .ref (q0 0)), (2, .int x2), (3, .int x3)] → W p l e ({ frames := 3, cells := 0, slots := 0, locals := 66 } : Room) s m ar below meth c H locs 0 0 QM (F0 m 91 ls []) := by
    intro S0 x3 H locs ls h hP hD hS hl
    refine lv_aload_n hx hb dX12_log_91 rfl (lv_at hl 0 rfl) ?_
    refine lv_iconst (v := 0) hx hb dX12_log_92 (by decide) ?_
    obtain ⟨S0_17, eS, h⟩ := lt_el h
    refine va_put (D := E.1) (ci := 11) (v := .int 0) (ty := .int) (C := RX12) (T := TX12) (N := 57) hx hb hg in_X12 tyX12 tyX12_ok nmX12 hown X.1 hP hD hS 0 rfl rfl 8 (by decide) (hg _ wf_X12_143) (fun _ h9 => h9) rfl (by decide +kernel) rfl rfl (Nat.le_of_ble_eq_true rfl) dX12_log_93 (fun H locs hP hD hS => ?_)
    have hP : va_P E.1 vwCl (cw_X12 E q0 S0_17) H := by rw [eS]; exact hP
    have hD : va_D A (cw_X12 E q0 S0_17) := by rw [eS]; exact hD
    clear eS
    refine lv_iload_n hx hb dX12_log_96 rfl (lv_at hl 2 rfl) ?_
    refine lv_if_ne (tgt := 105) hx hb dX12_log_97 (by decide) (fun c18 => ?_) (fun c18 => ?_)
    · have h := it_f h c18
      refine lv_iload_n hx hb dX12_log_105 rfl (lv_at hl 1 rfl) ?_
      by_cases c19 : x2 = 100
      · have h := it_t h c19
        refine lv_tableIn (tgt := 140) hx hb dX12_log_106 (by rw [c19]; decide) (by rw [c19]; decide) (by rw [c19] <;> rfl) (by decide) ?_
        refine lv_aload_n hx hb dX12_log_140 rfl (lv_at hl 0 rfl) ?_
        refine va_get (D := E.1) (ci := 11) (v := .int (S0_17.1 44)) (C := RX12) (T := TX12) (N := 57) hx hb hg in_X12 hown X.1 hP 0 rfl rfl 44 (by decide) (hg _ wf_X12_369) (fun _ h9 => h9) rfl dX12_log_141 ?_
        exact RT (S0_17.1 44) S0_17 _ _ _ _ h rfl hP hD hS dX12_log_144
      · have h := it_f h c19
        by_cases c20 : x2 = 101
        · have h := it_t h c20
          refine lv_tableIn (tgt := 145) hx hb dX12_log_106 (by rw [c20]; decide) (by rw [c20]; decide) (by rw [c20] <;> rfl) (by decide) ?_
          refine lv_aload_n hx hb dX12_log_145 rfl (lv_at hl 0 rfl) ?_
          obtain ⟨u21, hc, h⟩ := bd_el h
          refine ct_iA (w1 := cw_X12 E q0 S0_17) X hP hD hS (va_runV (C := RX12) (As := []) (rest := []) ⟨hx, hb, hml, hown, hg⟩ (c_X12_mostOften l E q0 H.size S0_17 u21 hc) (cwV 0 hg (gwV wm_X12_384 wi_X12_mostOften wsl_X12_mostOften wini_X12 wco_X12_mostOften) rfl rfl rfl (by decide +kernel) ⟨Nat.le_of_ble_eq_true rfl, Nat.le_of_ble_eq_true rfl⟩) ⟨ct_blind, ct_rv X.1 hP 0 rfl rfl, ct_preA X hP hD hS _⟩ rfl rfl hl.1 rfl (lv_room (Nat.le_of_ble_eq_true rfl)) dX12_log_146 ⟨Nat.zero_le _, Nat.zero_le _⟩) (fun H locs hP hD hS => ?_)
          exact RT u21 S0_17 _ _ _ _ h rfl hP hD hS dX12_log_149
        · have h := it_f h c20
          by_cases c22 : x2 = 102
          · have h := it_t h c22
            refine lv_tableIn (tgt := 150) hx hb dX12_log_106 (by rw [c22]; decide) (by rw [c22]; decide) (by rw [c22] <;> rfl) (by decide) ?_
            refine lv_aload_n hx hb dX12_log_150 rfl (lv_at hl 0 rfl) ?_
            obtain ⟨u23, hc, h⟩ := bd_el h
            refine ct_iA (w1 := cw_X12 E q0 S0_17) X hP hD hS (va_runV (C := RX12) (As := []) (rest := []) ⟨hx, hb, hml, hown, hg⟩ (c_X12_longestRow l E q0 H.size S0_17 u23 hc) (cwV 0 hg (gwV wm_X12_387 wi_X12_longestRow wsl_X12_longestRow wini_X12 wco_X12_longestRow) rfl rfl rfl (by decide +kernel) ⟨Nat.le_of_ble_eq_true rfl, Nat.le_of_ble_eq_true rfl⟩) ⟨ct_blind, ct_rv X.1 hP 0 rfl rfl, ct_preA X hP hD hS _⟩ rfl rfl hl.1 rfl (lv_room (Nat.le_of_ble_eq_true rfl)) dX12_log_151 ⟨Nat.zero_le _, Nat.zero_le _⟩) (fun H locs hP hD hS => ?_)
            exact RT u23 S0_17 _ _ _ _ h rfl hP hD hS dX12_log_154
          · have h := it_f h c22
            by_cases c24 : x2 = 103
            · have h := it_t h c24
              refine lv_tableIn (tgt := 155) hx hb dX12_log_106 (by rw [c24]; decide) (by rw [c24]; decide) (by rw [c24] <;> rfl) (by decide) ?_
              refine lv_aload_n hx hb dX12_log_155 rfl (lv_at hl 0 rfl) ?_
              obtain ⟨u25, hc, h⟩ := bd_el h
              refine ct_iA (w1 := cw_X12 E q0 S0_17) X hP hD hS (va_runV (C := RX12) (As := []) (rest := []) ⟨hx, hb, hml, hown, hg⟩ (c_X12_turnsOf l E q0 H.size S0_17 u25 hc) (cwV 0 hg (gwV wm_X12_390 wi_X12_turnsOf wsl_X12_turnsOf wini_X12 wco_X12_turnsOf) rfl rfl rfl (by decide +kernel) ⟨Nat.le_of_ble_eq_true rfl, Nat.le_of_ble_eq_true rfl⟩) ⟨ct_blind, ct_rv X.1 hP 0 rfl rfl, ct_preA X hP hD hS _⟩ rfl rfl hl.1 rfl (lv_room (Nat.le_of_ble_eq_true rfl)) dX12_log_156 ⟨Nat.zero_le _, Nat.zero_le _⟩) (fun H locs hP hD hS => ?_)
              exact RT u25 S0_17 _ _ _ _ h rfl hP hD hS dX12_log_159
            · have h := it_f h c24
              by_cases c26 : x2 = 104
              · have h := it_t h c26
                refine lv_tableIn (tgt := 160) hx hb dX12_log_106 (by rw [c26]; decide) (by rw [c26]; decide) (by rw [c26] <;> rfl) (by decide) ?_
                refine lv_aload_n hx hb dX12_log_160 rfl (lv_at hl 0 rfl) ?_
                obtain ⟨u27, hc, h⟩ := bd_el h
                refine ct_iA (w1 := cw_X12 E q0 S0_17) X hP hD hS (va_runV (C := RX12) (As := []) (rest := []) ⟨hx, hb, hml, hown, hg⟩ (c_X12_periodOf l E q0 H.size S0_17 u27 hc) (cwV 0 hg (gwV wm_X12_393 wi_X12_periodOf wsl_X12_periodOf wini_X12 wco_X12_periodOf) rfl rfl rfl (by decide +kernel) ⟨Nat.le_of_ble_eq_true rfl, Nat.le_of_ble_eq_true rfl⟩) ⟨ct_blind, ct_rv X.1 hP 0 rfl rfl, ct_preA X hP hD hS _⟩ rfl rfl hl.1 rfl (lv_room (Nat.le_of_ble_eq_true rfl)) dX12_log_161 ⟨Nat.zero_le _, Nat.zero_le _⟩) (fun H locs hP hD hS => ?_)
                exact RT u27 S0_17 _ _ _ _ h rfl hP hD hS dX12_log_164
              · have h := it_f h c26
                have ho : (x2).toInt < 100 ∨ 104 < (x2).toInt := by
                  by_cases h1 : (x2).toInt < 100
                  · exact Or.inl h1
                  by_cases h2 : 104 < (x2).toInt
                  · exact Or.inr h2
                  have h3 : (x2).toInt = 100 ∨ (x2).toInt = 101 ∨ (x2).toInt = 102 ∨ (x2).toInt = 103 ∨ (x2).toInt = 104 := by omega
                  rcases h3 with h3 | h3 | h3 | h3 | h3
                  · exact absurd (Int32.toInt_inj.mp (h3.trans (by decide))) c19
                  · exact absurd (Int32.toInt_inj.mp (h3.trans (by decide))) c20
                  · exact absurd (Int32.toInt_inj.mp (h3.trans (by decide))) c22
                  · exact absurd (Int32.toInt_inj.mp (h3.trans (by decide))) c24
                  · exact absurd (Int32.toInt_inj.mp (h3.trans (by decide))) c26
                refine lv_tableOut (tgt := 165) hx hb dX12_log_106 ho (by decide) ?_
                refine lv_aload_n hx hb dX12_log_165 rfl (lv_at hl 0 rfl) ?_
                refine lv_iload_n hx hb dX12_log_166 rfl (lv_at hl 1 rfl) ?_
                obtain ⟨u28, hc, h⟩ := bd_el h
                refine ct_iA (w1 := cw_X12 E q0 S0_17) X hP hD hS (va_runV (C := RX12) (As := [.int x2]) (rest := []) ⟨hx, hb, hml, hown, hg⟩ (c_X12_oftenOf l E q0 H.size S0_17 x2 u28 hc) (cwV 1 hg (gwV wm_X12_375 wi_X12_oftenOf wsl_X12_oftenOf wini_X12 wco_X12_oftenOf) rfl rfl rfl (by decide +kernel) ⟨Nat.le_of_ble_eq_true rfl, Nat.le_of_ble_eq_true rfl⟩) ⟨ct_blind, ct_rv X.1 hP 0 rfl rfl, ct_preA X hP hD hS _⟩ rfl rfl hl.1 rfl (lv_room (Nat.le_of_ble_eq_true rfl)) dX12_log_167 ⟨Nat.zero_le _, Nat.zero_le _⟩) (fun H locs hP hD hS => ?_)
                exact RT u28 S0_17 _ _ _ _ h rfl hP hD hS dX12_log_170
    · have h := it_t h c18
      refine lv_aload_n hx hb dX12_log_100 rfl (lv_at hl 0 rfl) ?_
      refine va_get (D := E.1) (ci := 11) (v := .int (S0_17.1 11)) (C := RX12) (T := TX12) (N := 57) hx hb hg in_X12 hown X.1 hP 0 rfl rfl 11 (by decide) (hg _ wf_X12_160) (fun _ h9 => h9) rfl dX12_log_101 ?_
      exact RT (S0_17.1 11) S0_17 _ _ _ _ h rfl hP hD hS dX12_log_104
  have N61 : ∀ (n : Nat) (S0 : Gr) (x3 : Int32) (H : Heap) (locs : List Loc) (ls : Array Slot), f_X12_log_n61 x1 x2 n S0 x3 = some Rv → va_P E.1 vwCl (cw_X12 E q0 S0) H → va_D A (cw_X12 E q0 S0) → va_S A s.heap H locs → lv_has ls 4 [(0, .ref (q0 0)), (2, .int x2), (3, .int x3)] → W p l e ({ frames := 3, cells := 0, slots := 0, locals := 66 } : Room) s m ar below meth c H locs 0 0 QM (F0 m 61 ls []) := by
    intro n
    induction n with
    | zero => intro S0 x3 H locs ls h; exact nn_el h
    | succ n ih =>
      intro S0 x3 H locs ls h hP hD hS hl
      refine lv_iload_n hx hb dX12_log_61 rfl (lv_at hl 2 rfl) ?_
      refine lv_if_eq (tgt := 91) hx hb dX12_log_62 (by decide) (fun c12 => ?_) (fun c12 => ?_)
      · have h := it_t h c12
        exact N91  S0 x3 _ _ _ h hP hD hS (lv_sub hl [0, 1, 2] rfl)
      · have h := it_f h c12
        refine lv_aload_n hx hb dX12_log_65 rfl (lv_at hl 0 rfl) ?_
        refine va_get (D := E.1) (ci := 11) (v := .int (S0.1 9)) (C := RX12) (T := TX12) (N := 57) hx hb hg in_X12 hown X.1 hP 0 rfl rfl 9 (by decide) (hg _ wf_X12_150) (fun _ h9 => h9) rfl dX12_log_66 ?_
        refine lv_aload_n hx hb dX12_log_69 rfl (lv_at hl 0 rfl) ?_
        refine va_get (D := E.1) (ci := 11) (v := .int (S0.1 10)) (C := RX12) (T := TX12) (N := 57) hx hb hg in_X12 hown X.1 hP 0 rfl rfl 10 (by decide) (hg _ wf_X12_153) (fun _ h9 => h9) rfl dX12_log_70 ?_
        refine lv_icmp_lt (tgt := 83) hx hb dX12_log_73 (by decide) (fun c13 => ?_) (fun c13 => ?_)
        · have h := it_t h c13
          refine lv_aload_n hx hb dX12_log_83 rfl (lv_at hl 0 rfl) ?_
          obtain ⟨u14, hc, h⟩ := bd_el h
          refine ct_iA (w1 := cw_X12 E q0 u14.2) X hP hD hS (va_runV (C := RX12) (As := []) (rest := []) ⟨hx, hb, hml, hown, hg⟩ (c_X12_readsSpoke l E q0 H.size S0 u14 hc) (cwV 0 hg (gwV wm_X12_381 wi_X12_readsSpoke wsl_X12_readsSpoke wini_X12 wco_X12_readsSpoke) rfl rfl rfl (by decide +kernel) ⟨Nat.le_of_ble_eq_true rfl, Nat.le_of_ble_eq_true rfl⟩) ⟨ct_blind, ct_rv X.1 hP 0 rfl rfl, ct_preA X hP hD hS _⟩ rfl rfl hl.1 rfl (lv_room (Nat.le_of_ble_eq_true rfl)) dX12_log_84 ⟨Nat.zero_le _, Nat.zero_le _⟩) (fun H locs hP hD hS => ?_)
          refine lv_istore_n (lv' := [(3, .int u14.1), (0, .ref (q0 0)), (2, .int x2)]) hx hb dX12_log_87 rfl hl (by decide) rfl (fun ls hl => ?_)
          refine lv_goto (tgt := 61) hx hb dX12_log_88 (by decide) ?_
          exact ih u14.2 u14.1 _ _ _ h hP hD hS (lv_sub hl [1, 2, 0] rfl)
        · have h := it_f h c13
          refine lv_aload_n hx hb dX12_log_76 rfl (lv_at hl 0 rfl) ?_
          refine va_get (D := E.1) (ci := 11) (v := .int (S0.1 45)) (C := RX12) (T := TX12) (N := 57) hx hb hg in_X12 hown X.1 hP 0 rfl rfl 45 (by decide) (hg _ wf_X12_366) (fun _ h9 => h9) rfl dX12_log_77 ?_
          refine lv_if_le (tgt := 91) hx hb dX12_log_80 (by decide) (fun c15 => ?_) (fun c15 => ?_)
          · have h := it_t h c15
            exact N91  S0 x3 _ _ _ h hP hD hS (lv_sub hl [0, 1, 2] rfl)
          · have h := it_f h c15
            refine lv_aload_n hx hb dX12_log_83 rfl (lv_at hl 0 rfl) ?_
            obtain ⟨u16, hc, h⟩ := bd_el h
            refine ct_iA (w1 := cw_X12 E q0 u16.2) X hP hD hS (va_runV (C := RX12) (As := []) (rest := []) ⟨hx, hb, hml, hown, hg⟩ (c_X12_readsSpoke l E q0 H.size S0 u16 hc) (cwV 0 hg (gwV wm_X12_381 wi_X12_readsSpoke wsl_X12_readsSpoke wini_X12 wco_X12_readsSpoke) rfl rfl rfl (by decide +kernel) ⟨Nat.le_of_ble_eq_true rfl, Nat.le_of_ble_eq_true rfl⟩) ⟨ct_blind, ct_rv X.1 hP 0 rfl rfl, ct_preA X hP hD hS _⟩ rfl rfl hl.1 rfl (lv_room (Nat.le_of_ble_eq_true rfl)) dX12_log_84 ⟨Nat.zero_le _, Nat.zero_le _⟩) (fun H locs hP hD hS => ?_)
            refine lv_istore_n (lv' := [(3, .int u16.1), (0, .ref (q0 0)), (2, .int x2)]) hx hb dX12_log_87 rfl hl (by decide) rfl (fun ls hl => ?_)
            refine lv_goto (tgt := 61) hx hb dX12_log_88 (by decide) ?_
            exact ih u16.2 u16.1 _ _ _ h hP hD hS (lv_sub hl [1, 2, 0] rfl)
  have N31 : ∀ (S0 : Gr) (H : Heap) (locs : List Loc) (ls : Array Slot), f_X12_log_n31 x1 x2 S0 = some Rv → va_P E.1 vwCl (cw_X12 E q0 S0) H → va_D A (cw_X12 E q0 S0) → va_S A s.heap H locs → lv_has ls 4 [(0, .ref (q0 0)), (1, .int x1), (2, .int x2)] → W p l e ({ frames := 3, cells := 0, slots := 0, locals := 66 } : Room) s m ar below meth c H locs 0 0 QM (F0 m 31 ls []) := by
    intro S0 H locs ls h hP hD hS hl
    refine lv_iload_n hx hb dX12_log_31 rfl (lv_at hl 1 rfl) ?_
    refine lv_aload_n hx hb dX12_log_32 rfl (lv_at hl 0 rfl) ?_
    refine va_get (D := E.1) (ci := 11) (v := .int (S0.1 8)) (C := RX12) (T := TX12) (N := 57) hx hb hg in_X12 hown X.1 hP 0 rfl rfl 8 (by decide) (hg _ wf_X12_143) (fun _ h9 => h9) rfl dX12_log_33 ?_
    refine lv_icmp_le (tgt := 41) hx hb dX12_log_36 (by decide) (fun c7 => ?_) (fun c7 => ?_)
    · have h := it_t h c7
      refine lv_aload_n hx hb dX12_log_41 rfl (lv_at hl 0 rfl) ?_
      refine lv_iload_n hx hb dX12_log_42 rfl (lv_at hl 1 rfl) ?_
      obtain ⟨u8, hc, h⟩ := bd_el h
      refine ct_vA (w1 := cw_X12 E q0 u8) X hP hD hS (va_runV (C := RX12) (As := [.int x1]) (rest := []) ⟨hx, hb, hml, hown, hg⟩ (c_X12_beginsText l E q0 H.size S0 x1 u8 hc) (cwV 1 hg (gwV wm_X12_233 wi_X12_beginsText wsl_X12_beginsText wini_X12 wco_X12_beginsText) rfl rfl rfl (by decide +kernel) ⟨Nat.le_of_ble_eq_true rfl, Nat.le_of_ble_eq_true rfl⟩) ⟨ct_blind, ct_rv X.1 hP 0 rfl rfl, ct_preA X hP hD hS _⟩ rfl rfl hl.1 rfl (lv_room (Nat.le_of_ble_eq_true rfl)) dX12_log_43 ⟨Nat.zero_le _, Nat.zero_le _⟩) (fun H locs hP hD hS => ?_)
      refine lv_aload_n hx hb dX12_log_46 rfl (lv_at hl 0 rfl) ?_
      refine lv_iconst (v := 0) hx hb dX12_log_47 (by decide) ?_
      obtain ⟨S0_9, eS, h⟩ := lt_el h
      refine va_put (D := E.1) (ci := 11) (v := .int 0) (ty := .int) (C := RX12) (T := TX12) (N := 57) hx hb hg in_X12 tyX12 tyX12_ok nmX12 hown X.1 hP hD hS 0 rfl rfl 44 (by decide) (hg _ wf_X12_369) (fun _ h9 => h9) rfl (by decide +kernel) rfl rfl (Nat.le_of_ble_eq_true rfl) dX12_log_48 (fun H locs hP hD hS => ?_)
      have hP : va_P E.1 vwCl (cw_X12 E q0 S0_9) H := by rw [eS]; exact hP
      have hD : va_D A (cw_X12 E q0 S0_9) := by rw [eS]; exact hD
      clear eS
      refine lv_aload_n hx hb dX12_log_51 rfl (lv_at hl 0 rfl) ?_
      refine lv_iconst (v := 0) hx hb dX12_log_52 (by decide) ?_
      obtain ⟨S0_10, eS, h⟩ := lt_el h
      refine va_put (D := E.1) (ci := 11) (v := .int 0) (ty := .int) (C := RX12) (T := TX12) (N := 57) hx hb hg in_X12 tyX12 tyX12_ok nmX12 hown X.1 hP hD hS 0 rfl rfl 45 (by decide) (hg _ wf_X12_366) (fun _ h9 => h9) rfl (by decide +kernel) rfl rfl (Nat.le_of_ble_eq_true rfl) dX12_log_53 (fun H locs hP hD hS => ?_)
      have hP : va_P E.1 vwCl (cw_X12 E q0 S0_10) H := by rw [eS]; exact hP
      have hD : va_D A (cw_X12 E q0 S0_10) := by rw [eS]; exact hD
      clear eS
      refine lv_aload_n hx hb dX12_log_56 rfl (lv_at hl 0 rfl) ?_
      obtain ⟨u11, hc, h⟩ := bd_el h
      refine ct_iA (w1 := cw_X12 E q0 u11.2) X hP hD hS (va_runV (C := RX12) (As := []) (rest := []) ⟨hx, hb, hml, hown, hg⟩ (c_X12_readsSpoke l E q0 H.size S0_10 u11 hc) (cwV 0 hg (gwV wm_X12_381 wi_X12_readsSpoke wsl_X12_readsSpoke wini_X12 wco_X12_readsSpoke) rfl rfl rfl (by decide +kernel) ⟨Nat.le_of_ble_eq_true rfl, Nat.le_of_ble_eq_true rfl⟩) ⟨ct_blind, ct_rv X.1 hP 0 rfl rfl, ct_preA X hP hD hS _⟩ rfl rfl hl.1 rfl (lv_room (Nat.le_of_ble_eq_true rfl)) dX12_log_57 ⟨Nat.zero_le _, Nat.zero_le _⟩) (fun H locs hP hD hS => ?_)
      refine lv_istore_n (lv' := [(3, .int u11.1), (0, .ref (q0 0)), (1, .int x1), (2, .int x2)]) hx hb dX12_log_60 rfl hl (by decide) rfl (fun ls hl => ?_)
      exact N61 fu u11.2 u11.1 _ _ _ h hP hD hS (lv_sub hl [1, 3, 0] rfl)
    · have h := it_f h c7
      refine lv_iconst (v := (-1)) hx hb dX12_log_39 (by decide) ?_
      exact RT (-1) S0 _ _ _ _ h rfl hP hD hS dX12_log_40
  obtain ⟨H, eH⟩ : ∃ z, z = s.heap := ⟨_, rfl⟩
  rw [← eH]
  have hP : va_P E.1 vwCl (cw_X12 E q0 S0) H := by rw [eH]; exact hP
  have hS : va_S A s.heap H [] := by rw [eH]; exact hS
  clear eH
  obtain ⟨locs, el⟩ : ∃ z : List Loc, z = [] := ⟨_, rfl⟩
  rw [← el] at hS ⊢
  clear el
  refine lv_iload_n hx hb dX12_log_0 rfl (lv_at hl 1 rfl) ?_
  refine lv_iconst (v := 1) hx hb dX12_log_1 (by decide) ?_
  refine lv_bipush (v := 80) hx hb dX12_log_2 (by decide) ?_
  obtain ⟨u1, hc, h⟩ := bd_el h
  refine ct_iN X hP hD hS (va_runS (As := [.int x1, .int 1, .int 80]) (rest := []) ⟨hx, hb, hml, hown, hg⟩ (c_X12_in l E  H.size x1 1 80 u1 hc) (va_cwS 3 hg (gwS wm_X12_110 wst_X12_in wini_X12 wco_X12_in) rfl rfl rfl (by decide +kernel) ⟨Nat.le_of_ble_eq_true rfl, Nat.le_of_ble_eq_true rfl⟩) ⟨ct_blind, ct_preN X hS _⟩ rfl rfl hl.1 rfl (lv_room (Nat.le_of_ble_eq_true rfl)) dX12_log_4 ⟨Nat.zero_le _, Nat.zero_le _⟩) (fun H locs hP hD hS => ?_)
  refine lv_if_eq (tgt := 39) hx hb dX12_log_7 (by decide) (fun c2 => ?_) (fun c2 => ?_)
  · have h := it_t h c2
    refine lv_iconst (v := (-1)) hx hb dX12_log_39 (by decide) ?_
    exact RT (-1) S0 _ _ _ _ h rfl hP hD hS dX12_log_40
  · have h := it_f h c2
    refine lv_iload_n hx hb dX12_log_10 rfl (lv_at hl 2 rfl) ?_
    refine lv_iconst (v := 0) hx hb dX12_log_11 (by decide) ?_
    refine lv_bipush (v := 7) hx hb dX12_log_12 (by decide) ?_
    obtain ⟨u3, hc, h⟩ := bd_el h
    refine ct_iN X hP hD hS (va_runS (As := [.int x2, .int 0, .int 7]) (rest := []) ⟨hx, hb, hml, hown, hg⟩ (c_X12_in l E  H.size x2 0 7 u3 hc) (va_cwS 3 hg (gwS wm_X12_110 wst_X12_in wini_X12 wco_X12_in) rfl rfl rfl (by decide +kernel) ⟨Nat.le_of_ble_eq_true rfl, Nat.le_of_ble_eq_true rfl⟩) ⟨ct_blind, ct_preN X hS _⟩ rfl rfl hl.1 rfl (lv_room (Nat.le_of_ble_eq_true rfl)) dX12_log_14 ⟨Nat.zero_le _, Nat.zero_le _⟩) (fun H locs hP hD hS => ?_)
    refine lv_if_ne (tgt := 31) hx hb dX12_log_17 (by decide) (fun c4 => ?_) (fun c4 => ?_)
    · have h := it_f h c4
      exact N31  S0 _ _ _ h hP hD hS (lv_sub hl [0, 1, 2] rfl)
    · have h := it_t h c4
      refine lv_iload_n hx hb dX12_log_20 rfl (lv_at hl 2 rfl) ?_
      refine lv_bipush (v := 100) hx hb dX12_log_21 (by decide) ?_
      refine lv_bipush (v := 104) hx hb dX12_log_23 (by decide) ?_
      obtain ⟨u5, hc, h⟩ := bd_el h
      refine ct_iN X hP hD hS (va_runS (As := [.int x2, .int 100, .int 104]) (rest := []) ⟨hx, hb, hml, hown, hg⟩ (c_X12_in l E  H.size x2 100 104 u5 hc) (va_cwS 3 hg (gwS wm_X12_110 wst_X12_in wini_X12 wco_X12_in) rfl rfl rfl (by decide +kernel) ⟨Nat.le_of_ble_eq_true rfl, Nat.le_of_ble_eq_true rfl⟩) ⟨ct_blind, ct_preN X hS _⟩ rfl rfl hl.1 rfl (lv_room (Nat.le_of_ble_eq_true rfl)) dX12_log_25 ⟨Nat.zero_le _, Nat.zero_le _⟩) (fun H locs hP hD hS => ?_)
      refine lv_if_eq (tgt := 39) hx hb dX12_log_28 (by decide) (fun c6 => ?_) (fun c6 => ?_)
      · have h := it_t h c6
        refine lv_iconst (v := (-1)) hx hb dX12_log_39 (by decide) ?_
        exact RT (-1) S0 _ _ _ _ h rfl hP hD hS dX12_log_40
      · have h := it_f h c6
        exact N31  S0 _ _ _ h hP hD hS (lv_sub hl [0, 1, 2] rfl)
theorem dX12_nearestTo_0 : decode cX12_nearestTo 0 = .ok (.bipush (-2), 2) := by decide +kernel
theorem dX12_nearestTo_2 : decode cX12_nearestTo 2 = .ok (.istore_n 2, 1) := by decide +kernel
theorem dX12_nearestTo_3 : decode cX12_nearestTo 3 = .ok (.iconst 0, 1) := by decide +kernel
theorem dX12_nearestTo_4 : decode cX12_nearestTo 4 = .ok (.istore_n 3, 1) := by decide +kernel
theorem dX12_nearestTo_5 : decode cX12_nearestTo 5 = .ok (.iload_n 3, 1) := by decide +kernel
theorem dX12_nearestTo_6 : decode cX12_nearestTo 6 = .ok (.bipush 8, 2) := by decide +kernel
theorem dX12_nearestTo_8 : decode cX12_nearestTo 8 = .ok (.if_icmp .ge 48, 3) := by decide +kernel
theorem dX12_nearestTo_11 : decode cX12_nearestTo 11 = .ok (.aload_n 0, 1) := by decide +kernel
theorem dX12_nearestTo_12 : decode cX12_nearestTo 12 = .ok (.iload_n 3, 1) := by decide +kernel
theorem dX12_nearestTo_13 : decode cX12_nearestTo 13 = .ok (.invokevirtual 139, 3) := by decide +kernel
theorem dX12_nearestTo_16 : decode cX12_nearestTo 16 = .ok (.ifCond .eq 34, 3) := by decide +kernel
theorem dX12_nearestTo_19 : decode cX12_nearestTo 19 = .ok (.iload_n 2, 1) := by decide +kernel
theorem dX12_nearestTo_20 : decode cX12_nearestTo 20 = .ok (.bipush (-2), 2) := by decide +kernel
theorem dX12_nearestTo_22 : decode cX12_nearestTo 22 = .ok (.if_icmp .eq 26, 3) := by decide +kernel
theorem dX12_nearestTo_25 : decode cX12_nearestTo 25 = .ok (.aload_n 0, 1) := by decide +kernel
theorem dX12_nearestTo_26 : decode cX12_nearestTo 26 = .ok (.getfield 19, 3) := by decide +kernel
theorem dX12_nearestTo_29 : decode cX12_nearestTo 29 = .ok (.iload_n 3, 1) := by decide +kernel
theorem dX12_nearestTo_30 : decode cX12_nearestTo 30 = .ok (.iaload, 1) := by decide +kernel
theorem dX12_nearestTo_31 : decode cX12_nearestTo 31 = .ok (.iload_n 1, 1) := by decide +kernel
theorem dX12_nearestTo_32 : decode cX12_nearestTo 32 = .ok (.invokestatic 294, 3) := by decide +kernel
theorem dX12_nearestTo_35 : decode cX12_nearestTo 35 = .ok (.aload_n 0, 1) := by decide +kernel
theorem dX12_nearestTo_36 : decode cX12_nearestTo 36 = .ok (.getfield 19, 3) := by decide +kernel
theorem dX12_nearestTo_39 : decode cX12_nearestTo 39 = .ok (.iload_n 2, 1) := by decide +kernel
theorem dX12_nearestTo_40 : decode cX12_nearestTo 40 = .ok (.iaload, 1) := by decide +kernel
theorem dX12_nearestTo_41 : decode cX12_nearestTo 41 = .ok (.iload_n 1, 1) := by decide +kernel
theorem dX12_nearestTo_42 : decode cX12_nearestTo 42 = .ok (.invokestatic 294, 3) := by decide +kernel
theorem dX12_nearestTo_45 : decode cX12_nearestTo 45 = .ok (.if_icmp .ge 5, 3) := by decide +kernel
theorem dX12_nearestTo_48 : decode cX12_nearestTo 48 = .ok (.iload_n 3, 1) := by decide +kernel
theorem dX12_nearestTo_49 : decode cX12_nearestTo 49 = .ok (.istore_n 2, 1) := by decide +kernel
theorem dX12_nearestTo_50 : decode cX12_nearestTo 50 = .ok (.iinc 3 1, 3) := by decide +kernel
theorem dX12_nearestTo_53 : decode cX12_nearestTo 53 = .ok (.goto (-48), 3) := by decide +kernel
theorem dX12_nearestTo_56 : decode cX12_nearestTo 56 = .ok (.iload_n 2, 1) := by decide +kernel
theorem dX12_nearestTo_57 : decode cX12_nearestTo 57 = .ok (.ireturn, 1) := by decide +kernel
def f_X12_nearestTo_n5 (S0 : Gr) (x1 : Int32) : Nat → Int32 → Int32 → Option (Int32)
  | 0, _, _ => none
  | n + 1, x2, x3 => if 8 ≤ x3 then (some x2) else ((f_X12_isWeb S0 x3).bind fun u2 => if u2 = 0 then (lt' (x3 + 1) fun v4 => f_X12_nearestTo_n5 S0 x1 n x2 v4) else (if x2 = (-2) then (lt' (x3 + 1) fun v6 => f_X12_nearestTo_n5 S0 x1 n x3 v6) else (rd' (S0.2 3) 8 x3 fun v7 => (f_X12_distance v7 x1).bind fun u8 => rd' (S0.2 3) 8 x2 fun v9 => (f_X12_distance v9 x1).bind fun u10 => if u10 ≤ u8 then (lt' (x3 + 1) fun v12 => f_X12_nearestTo_n5 S0 x1 n x2 v12) else (lt' (x3 + 1) fun v13 => f_X12_nearestTo_n5 S0 x1 n x3 v13))))
def f_X12_nearestTo (S0 : Gr) (x1 : Int32) : Option (Int32) := f_X12_nearestTo_n5 S0 x1 fu (-2) 0
set_option maxHeartbeats 4000000 in
set_option maxRecDepth 100000 in
theorem c_X12_nearestTo (l : Launch) (E : Ec) (q0 : Nat → Nat) (sz : Nat) (S0 : Gr) (x1 : Int32) (Rv : Int32) (h : f_X12_nearestTo S0 x1 = some Rv) : Met l yX12_nearestTo (wsM (.code yX12_nearestTo cX12_nearestTo 4 (some .int))) ({ frames := 2, cells := 0, slots := 0, locals := 43 } : Room) (va_Pc [.ref (q0 0), .int x1] (ctP E (cw_X12 E q0 S0) sz)) (ctI E (cw_X12 E q0 S0) (cw_X12 E q0 S0) sz Rv) 0 0 (va_A (cw_X12 E q0 S0) sz) := by
  refine ct_metI (by decide) (Nat.le_of_ble_eq_true rfl) ?_
  intro p e s m ar below meth c A QM hx hb hml hown hg X hP hD hS RET ls hl
  have hown : s.vm.findClass RX12 = some m.cls := hown
  have hl : lv_has ls 4 [(0, .ref (q0 0)), (1, .int x1)] := hl
  have RT : ∀ (v : Int32) (H : Heap) (locs : List Loc) (ls : Array Slot) (pc : Nat), some v = some Rv → narrow .int (.int v) = .int v → va_P E.1 vwCl (cw_X12 E q0 S0) H → va_D A (cw_X12 E q0 S0) → va_S A s.heap H locs → decode cX12_nearestTo pc = .ok (.ireturn, 1) → W p l e ({ frames := 2, cells := 0, slots := 0, locals := 43 } : Room) s m ar below meth c H locs 0 0 QM (F0 m pc ls [.int v]) := by
    intro v H locs ls pc e hn hP hD hS d
    obtain rfl := sm_e e
    exact RET H locs pc ls hn hP hD hS d
  clear RET
  have N5 : ∀ (n : Nat) (x2 : Int32) (x3 : Int32) (H : Heap) (locs : List Loc) (ls : Array Slot), f_X12_nearestTo_n5 S0 x1 n x2 x3 = some Rv → va_P E.1 vwCl (cw_X12 E q0 S0) H → va_D A (cw_X12 E q0 S0) → va_S A s.heap H locs → lv_has ls 4 [(0, .ref (q0 0)), (1, .int x1), (2, .int x2), (3, .int x3)] → W p l e ({ frames := 2, cells := 0, slots := 0, locals := 43 } : Room) s m ar below meth c H locs 0 0 QM (F0 m 5 ls []) := by
    intro n
    induction n with
    | zero => intro x2 x3 H locs ls h; exact nn_el h
    | succ n ih =>
      intro x2 x3 H locs ls h hP hD hS hl
      refine lv_iload_n hx hb dX12_nearestTo_5 rfl (lv_at hl 3 rfl) ?_
      refine lv_bipush (v := 8) hx hb dX12_nearestTo_6 (by decide) ?_
      refine lv_icmp_ge (tgt := 56) hx hb dX12_nearestTo_8 (by decide) (fun c1 => ?_) (fun c1 => ?_)
      · have h := it_t h c1
        refine lv_iload_n hx hb dX12_nearestTo_56 rfl (lv_at hl 2 rfl) ?_
        exact RT x2 _ _ _ _ h rfl hP hD hS dX12_nearestTo_57
      · have h := it_f h c1
        refine lv_aload_n hx hb dX12_nearestTo_11 rfl (lv_at hl 0 rfl) ?_
        refine lv_iload_n hx hb dX12_nearestTo_12 rfl (lv_at hl 3 rfl) ?_
        obtain ⟨u2, hc, h⟩ := bd_el h
        refine ct_iA (w1 := cw_X12 E q0 S0) X hP hD hS (va_runV (C := RX12) (As := [.int x3]) (rest := []) ⟨hx, hb, hml, hown, hg⟩ (c_X12_isWeb l E q0 H.size S0 x3 u2 hc) (cwV 1 hg (gwV wm_X12_139 wi_X12_isWeb wsl_X12_isWeb wini_X12 wco_X12_isWeb) rfl rfl rfl (by decide +kernel) ⟨Nat.le_of_ble_eq_true rfl, Nat.le_of_ble_eq_true rfl⟩) ⟨ct_blind, ct_rv X.1 hP 0 rfl rfl, ct_preA X hP hD hS _⟩ rfl rfl hl.1 rfl (lv_room (Nat.le_of_ble_eq_true rfl)) dX12_nearestTo_13 ⟨Nat.zero_le _, Nat.zero_le _⟩) (fun H locs hP hD hS => ?_)
        refine lv_if_eq (tgt := 50) hx hb dX12_nearestTo_16 (by decide) (fun c3 => ?_) (fun c3 => ?_)
        · have h := it_t h c3
          obtain ⟨v4, ev4, h⟩ := lt_el h
          refine lv_iinc (v := v4) (lv' := [(3, .int v4), (0, .ref (q0 0)), (1, .int x1), (2, .int x2)]) hx hb dX12_nearestTo_50 hl (k := 3) rfl (by rw [ev4]; rfl) (by decide) rfl (fun ls hl => ?_)
          refine lv_goto (tgt := 5) hx hb dX12_nearestTo_53 (by decide) ?_
          exact ih x2 v4 _ _ _ h hP hD hS (lv_sub hl [1, 2, 3, 0] rfl)
        · have h := it_f h c3
          refine lv_iload_n hx hb dX12_nearestTo_19 rfl (lv_at hl 2 rfl) ?_
          refine lv_bipush (v := (-2)) hx hb dX12_nearestTo_20 (by decide) ?_
          refine lv_icmp_eq (tgt := 48) hx hb dX12_nearestTo_22 (by decide) (fun c5 => ?_) (fun c5 => ?_)
          · have h := it_t h c5
            refine lv_iload_n hx hb dX12_nearestTo_48 rfl (lv_at hl 3 rfl) ?_
            refine lv_istore_n (lv' := [(2, .int x3), (0, .ref (q0 0)), (1, .int x1), (3, .int x3)]) hx hb dX12_nearestTo_49 rfl hl (by decide) rfl (fun ls hl => ?_)
            obtain ⟨v6, ev6, h⟩ := lt_el h
            refine lv_iinc (v := v6) (lv' := [(3, .int v6), (2, .int x3), (0, .ref (q0 0)), (1, .int x1)]) hx hb dX12_nearestTo_50 hl (k := 3) rfl (by rw [ev6]; rfl) (by decide) rfl (fun ls hl => ?_)
            refine lv_goto (tgt := 5) hx hb dX12_nearestTo_53 (by decide) ?_
            exact ih x3 v6 _ _ _ h hP hD hS (lv_sub hl [2, 3, 1, 0] rfl)
          · have h := it_f h c5
            refine lv_aload_n hx hb dX12_nearestTo_25 rfl (lv_at hl 0 rfl) ?_
            refine va_get (D := E.1) (ci := 11) (v := .ref (q0 4)) (C := RX12) (T := TX12) (N := 57) hx hb hg in_X12 hown X.1 hP 0 rfl rfl 3 (by decide) (hg _ wf_X12_19) (fun _ h9 => h9) rfl dX12_nearestTo_26 ?_
            refine lv_iload_n hx hb dX12_nearestTo_29 rfl (lv_at hl 3 rfl) ?_
            obtain ⟨hi, v7, ev7, h⟩ := rd_el h
            refine va_iald hx hb X.1 hP 4 0 rfl rfl hi dX12_nearestTo_30 ?_
            refine lv_top' ev7 ?_
            refine lv_iload_n hx hb dX12_nearestTo_31 rfl (lv_at hl 1 rfl) ?_
            obtain ⟨u8, hc, h⟩ := bd_el h
            refine ct_iN X hP hD hS (va_runS (As := [.int v7, .int x1]) (rest := []) ⟨hx, hb, hml, hown, hg⟩ (c_X12_distance l E  H.size v7 x1 u8 hc) (va_cwS 2 hg (gwS wm_X12_294 wst_X12_distance wini_X12 wco_X12_distance) rfl rfl rfl (by decide +kernel) ⟨Nat.le_of_ble_eq_true rfl, Nat.le_of_ble_eq_true rfl⟩) ⟨ct_blind, ct_preN X hS _⟩ rfl rfl hl.1 rfl (lv_room (Nat.le_of_ble_eq_true rfl)) dX12_nearestTo_32 ⟨Nat.zero_le _, Nat.zero_le _⟩) (fun H locs hP hD hS => ?_)
            refine lv_aload_n hx hb dX12_nearestTo_35 rfl (lv_at hl 0 rfl) ?_
            refine va_get (D := E.1) (ci := 11) (v := .ref (q0 4)) (C := RX12) (T := TX12) (N := 57) hx hb hg in_X12 hown X.1 hP 0 rfl rfl 3 (by decide) (hg _ wf_X12_19) (fun _ h9 => h9) rfl dX12_nearestTo_36 ?_
            refine lv_iload_n hx hb dX12_nearestTo_39 rfl (lv_at hl 2 rfl) ?_
            obtain ⟨hi, v9, ev9, h⟩ := rd_el h
            refine va_iald hx hb X.1 hP 4 0 rfl rfl hi dX12_nearestTo_40 ?_
            refine lv_top' ev9 ?_
            refine lv_iload_n hx hb dX12_nearestTo_41 rfl (lv_at hl 1 rfl) ?_
            obtain ⟨u10, hc, h⟩ := bd_el h
            refine ct_iN X hP hD hS (va_runS (As := [.int v9, .int x1]) (rest := [.int u8]) ⟨hx, hb, hml, hown, hg⟩ (c_X12_distance l E  H.size v9 x1 u10 hc) (va_cwS 2 hg (gwS wm_X12_294 wst_X12_distance wini_X12 wco_X12_distance) rfl rfl rfl (by decide +kernel) ⟨Nat.le_of_ble_eq_true rfl, Nat.le_of_ble_eq_true rfl⟩) ⟨ct_blind, ct_preN X hS _⟩ rfl rfl hl.1 rfl (lv_room (Nat.le_of_ble_eq_true rfl)) dX12_nearestTo_42 ⟨Nat.zero_le _, Nat.zero_le _⟩) (fun H locs hP hD hS => ?_)
            refine lv_icmp_ge (tgt := 50) hx hb dX12_nearestTo_45 (by decide) (fun c11 => ?_) (fun c11 => ?_)
            · have h := it_t h c11
              obtain ⟨v12, ev12, h⟩ := lt_el h
              refine lv_iinc (v := v12) (lv' := [(3, .int v12), (0, .ref (q0 0)), (1, .int x1), (2, .int x2)]) hx hb dX12_nearestTo_50 hl (k := 3) rfl (by rw [ev12]; rfl) (by decide) rfl (fun ls hl => ?_)
              refine lv_goto (tgt := 5) hx hb dX12_nearestTo_53 (by decide) ?_
              exact ih x2 v12 _ _ _ h hP hD hS (lv_sub hl [1, 2, 3, 0] rfl)
            · have h := it_f h c11
              refine lv_iload_n hx hb dX12_nearestTo_48 rfl (lv_at hl 3 rfl) ?_
              refine lv_istore_n (lv' := [(2, .int x3), (0, .ref (q0 0)), (1, .int x1), (3, .int x3)]) hx hb dX12_nearestTo_49 rfl hl (by decide) rfl (fun ls hl => ?_)
              obtain ⟨v13, ev13, h⟩ := lt_el h
              refine lv_iinc (v := v13) (lv' := [(3, .int v13), (2, .int x3), (0, .ref (q0 0)), (1, .int x1)]) hx hb dX12_nearestTo_50 hl (k := 3) rfl (by rw [ev13]; rfl) (by decide) rfl (fun ls hl => ?_)
              refine lv_goto (tgt := 5) hx hb dX12_nearestTo_53 (by decide) ?_
              exact ih x3 v13 _ _ _ h hP hD hS (lv_sub hl [2, 3, 1, 0] rfl)
  obtain ⟨H, eH⟩ : ∃ z, z = s.heap := ⟨_, rfl⟩
  rw [← eH]
  have hP : va_P E.1 vwCl (cw_X12 E q0 S0) H := by rw [eH]; exact hP
  have hS : va_S A s.heap H [] := by rw [eH]; exact hS
  clear eH
  obtain ⟨locs, el⟩ : ∃ z : List Loc, z = [] := ⟨_, rfl⟩
  rw [← el] at hS ⊢
  clear el
  refine lv_bipush (v := (-2)) hx hb dX12_nearestTo_0 (by decide) ?_
  refine lv_istore_n (lv' := [(2, .int (-2)), (0, .ref (q0 0)), (1, .int x1)]) hx hb dX12_nearestTo_2 rfl hl (by decide) rfl (fun ls hl => ?_)
  refine lv_iconst (v := 0) hx hb dX12_nearestTo_3 (by decide) ?_
  refine lv_istore_n (lv' := [(3, .int 0), (2, .int (-2)), (0, .ref (q0 0)), (1, .int x1)]) hx hb dX12_nearestTo_4 rfl hl (by decide) rfl (fun ls hl => ?_)
  exact N5 fu (-2) 0 _ _ _ h hP hD hS (lv_sub hl [2, 3, 1, 0] rfl)
theorem dX12_nearest_0 : decode cX12_nearest 0 = .ok (.iload_n 1, 1) := by decide +kernel
theorem dX12_nearest_1 : decode cX12_nearest 1 = .ok (.iconst 0, 1) := by decide +kernel
theorem dX12_nearest_2 : decode cX12_nearest 2 = .ok (.bipush 23, 2) := by decide +kernel
theorem dX12_nearest_4 : decode cX12_nearest 4 = .ok (.invokestatic 110, 3) := by decide +kernel
theorem dX12_nearest_7 : decode cX12_nearest 7 = .ok (.ifCond .eq 26, 3) := by decide +kernel
theorem dX12_nearest_10 : decode cX12_nearest 10 = .ok (.iload_n 2, 1) := by decide +kernel
theorem dX12_nearest_11 : decode cX12_nearest 11 = .ok (.iconst 0, 1) := by decide +kernel
theorem dX12_nearest_12 : decode cX12_nearest 12 = .ok (.bipush 15, 2) := by decide +kernel
theorem dX12_nearest_14 : decode cX12_nearest 14 = .ok (.invokestatic 110, 3) := by decide +kernel
theorem dX12_nearest_17 : decode cX12_nearest 17 = .ok (.ifCond .eq 16, 3) := by decide +kernel
theorem dX12_nearest_20 : decode cX12_nearest 20 = .ok (.aload_n 0, 1) := by decide +kernel
theorem dX12_nearest_21 : decode cX12_nearest 21 = .ok (.bipush 24, 2) := by decide +kernel
theorem dX12_nearest_23 : decode cX12_nearest 23 = .ok (.iload_n 2, 1) := by decide +kernel
theorem dX12_nearest_24 : decode cX12_nearest 24 = .ok (.imul, 1) := by decide +kernel
theorem dX12_nearest_25 : decode cX12_nearest 25 = .ok (.iload_n 1, 1) := by decide +kernel
theorem dX12_nearest_26 : decode cX12_nearest 26 = .ok (.iadd, 1) := by decide +kernel
theorem dX12_nearest_27 : decode cX12_nearest 27 = .ok (.invokevirtual 363, 3) := by decide +kernel
theorem dX12_nearest_30 : decode cX12_nearest 30 = .ok (.goto 4, 3) := by decide +kernel
theorem dX12_nearest_33 : decode cX12_nearest 33 = .ok (.iconst (-1), 1) := by decide +kernel
theorem dX12_nearest_34 : decode cX12_nearest 34 = .ok (.ireturn, 1) := by decide +kernel
def f_X12_nearest (S0 : Gr) (x1 : Int32) (x2 : Int32) : Option (Int32) := (f_X12_in x1 0 23).bind fun u1 => if u1 = 0 then (some (-1)) else ((f_X12_in x2 0 15).bind fun u3 => if u3 = 0 then (some (-1)) else ((f_X12_nearestTo S0 ((24 * x2) + x1)).bind fun u5 => some u5))
set_option maxHeartbeats 4000000 in
set_option maxRecDepth 100000 in
theorem c_X12_nearest (l : Launch) (E : Ec) (q0 : Nat → Nat) (sz : Nat) (S0 : Gr) (x1 : Int32) (x2 : Int32) (Rv : Int32) (h : f_X12_nearest S0 x1 x2 = some Rv) : Met l yX12_nearest (wsM (.code yX12_nearest cX12_nearest 3 (some .int))) ({ frames := 3, cells := 0, slots := 0, locals := 66 } : Room) (va_Pc [.ref (q0 0), .int x1, .int x2] (ctP E (cw_X12 E q0 S0) sz)) (ctI E (cw_X12 E q0 S0) (cw_X12 E q0 S0) sz Rv) 0 0 (va_A (cw_X12 E q0 S0) sz) := by
  refine ct_metI (by decide) (Nat.le_of_ble_eq_true rfl) ?_
  intro p e s m ar below meth c A QM hx hb hml hown hg X hP hD hS RET ls hl
  have hown : s.vm.findClass RX12 = some m.cls := hown
  have hl : lv_has ls 3 [(0, .ref (q0 0)), (1, .int x1), (2, .int x2)] := hl
  have RT : ∀ (v : Int32) (H : Heap) (locs : List Loc) (ls : Array Slot) (pc : Nat), some v = some Rv → narrow .int (.int v) = .int v → va_P E.1 vwCl (cw_X12 E q0 S0) H → va_D A (cw_X12 E q0 S0) → va_S A s.heap H locs → decode cX12_nearest pc = .ok (.ireturn, 1) → W p l e ({ frames := 3, cells := 0, slots := 0, locals := 66 } : Room) s m ar below meth c H locs 0 0 QM (F0 m pc ls [.int v]) := by
    intro v H locs ls pc e hn hP hD hS d
    obtain rfl := sm_e e
    exact RET H locs pc ls hn hP hD hS d
  clear RET
  obtain ⟨H, eH⟩ : ∃ z, z = s.heap := ⟨_, rfl⟩
  rw [← eH]
  have hP : va_P E.1 vwCl (cw_X12 E q0 S0) H := by rw [eH]; exact hP
  have hS : va_S A s.heap H [] := by rw [eH]; exact hS
  clear eH
  obtain ⟨locs, el⟩ : ∃ z : List Loc, z = [] := ⟨_, rfl⟩
  rw [← el] at hS ⊢
  clear el
  refine lv_iload_n hx hb dX12_nearest_0 rfl (lv_at hl 1 rfl) ?_
  refine lv_iconst (v := 0) hx hb dX12_nearest_1 (by decide) ?_
  refine lv_bipush (v := 23) hx hb dX12_nearest_2 (by decide) ?_
  obtain ⟨u1, hc, h⟩ := bd_el h
  refine ct_iN X hP hD hS (va_runS (As := [.int x1, .int 0, .int 23]) (rest := []) ⟨hx, hb, hml, hown, hg⟩ (c_X12_in l E  H.size x1 0 23 u1 hc) (va_cwS 3 hg (gwS wm_X12_110 wst_X12_in wini_X12 wco_X12_in) rfl rfl rfl (by decide +kernel) ⟨Nat.le_of_ble_eq_true rfl, Nat.le_of_ble_eq_true rfl⟩) ⟨ct_blind, ct_preN X hS _⟩ rfl rfl hl.1 rfl (lv_room (Nat.le_of_ble_eq_true rfl)) dX12_nearest_4 ⟨Nat.zero_le _, Nat.zero_le _⟩) (fun H locs hP hD hS => ?_)
  refine lv_if_eq (tgt := 33) hx hb dX12_nearest_7 (by decide) (fun c2 => ?_) (fun c2 => ?_)
  · have h := it_t h c2
    refine lv_iconst (v := (-1)) hx hb dX12_nearest_33 (by decide) ?_
    exact RT (-1) _ _ _ _ h rfl hP hD hS dX12_nearest_34
  · have h := it_f h c2
    refine lv_iload_n hx hb dX12_nearest_10 rfl (lv_at hl 2 rfl) ?_
    refine lv_iconst (v := 0) hx hb dX12_nearest_11 (by decide) ?_
    refine lv_bipush (v := 15) hx hb dX12_nearest_12 (by decide) ?_
    obtain ⟨u3, hc, h⟩ := bd_el h
    refine ct_iN X hP hD hS (va_runS (As := [.int x2, .int 0, .int 15]) (rest := []) ⟨hx, hb, hml, hown, hg⟩ (c_X12_in l E  H.size x2 0 15 u3 hc) (va_cwS 3 hg (gwS wm_X12_110 wst_X12_in wini_X12 wco_X12_in) rfl rfl rfl (by decide +kernel) ⟨Nat.le_of_ble_eq_true rfl, Nat.le_of_ble_eq_true rfl⟩) ⟨ct_blind, ct_preN X hS _⟩ rfl rfl hl.1 rfl (lv_room (Nat.le_of_ble_eq_true rfl)) dX12_nearest_14 ⟨Nat.zero_le _, Nat.zero_le _⟩) (fun H locs hP hD hS => ?_)
    refine lv_if_eq (tgt := 33) hx hb dX12_nearest_17 (by decide) (fun c4 => ?_) (fun c4 => ?_)
    · have h := it_t h c4
      refine lv_iconst (v := (-1)) hx hb dX12_nearest_33 (by decide) ?_
      exact RT (-1) _ _ _ _ h rfl hP hD hS dX12_nearest_34
    · have h := it_f h c4
      refine lv_aload_n hx hb dX12_nearest_20 rfl (lv_at hl 0 rfl) ?_
      refine lv_bipush (v := 24) hx hb dX12_nearest_21 (by decide) ?_
      refine lv_iload_n hx hb dX12_nearest_23 rfl (lv_at hl 2 rfl) ?_
      refine lv_imul hx hb dX12_nearest_24 ?_
      refine lv_iload_n hx hb dX12_nearest_25 rfl (lv_at hl 1 rfl) ?_
      refine lv_iadd hx hb dX12_nearest_26 ?_
      obtain ⟨u5, hc, h⟩ := bd_el h
      refine ct_iA (w1 := cw_X12 E q0 S0) X hP hD hS (va_runV (C := RX12) (As := [.int ((24 * x2) + x1)]) (rest := []) ⟨hx, hb, hml, hown, hg⟩ (c_X12_nearestTo l E q0 H.size S0 ((24 * x2) + x1) u5 hc) (cwV 1 hg (gwV wm_X12_363 wi_X12_nearestTo wsl_X12_nearestTo wini_X12 wco_X12_nearestTo) rfl rfl rfl (by decide +kernel) ⟨Nat.le_of_ble_eq_true rfl, Nat.le_of_ble_eq_true rfl⟩) ⟨ct_blind, ct_rv X.1 hP 0 rfl rfl, ct_preA X hP hD hS _⟩ rfl rfl hl.1 rfl (lv_room (Nat.le_of_ble_eq_true rfl)) dX12_nearest_27 ⟨Nat.zero_le _, Nat.zero_le _⟩) (fun H locs hP hD hS => ?_)
      refine lv_goto (tgt := 34) hx hb dX12_nearest_30 (by decide) ?_
      exact RT u5 _ _ _ _ h rfl hP hD hS dX12_nearest_34
theorem dX12_quiet_0 : decode cX12_quiet 0 = .ok (.iload_n 1, 1) := by decide +kernel
theorem dX12_quiet_1 : decode cX12_quiet 1 = .ok (.iconst 0, 1) := by decide +kernel
theorem dX12_quiet_2 : decode cX12_quiet 2 = .ok (.bipush 23, 2) := by decide +kernel
theorem dX12_quiet_4 : decode cX12_quiet 4 = .ok (.invokestatic 110, 3) := by decide +kernel
theorem dX12_quiet_7 : decode cX12_quiet 7 = .ok (.ifCond .eq 12, 3) := by decide +kernel
theorem dX12_quiet_10 : decode cX12_quiet 10 = .ok (.iload_n 2, 1) := by decide +kernel
theorem dX12_quiet_11 : decode cX12_quiet 11 = .ok (.iconst 0, 1) := by decide +kernel
theorem dX12_quiet_12 : decode cX12_quiet 12 = .ok (.iconst 1, 1) := by decide +kernel
theorem dX12_quiet_13 : decode cX12_quiet 13 = .ok (.invokestatic 110, 3) := by decide +kernel
theorem dX12_quiet_16 : decode cX12_quiet 16 = .ok (.ifCond .ne 5, 3) := by decide +kernel
theorem dX12_quiet_19 : decode cX12_quiet 19 = .ok (.iconst (-1), 1) := by decide +kernel
theorem dX12_quiet_20 : decode cX12_quiet 20 = .ok (.ireturn, 1) := by decide +kernel
theorem dX12_quiet_21 : decode cX12_quiet 21 = .ok (.iconst 0, 1) := by decide +kernel
theorem dX12_quiet_22 : decode cX12_quiet 22 = .ok (.istore_n 3, 1) := by decide +kernel
theorem dX12_quiet_23 : decode cX12_quiet 23 = .ok (.bipush (-2), 2) := by decide +kernel
theorem dX12_quiet_25 : decode cX12_quiet 25 = .ok (.istore 4, 2) := by decide +kernel
theorem dX12_quiet_27 : decode cX12_quiet 27 = .ok (.sipush 383, 3) := by decide +kernel
theorem dX12_quiet_30 : decode cX12_quiet 30 = .ok (.istore 5, 2) := by decide +kernel
theorem dX12_quiet_32 : decode cX12_quiet 32 = .ok (.iload 5, 2) := by decide +kernel
theorem dX12_quiet_34 : decode cX12_quiet 34 = .ok (.ifCond .lt 34, 3) := by decide +kernel
theorem dX12_quiet_37 : decode cX12_quiet 37 = .ok (.aload_n 0, 1) := by decide +kernel
theorem dX12_quiet_38 : decode cX12_quiet 38 = .ok (.aload_n 0, 1) := by decide +kernel
theorem dX12_quiet_39 : decode cX12_quiet 39 = .ok (.getfield 114, 3) := by decide +kernel
theorem dX12_quiet_42 : decode cX12_quiet 42 = .ok (.iload 5, 2) := by decide +kernel
theorem dX12_quiet_44 : decode cX12_quiet 44 = .ok (.iload_n 1, 1) := by decide +kernel
theorem dX12_quiet_45 : decode cX12_quiet 45 = .ok (.invokevirtual 357, 3) := by decide +kernel
theorem dX12_quiet_48 : decode cX12_quiet 48 = .ok (.ifCond .eq 6, 3) := by decide +kernel
theorem dX12_quiet_51 : decode cX12_quiet 51 = .ok (.goto 11, 3) := by decide +kernel
theorem dX12_quiet_54 : decode cX12_quiet 54 = .ok (.iload_n 3, 1) := by decide +kernel
theorem dX12_quiet_55 : decode cX12_quiet 55 = .ok (.iconst 1, 1) := by decide +kernel
theorem dX12_quiet_56 : decode cX12_quiet 56 = .ok (.iadd, 1) := by decide +kernel
theorem dX12_quiet_57 : decode cX12_quiet 57 = .ok (.istore_n 3, 1) := by decide +kernel
theorem dX12_quiet_58 : decode cX12_quiet 58 = .ok (.iload 5, 2) := by decide +kernel
theorem dX12_quiet_60 : decode cX12_quiet 60 = .ok (.istore 4, 2) := by decide +kernel
theorem dX12_quiet_62 : decode cX12_quiet 62 = .ok (.iinc 5 (-1), 3) := by decide +kernel
theorem dX12_quiet_65 : decode cX12_quiet 65 = .ok (.goto (-33), 3) := by decide +kernel
theorem dX12_quiet_68 : decode cX12_quiet 68 = .ok (.iload_n 2, 1) := by decide +kernel
theorem dX12_quiet_69 : decode cX12_quiet 69 = .ok (.ifCond .ne 7, 3) := by decide +kernel
theorem dX12_quiet_72 : decode cX12_quiet 72 = .ok (.iload_n 3, 1) := by decide +kernel
theorem dX12_quiet_73 : decode cX12_quiet 73 = .ok (.goto 5, 3) := by decide +kernel
theorem dX12_quiet_76 : decode cX12_quiet 76 = .ok (.iload 4, 2) := by decide +kernel
theorem dX12_quiet_78 : decode cX12_quiet 78 = .ok (.ireturn, 1) := by decide +kernel
def f_X12_quiet_n32 (S0 : Gr) (x1 : Int32) (x2 : Int32) : Nat → Int32 → Int32 → Int32 → Option (Int32)
  | 0, _, _, _ => none
  | n + 1, x3, x4, x5 => if x5 < 0 then (if x2 = 0 then (some x3) else (some x4)) else ((f_X12_isFelt S0 (S0.1 5) x5 x1).bind fun u7 => if u7 = 0 then (lt' ((x3 + 1)) fun v9 => lt' (x5 + (-1)) fun v10 => f_X12_quiet_n32 S0 x1 x2 n v9 x5 v10) else (lt' (x5 + (-1)) fun v11 => f_X12_quiet_n32 S0 x1 x2 n x3 x4 v11))
def f_X12_quiet (S0 : Gr) (x1 : Int32) (x2 : Int32) : Option (Int32) := (f_X12_in x1 0 23).bind fun u1 => if u1 = 0 then (some (-1)) else ((f_X12_in x2 0 1).bind fun u3 => if u3 = 0 then (some (-1)) else (f_X12_quiet_n32 S0 x1 x2 fu 0 (-2) 383))
set_option maxHeartbeats 4000000 in
set_option maxRecDepth 100000 in
theorem c_X12_quiet (l : Launch) (E : Ec) (q0 : Nat → Nat) (sz : Nat) (S0 : Gr) (x1 : Int32) (x2 : Int32) (Rv : Int32) (h : f_X12_quiet S0 x1 x2 = some Rv) : Met l yX12_quiet (wsM (.code yX12_quiet cX12_quiet 6 (some .int))) ({ frames := 3, cells := 0, slots := 0, locals := 66 } : Room) (va_Pc [.ref (q0 0), .int x1, .int x2] (ctP E (cw_X12 E q0 S0) sz)) (ctI E (cw_X12 E q0 S0) (cw_X12 E q0 S0) sz Rv) 0 0 (va_A (cw_X12 E q0 S0) sz) := by
  refine ct_metI (by decide) (Nat.le_of_ble_eq_true rfl) ?_
  intro p e s m ar below meth c A QM hx hb hml hown hg X hP hD hS RET ls hl
  have hown : s.vm.findClass RX12 = some m.cls := hown
  have hl : lv_has ls 6 [(0, .ref (q0 0)), (1, .int x1), (2, .int x2)] := hl
  have RT : ∀ (v : Int32) (H : Heap) (locs : List Loc) (ls : Array Slot) (pc : Nat), some v = some Rv → narrow .int (.int v) = .int v → va_P E.1 vwCl (cw_X12 E q0 S0) H → va_D A (cw_X12 E q0 S0) → va_S A s.heap H locs → decode cX12_quiet pc = .ok (.ireturn, 1) → W p l e ({ frames := 3, cells := 0, slots := 0, locals := 66 } : Room) s m ar below meth c H locs 0 0 QM (F0 m pc ls [.int v]) := by
    intro v H locs ls pc e hn hP hD hS d
    obtain rfl := sm_e e
    exact RET H locs pc ls hn hP hD hS d
  clear RET
  have N32 : ∀ (n : Nat) (x3 : Int32) (x4 : Int32) (x5 : Int32) (H : Heap) (locs : List Loc) (ls : Array Slot), f_X12_quiet_n32 S0 x1 x2 n x3 x4 x5 = some Rv → va_P E.1 vwCl (cw_X12 E q0 S0) H → va_D A (cw_X12 E q0 S0) → va_S A s.heap H locs → lv_has ls 6 [(0, .ref (q0 0)), (1, .int x1), (2, .int x2), (3, .int x3), (4, .int x4), (5, .int x5)] → W p l e ({ frames := 3, cells := 0, slots := 0, locals := 66 } : Room) s m ar below meth c H locs 0 0 QM (F0 m 32 ls []) := by
    intro n
    induction n with
    | zero => intro x3 x4 x5 H locs ls h; exact nn_el h
    | succ n ih =>
      intro x3 x4 x5 H locs ls h hP hD hS hl
      refine lv_iload hx hb dX12_quiet_32 (lv_at hl 5 rfl) ?_
      refine lv_if_lt (tgt := 68) hx hb dX12_quiet_34 (by decide) (fun c5 => ?_) (fun c5 => ?_)
      · have h := it_t h c5
        refine lv_iload_n hx hb dX12_quiet_68 rfl (lv_at hl 2 rfl) ?_
        refine lv_if_ne (tgt := 76) hx hb dX12_quiet_69 (by decide) (fun c6 => ?_) (fun c6 => ?_)
        · have h := it_f h c6
          refine lv_iload hx hb dX12_quiet_76 (lv_at hl 4 rfl) ?_
          exact RT x4 _ _ _ _ h rfl hP hD hS dX12_quiet_78
        · have h := it_t h c6
          refine lv_iload_n hx hb dX12_quiet_72 rfl (lv_at hl 3 rfl) ?_
          refine lv_goto (tgt := 78) hx hb dX12_quiet_73 (by decide) ?_
          exact RT x3 _ _ _ _ h rfl hP hD hS dX12_quiet_78
      · have h := it_f h c5
        refine lv_aload_n hx hb dX12_quiet_37 rfl (lv_at hl 0 rfl) ?_
        refine lv_aload_n hx hb dX12_quiet_38 rfl (lv_at hl 0 rfl) ?_
        refine va_get (D := E.1) (ci := 11) (v := .int (S0.1 5)) (C := RX12) (T := TX12) (N := 57) hx hb hg in_X12 hown X.1 hP 0 rfl rfl 5 (by decide) (hg _ wf_X12_114) (fun _ h9 => h9) rfl dX12_quiet_39 ?_
        refine lv_iload hx hb dX12_quiet_42 (lv_at hl 5 rfl) ?_
        refine lv_iload_n hx hb dX12_quiet_44 rfl (lv_at hl 1 rfl) ?_
        obtain ⟨u7, hc, h⟩ := bd_el h
        refine ct_iA (w1 := cw_X12 E q0 S0) X hP hD hS (va_runV (C := RX12) (As := [.int (S0.1 5), .int x5, .int x1]) (rest := []) ⟨hx, hb, hml, hown, hg⟩ (c_X12_isFelt l E q0 H.size S0 (S0.1 5) x5 x1 u7 hc) (cwV 3 hg (gwV wm_X12_357 wi_X12_isFelt wsl_X12_isFelt wini_X12 wco_X12_isFelt) rfl rfl rfl (by decide +kernel) ⟨Nat.le_of_ble_eq_true rfl, Nat.le_of_ble_eq_true rfl⟩) ⟨ct_blind, ct_rv X.1 hP 0 rfl rfl, ct_preA X hP hD hS _⟩ rfl rfl hl.1 rfl (lv_room (Nat.le_of_ble_eq_true rfl)) dX12_quiet_45 ⟨Nat.zero_le _, Nat.zero_le _⟩) (fun H locs hP hD hS => ?_)
        refine lv_if_eq (tgt := 54) hx hb dX12_quiet_48 (by decide) (fun c8 => ?_) (fun c8 => ?_)
        · have h := it_t h c8
          refine lv_iload_n hx hb dX12_quiet_54 rfl (lv_at hl 3 rfl) ?_
          refine lv_iconst (v := 1) hx hb dX12_quiet_55 (by decide) ?_
          refine lv_iadd hx hb dX12_quiet_56 ?_
          obtain ⟨v9, ev9, h⟩ := lt_el h
          refine lv_top' ev9 ?_
          refine lv_istore_n (lv' := [(3, .int v9), (0, .ref (q0 0)), (1, .int x1), (2, .int x2), (4, .int x4), (5, .int x5)]) hx hb dX12_quiet_57 rfl hl (by decide) rfl (fun ls hl => ?_)
          refine lv_iload hx hb dX12_quiet_58 (lv_at hl 5 rfl) ?_
          refine lv_istore (lv' := [(4, .int x5), (3, .int v9), (0, .ref (q0 0)), (1, .int x1), (2, .int x2), (5, .int x5)]) hx hb dX12_quiet_60 hl (by decide) rfl (fun ls hl => ?_)
          obtain ⟨v10, ev10, h⟩ := lt_el h
          refine lv_iinc (v := v10) (lv' := [(5, .int v10), (4, .int x5), (3, .int v9), (0, .ref (q0 0)), (1, .int x1), (2, .int x2)]) hx hb dX12_quiet_62 hl (k := 5) rfl (by rw [ev10]; rfl) (by decide) rfl (fun ls hl => ?_)
          refine lv_goto (tgt := 32) hx hb dX12_quiet_65 (by decide) ?_
          exact ih v9 x5 v10 _ _ _ h hP hD hS (lv_sub hl [3, 4, 5, 2, 1, 0] rfl)
        · have h := it_f h c8
          refine lv_goto (tgt := 62) hx hb dX12_quiet_51 (by decide) ?_
          obtain ⟨v11, ev11, h⟩ := lt_el h
          refine lv_iinc (v := v11) (lv' := [(5, .int v11), (0, .ref (q0 0)), (1, .int x1), (2, .int x2), (3, .int x3), (4, .int x4)]) hx hb dX12_quiet_62 hl (k := 5) rfl (by rw [ev11]; rfl) (by decide) rfl (fun ls hl => ?_)
          refine lv_goto (tgt := 32) hx hb dX12_quiet_65 (by decide) ?_
          exact ih x3 x4 v11 _ _ _ h hP hD hS (lv_sub hl [1, 2, 3, 4, 5, 0] rfl)
  obtain ⟨H, eH⟩ : ∃ z, z = s.heap := ⟨_, rfl⟩
  rw [← eH]
  have hP : va_P E.1 vwCl (cw_X12 E q0 S0) H := by rw [eH]; exact hP
  have hS : va_S A s.heap H [] := by rw [eH]; exact hS
  clear eH
  obtain ⟨locs, el⟩ : ∃ z : List Loc, z = [] := ⟨_, rfl⟩
  rw [← el] at hS ⊢
  clear el
  refine lv_iload_n hx hb dX12_quiet_0 rfl (lv_at hl 1 rfl) ?_
  refine lv_iconst (v := 0) hx hb dX12_quiet_1 (by decide) ?_
  refine lv_bipush (v := 23) hx hb dX12_quiet_2 (by decide) ?_
  obtain ⟨u1, hc, h⟩ := bd_el h
  refine ct_iN X hP hD hS (va_runS (As := [.int x1, .int 0, .int 23]) (rest := []) ⟨hx, hb, hml, hown, hg⟩ (c_X12_in l E  H.size x1 0 23 u1 hc) (va_cwS 3 hg (gwS wm_X12_110 wst_X12_in wini_X12 wco_X12_in) rfl rfl rfl (by decide +kernel) ⟨Nat.le_of_ble_eq_true rfl, Nat.le_of_ble_eq_true rfl⟩) ⟨ct_blind, ct_preN X hS _⟩ rfl rfl hl.1 rfl (lv_room (Nat.le_of_ble_eq_true rfl)) dX12_quiet_4 ⟨Nat.zero_le _, Nat.zero_le _⟩) (fun H locs hP hD hS => ?_)
  refine lv_if_eq (tgt := 19) hx hb dX12_quiet_7 (by decide) (fun c2 => ?_) (fun c2 => ?_)
  · have h := it_t h c2
    refine lv_iconst (v := (-1)) hx hb dX12_quiet_19 (by decide) ?_
    exact RT (-1) _ _ _ _ h rfl hP hD hS dX12_quiet_20
  · have h := it_f h c2
    refine lv_iload_n hx hb dX12_quiet_10 rfl (lv_at hl 2 rfl) ?_
    refine lv_iconst (v := 0) hx hb dX12_quiet_11 (by decide) ?_
    refine lv_iconst (v := 1) hx hb dX12_quiet_12 (by decide) ?_
    obtain ⟨u3, hc, h⟩ := bd_el h
    refine ct_iN X hP hD hS (va_runS (As := [.int x2, .int 0, .int 1]) (rest := []) ⟨hx, hb, hml, hown, hg⟩ (c_X12_in l E  H.size x2 0 1 u3 hc) (va_cwS 3 hg (gwS wm_X12_110 wst_X12_in wini_X12 wco_X12_in) rfl rfl rfl (by decide +kernel) ⟨Nat.le_of_ble_eq_true rfl, Nat.le_of_ble_eq_true rfl⟩) ⟨ct_blind, ct_preN X hS _⟩ rfl rfl hl.1 rfl (lv_room (Nat.le_of_ble_eq_true rfl)) dX12_quiet_13 ⟨Nat.zero_le _, Nat.zero_le _⟩) (fun H locs hP hD hS => ?_)
    refine lv_if_ne (tgt := 21) hx hb dX12_quiet_16 (by decide) (fun c4 => ?_) (fun c4 => ?_)
    · have h := it_f h c4
      refine lv_iconst (v := 0) hx hb dX12_quiet_21 (by decide) ?_
      refine lv_istore_n (lv' := [(3, .int 0), (0, .ref (q0 0)), (1, .int x1), (2, .int x2)]) hx hb dX12_quiet_22 rfl hl (by decide) rfl (fun ls hl => ?_)
      refine lv_bipush (v := (-2)) hx hb dX12_quiet_23 (by decide) ?_
      refine lv_istore (lv' := [(4, .int (-2)), (3, .int 0), (0, .ref (q0 0)), (1, .int x1), (2, .int x2)]) hx hb dX12_quiet_25 hl (by decide) rfl (fun ls hl => ?_)
      refine lv_sipush (v := 383) hx hb dX12_quiet_27 (by decide) ?_
      refine lv_istore (lv' := [(5, .int 383), (4, .int (-2)), (3, .int 0), (0, .ref (q0 0)), (1, .int x1), (2, .int x2)]) hx hb dX12_quiet_30 hl (by decide) rfl (fun ls hl => ?_)
      exact N32 fu 0 (-2) 383 _ _ _ h hP hD hS (lv_sub hl [3, 4, 5, 2, 1, 0] rfl)
    · have h := it_t h c4
      refine lv_iconst (v := (-1)) hx hb dX12_quiet_19 (by decide) ?_
      exact RT (-1) _ _ _ _ h rfl hP hD hS dX12_quiet_20
theorem dX12_salutes_0 : decode cX12_salutes 0 = .ok (.iload_n 1, 1) := by decide +kernel
theorem dX12_salutes_1 : decode cX12_salutes 1 = .ok (.iconst 1, 1) := by decide +kernel
theorem dX12_salutes_2 : decode cX12_salutes 2 = .ok (.bipush 12, 2) := by decide +kernel
theorem dX12_salutes_4 : decode cX12_salutes 4 = .ok (.invokestatic 110, 3) := by decide +kernel
theorem dX12_salutes_7 : decode cX12_salutes 7 = .ok (.ifCond .eq 13, 3) := by decide +kernel
theorem dX12_salutes_10 : decode cX12_salutes 10 = .ok (.iconst 2, 1) := by decide +kernel
theorem dX12_salutes_11 : decode cX12_salutes 11 = .ok (.iload_n 1, 1) := by decide +kernel
theorem dX12_salutes_12 : decode cX12_salutes 12 = .ok (.imul, 1) := by decide +kernel
theorem dX12_salutes_13 : decode cX12_salutes 13 = .ok (.aload_n 0, 1) := by decide +kernel
theorem dX12_salutes_14 : decode cX12_salutes 14 = .ok (.getfield 143, 3) := by decide +kernel
theorem dX12_salutes_17 : decode cX12_salutes 17 = .ok (.if_icmp .le 5, 3) := by decide +kernel
theorem dX12_salutes_20 : decode cX12_salutes 20 = .ok (.iconst (-1), 1) := by decide +kernel
theorem dX12_salutes_21 : decode cX12_salutes 21 = .ok (.ireturn, 1) := by decide +kernel
theorem dX12_salutes_22 : decode cX12_salutes 22 = .ok (.aload_n 0, 1) := by decide +kernel
theorem dX12_salutes_23 : decode cX12_salutes 23 = .ok (.iconst 0, 1) := by decide +kernel
theorem dX12_salutes_24 : decode cX12_salutes 24 = .ok (.putfield 143, 3) := by decide +kernel
theorem dX12_salutes_27 : decode cX12_salutes 27 = .ok (.iconst 0, 1) := by decide +kernel
theorem dX12_salutes_28 : decode cX12_salutes 28 = .ok (.istore_n 2, 1) := by decide +kernel
theorem dX12_salutes_29 : decode cX12_salutes 29 = .ok (.iload_n 2, 1) := by decide +kernel
theorem dX12_salutes_30 : decode cX12_salutes 30 = .ok (.iload_n 1, 1) := by decide +kernel
theorem dX12_salutes_31 : decode cX12_salutes 31 = .ok (.if_icmp .ge 31, 3) := by decide +kernel
theorem dX12_salutes_34 : decode cX12_salutes 34 = .ok (.aload_n 0, 1) := by decide +kernel
theorem dX12_salutes_35 : decode cX12_salutes 35 = .ok (.iconst 2, 1) := by decide +kernel
theorem dX12_salutes_36 : decode cX12_salutes 36 = .ok (.iload_n 2, 1) := by decide +kernel
theorem dX12_salutes_37 : decode cX12_salutes 37 = .ok (.imul, 1) := by decide +kernel
theorem dX12_salutes_38 : decode cX12_salutes 38 = .ok (.iconst 1, 1) := by decide +kernel
theorem dX12_salutes_39 : decode cX12_salutes 39 = .ok (.iadd, 1) := by decide +kernel
theorem dX12_salutes_40 : decode cX12_salutes 40 = .ok (.invokevirtual 351, 3) := by decide +kernel
theorem dX12_salutes_43 : decode cX12_salutes 43 = .ok (.aload_n 0, 1) := by decide +kernel
theorem dX12_salutes_44 : decode cX12_salutes 44 = .ok (.iconst 2, 1) := by decide +kernel
theorem dX12_salutes_45 : decode cX12_salutes 45 = .ok (.iload_n 2, 1) := by decide +kernel
theorem dX12_salutes_46 : decode cX12_salutes 46 = .ok (.imul, 1) := by decide +kernel
theorem dX12_salutes_47 : decode cX12_salutes 47 = .ok (.invokevirtual 351, 3) := by decide +kernel
theorem dX12_salutes_50 : decode cX12_salutes 50 = .ok (.if_icmp .ge 6, 3) := by decide +kernel
theorem dX12_salutes_53 : decode cX12_salutes 53 = .ok (.bipush (-3), 2) := by decide +kernel
theorem dX12_salutes_55 : decode cX12_salutes 55 = .ok (.ireturn, 1) := by decide +kernel
theorem dX12_salutes_56 : decode cX12_salutes 56 = .ok (.iinc 2 1, 3) := by decide +kernel
theorem dX12_salutes_59 : decode cX12_salutes 59 = .ok (.goto (-30), 3) := by decide +kernel
theorem dX12_salutes_62 : decode cX12_salutes 62 = .ok (.iconst 0, 1) := by decide +kernel
theorem dX12_salutes_63 : decode cX12_salutes 63 = .ok (.istore_n 2, 1) := by decide +kernel
theorem dX12_salutes_64 : decode cX12_salutes 64 = .ok (.iconst (-1), 1) := by decide +kernel
theorem dX12_salutes_65 : decode cX12_salutes 65 = .ok (.istore_n 3, 1) := by decide +kernel
theorem dX12_salutes_66 : decode cX12_salutes 66 = .ok (.iconst 1, 1) := by decide +kernel
theorem dX12_salutes_67 : decode cX12_salutes 67 = .ok (.istore 4, 2) := by decide +kernel
theorem dX12_salutes_69 : decode cX12_salutes 69 = .ok (.iload 4, 2) := by decide +kernel
theorem dX12_salutes_71 : decode cX12_salutes 71 = .ok (.ifCond .eq 105, 3) := by decide +kernel
theorem dX12_salutes_74 : decode cX12_salutes 74 = .ok (.iconst (-1), 1) := by decide +kernel
theorem dX12_salutes_75 : decode cX12_salutes 75 = .ok (.istore 5, 2) := by decide +kernel
theorem dX12_salutes_77 : decode cX12_salutes 77 = .ok (.iconst 0, 1) := by decide +kernel
theorem dX12_salutes_78 : decode cX12_salutes 78 = .ok (.istore 6, 2) := by decide +kernel
theorem dX12_salutes_80 : decode cX12_salutes 80 = .ok (.iload 6, 2) := by decide +kernel
theorem dX12_salutes_82 : decode cX12_salutes 82 = .ok (.iload_n 1, 1) := by decide +kernel
theorem dX12_salutes_83 : decode cX12_salutes 83 = .ok (.if_icmp .ge 54, 3) := by decide +kernel
theorem dX12_salutes_86 : decode cX12_salutes 86 = .ok (.aload_n 0, 1) := by decide +kernel
theorem dX12_salutes_87 : decode cX12_salutes 87 = .ok (.iconst 2, 1) := by decide +kernel
theorem dX12_salutes_88 : decode cX12_salutes 88 = .ok (.iload 6, 2) := by decide +kernel
theorem dX12_salutes_90 : decode cX12_salutes 90 = .ok (.imul, 1) := by decide +kernel
theorem dX12_salutes_91 : decode cX12_salutes 91 = .ok (.invokevirtual 351, 3) := by decide +kernel
theorem dX12_salutes_94 : decode cX12_salutes 94 = .ok (.iload_n 3, 1) := by decide +kernel
theorem dX12_salutes_95 : decode cX12_salutes 95 = .ok (.if_icmp .le 36, 3) := by decide +kernel
theorem dX12_salutes_98 : decode cX12_salutes 98 = .ok (.iload 5, 2) := by decide +kernel
theorem dX12_salutes_100 : decode cX12_salutes 100 = .ok (.iconst (-1), 1) := by decide +kernel
theorem dX12_salutes_101 : decode cX12_salutes 101 = .ok (.if_icmp .eq 26, 3) := by decide +kernel
theorem dX12_salutes_104 : decode cX12_salutes 104 = .ok (.aload_n 0, 1) := by decide +kernel
theorem dX12_salutes_105 : decode cX12_salutes 105 = .ok (.iconst 2, 1) := by decide +kernel
theorem dX12_salutes_106 : decode cX12_salutes 106 = .ok (.iload 6, 2) := by decide +kernel
theorem dX12_salutes_108 : decode cX12_salutes 108 = .ok (.imul, 1) := by decide +kernel
theorem dX12_salutes_109 : decode cX12_salutes 109 = .ok (.iconst 1, 1) := by decide +kernel
theorem dX12_salutes_110 : decode cX12_salutes 110 = .ok (.iadd, 1) := by decide +kernel
theorem dX12_salutes_111 : decode cX12_salutes 111 = .ok (.invokevirtual 351, 3) := by decide +kernel
theorem dX12_salutes_114 : decode cX12_salutes 114 = .ok (.aload_n 0, 1) := by decide +kernel
theorem dX12_salutes_115 : decode cX12_salutes 115 = .ok (.iconst 2, 1) := by decide +kernel
theorem dX12_salutes_116 : decode cX12_salutes 116 = .ok (.iload 5, 2) := by decide +kernel
theorem dX12_salutes_118 : decode cX12_salutes 118 = .ok (.imul, 1) := by decide +kernel
theorem dX12_salutes_119 : decode cX12_salutes 119 = .ok (.iconst 1, 1) := by decide +kernel
theorem dX12_salutes_120 : decode cX12_salutes 120 = .ok (.iadd, 1) := by decide +kernel
theorem dX12_salutes_121 : decode cX12_salutes 121 = .ok (.invokevirtual 351, 3) := by decide +kernel
theorem dX12_salutes_124 : decode cX12_salutes 124 = .ok (.if_icmp .ge 7, 3) := by decide +kernel
theorem dX12_salutes_127 : decode cX12_salutes 127 = .ok (.iload 6, 2) := by decide +kernel
theorem dX12_salutes_129 : decode cX12_salutes 129 = .ok (.istore 5, 2) := by decide +kernel
theorem dX12_salutes_131 : decode cX12_salutes 131 = .ok (.iinc 6 1, 3) := by decide +kernel
theorem dX12_salutes_134 : decode cX12_salutes 134 = .ok (.goto (-54), 3) := by decide +kernel
theorem dX12_salutes_137 : decode cX12_salutes 137 = .ok (.iload 5, 2) := by decide +kernel
theorem dX12_salutes_139 : decode cX12_salutes 139 = .ok (.iconst (-1), 1) := by decide +kernel
theorem dX12_salutes_140 : decode cX12_salutes 140 = .ok (.if_icmp .eq 7, 3) := by decide +kernel
theorem dX12_salutes_143 : decode cX12_salutes 143 = .ok (.iconst 1, 1) := by decide +kernel
theorem dX12_salutes_144 : decode cX12_salutes 144 = .ok (.goto 4, 3) := by decide +kernel
theorem dX12_salutes_147 : decode cX12_salutes 147 = .ok (.iconst 0, 1) := by decide +kernel
theorem dX12_salutes_148 : decode cX12_salutes 148 = .ok (.istore 4, 2) := by decide +kernel
theorem dX12_salutes_150 : decode cX12_salutes 150 = .ok (.iload 4, 2) := by decide +kernel
theorem dX12_salutes_152 : decode cX12_salutes 152 = .ok (.ifCond .ne 6, 3) := by decide +kernel
theorem dX12_salutes_155 : decode cX12_salutes 155 = .ok (.goto (-86), 3) := by decide +kernel
theorem dX12_salutes_158 : decode cX12_salutes 158 = .ok (.iload_n 2, 1) := by decide +kernel
theorem dX12_salutes_159 : decode cX12_salutes 159 = .ok (.iconst 1, 1) := by decide +kernel
theorem dX12_salutes_160 : decode cX12_salutes 160 = .ok (.iadd, 1) := by decide +kernel
theorem dX12_salutes_161 : decode cX12_salutes 161 = .ok (.istore_n 2, 1) := by decide +kernel
theorem dX12_salutes_162 : decode cX12_salutes 162 = .ok (.aload_n 0, 1) := by decide +kernel
theorem dX12_salutes_163 : decode cX12_salutes 163 = .ok (.iconst 2, 1) := by decide +kernel
theorem dX12_salutes_164 : decode cX12_salutes 164 = .ok (.iload 5, 2) := by decide +kernel
theorem dX12_salutes_166 : decode cX12_salutes 166 = .ok (.imul, 1) := by decide +kernel
theorem dX12_salutes_167 : decode cX12_salutes 167 = .ok (.iconst 1, 1) := by decide +kernel
theorem dX12_salutes_168 : decode cX12_salutes 168 = .ok (.iadd, 1) := by decide +kernel
theorem dX12_salutes_169 : decode cX12_salutes 169 = .ok (.invokevirtual 351, 3) := by decide +kernel
theorem dX12_salutes_172 : decode cX12_salutes 172 = .ok (.istore_n 3, 1) := by decide +kernel
theorem dX12_salutes_173 : decode cX12_salutes 173 = .ok (.goto (-104), 3) := by decide +kernel
theorem dX12_salutes_176 : decode cX12_salutes 176 = .ok (.iload_n 2, 1) := by decide +kernel
theorem dX12_salutes_177 : decode cX12_salutes 177 = .ok (.ireturn, 1) := by decide +kernel
def f_X12_salutes_n148 (x1 : Int32) (k69 : Gr → Int32 → Int32 → Int32 → Option (Int32 × Gr)) (S0 : Gr) (x2 : Int32) (x3 : Int32) (x5 : Int32) (w0 : Int32) : Option (Int32 × Gr) := if w0 = 0 then (k69 S0 x2 x3 w0) else (lt' ((x2 + 1)) fun v24 => (f_X12_octet S0 ((2 * x5) + 1)).bind fun u25 => k69 S0 v24 u25 w0)
def f_X12_salutes_n80 (x1 : Int32) (k69 : Gr → Int32 → Int32 → Int32 → Option (Int32 × Gr)) : Nat → Gr → Int32 → Int32 → Int32 → Int32 → Option (Int32 × Gr)
  | 0, _, _, _, _, _ => none
  | n + 1, S0, x2, x3, x5, x6 => if x1 ≤ x6 then (if x5 = (-1) then (f_X12_salutes_n148 x1 k69 S0 x2 x3 x5 0) else (f_X12_salutes_n148 x1 k69 S0 x2 x3 x5 1)) else ((f_X12_octet S0 (2 * x6)).bind fun u13 => if u13 ≤ x3 then (lt' (x6 + 1) fun v15 => f_X12_salutes_n80 x1 k69 n S0 x2 x3 x5 v15) else (if x5 = (-1) then (lt' (x6 + 1) fun v17 => f_X12_salutes_n80 x1 k69 n S0 x2 x3 x6 v17) else ((f_X12_octet S0 ((2 * x6) + 1)).bind fun u18 => (f_X12_octet S0 ((2 * x5) + 1)).bind fun u19 => if u19 ≤ u18 then (lt' (x6 + 1) fun v21 => f_X12_salutes_n80 x1 k69 n S0 x2 x3 x5 v21) else (lt' (x6 + 1) fun v22 => f_X12_salutes_n80 x1 k69 n S0 x2 x3 x6 v22))))
def f_X12_salutes_n69 (x1 : Int32) : Nat → Gr → Int32 → Int32 → Int32 → Option (Int32 × Gr)
  | 0, _, _, _, _ => none
  | n + 1, S0, x2, x3, x4 => if x4 = 0 then (some (x2, S0)) else (f_X12_salutes_n80 x1 (f_X12_salutes_n69 x1 n) fu S0 x2 x3 (-1) 0)
def f_X12_salutes_n29 (x1 : Int32) : Nat → Gr → Int32 → Option (Int32 × Gr)
  | 0, _, _ => none
  | n + 1, S0, x2 => if x1 ≤ x2 then (f_X12_salutes_n69 x1 fu S0 0 (-1) 1) else ((f_X12_octet S0 ((2 * x2) + 1)).bind fun u6 => (f_X12_octet S0 (2 * x2)).bind fun u7 => if u7 ≤ u6 then (lt' (x2 + 1) fun v9 => f_X12_salutes_n29 x1 n S0 v9) else (some ((-3), S0)))
def f_X12_salutes (S0 : Gr) (x1 : Int32) : Option (Int32 × Gr) := (f_X12_in x1 1 12).bind fun u1 => if u1 = 0 then (some ((-1), S0)) else (if (2 * x1) ≤ (S0.1 8) then (lt' (sI S0 8 0) fun S0_4 => f_X12_salutes_n29 x1 fu S0_4 0) else (some ((-1), S0)))
set_option maxHeartbeats 4000000 in
set_option maxRecDepth 100000 in
theorem c_X12_salutes (l : Launch) (E : Ec) (q0 : Nat → Nat) (sz : Nat) (S0 : Gr) (x1 : Int32) (Rv : Int32 × Gr) (h : f_X12_salutes S0 x1 = some Rv) : Met l yX12_salutes (wsM (.code yX12_salutes cX12_salutes 7 (some .int))) ({ frames := 1, cells := 0, slots := 0, locals := 22 } : Room) (va_Pc [.ref (q0 0), .int x1] (ctP E (cw_X12 E q0 S0) sz)) (ctI E (cw_X12 E q0 S0) (cw_X12 E q0 Rv.2) sz Rv.1) 0 0 (va_A (cw_X12 E q0 S0) sz) := by
  refine ct_metI (by decide) (Nat.le_of_ble_eq_true rfl) ?_
  intro p e s m ar below meth c A QM hx hb hml hown hg X hP hD hS RET ls hl
  have hown : s.vm.findClass RX12 = some m.cls := hown
  have hl : lv_has ls 7 [(0, .ref (q0 0)), (1, .int x1)] := hl
  have RT : ∀ (v : Int32) (S0 : Gr) (H : Heap) (locs : List Loc) (ls : Array Slot) (pc : Nat), some (v, S0) = some Rv → narrow .int (.int v) = .int v → va_P E.1 vwCl (cw_X12 E q0 S0) H → va_D A (cw_X12 E q0 S0) → va_S A s.heap H locs → decode cX12_salutes pc = .ok (.ireturn, 1) → W p l e ({ frames := 1, cells := 0, slots := 0, locals := 22 } : Room) s m ar below meth c H locs 0 0 QM (F0 m pc ls [.int v]) := by
    intro v S0 H locs ls pc e hn hP hD hS d
    obtain rfl := sm_e e
    exact RET H locs pc ls hn hP hD hS d
  clear RET
  have N148 : ∀ (k69 : Gr → Int32 → Int32 → Int32 → Option (Int32 × Gr)) (hk69 : ∀ (S0 : Gr) (x2 : Int32) (x3 : Int32) (x4 : Int32) (H : Heap) (locs : List Loc) (ls : Array Slot), k69 S0 x2 x3 x4 = some Rv → va_P E.1 vwCl (cw_X12 E q0 S0) H → va_D A (cw_X12 E q0 S0) → va_S A s.heap H locs → lv_has ls 7 [(0, .ref (q0 0)), (1, .int x1), (2, .int x2), (3, .int x3), (4, .int x4)] → W p l e ({ frames := 1, cells := 0, slots := 0, locals := 22 } : Room) s m ar below meth c H locs 0 0 QM (F0 m 69 ls [])) (S0 : Gr) (x2 : Int32) (x3 : Int32) (x5 : Int32) (w0 : Int32) (H : Heap) (locs : List Loc) (ls : Array Slot), f_X12_salutes_n148 x1 k69 S0 x2 x3 x5 w0 = some Rv → va_P E.1 vwCl (cw_X12 E q0 S0) H → va_D A (cw_X12 E q0 S0) → va_S A s.heap H locs → lv_has ls 7 [(0, .ref (q0 0)), (1, .int x1), (2, .int x2), (3, .int x3), (5, .int x5)] → W p l e ({ frames := 1, cells := 0, slots := 0, locals := 22 } : Room) s m ar below meth c H locs 0 0 QM (F0 m 148 ls [.int w0]) := by
    intro k69 hk69 S0 x2 x3 x5 w0 H locs ls h hP hD hS hl
    refine lv_istore (lv' := [(4, .int w0), (0, .ref (q0 0)), (1, .int x1), (2, .int x2), (3, .int x3), (5, .int x5)]) hx hb dX12_salutes_148 hl (by decide) rfl (fun ls hl => ?_)
    refine lv_iload hx hb dX12_salutes_150 (lv_at hl 0 rfl) ?_
    refine lv_if_ne (tgt := 158) hx hb dX12_salutes_152 (by decide) (fun c23 => ?_) (fun c23 => ?_)
    · have h := it_f h c23
      refine lv_iload_n hx hb dX12_salutes_158 rfl (lv_at hl 3 rfl) ?_
      refine lv_iconst (v := 1) hx hb dX12_salutes_159 (by decide) ?_
      refine lv_iadd hx hb dX12_salutes_160 ?_
      obtain ⟨v24, ev24, h⟩ := lt_el h
      refine lv_top' ev24 ?_
      refine lv_istore_n (lv' := [(2, .int v24), (4, .int w0), (0, .ref (q0 0)), (1, .int x1), (3, .int x3), (5, .int x5)]) hx hb dX12_salutes_161 rfl hl (by decide) rfl (fun ls hl => ?_)
      refine lv_aload_n hx hb dX12_salutes_162 rfl (lv_at hl 2 rfl) ?_
      refine lv_iconst (v := 2) hx hb dX12_salutes_163 (by decide) ?_
      refine lv_iload hx hb dX12_salutes_164 (lv_at hl 5 rfl) ?_
      refine lv_imul hx hb dX12_salutes_166 ?_
      refine lv_iconst (v := 1) hx hb dX12_salutes_167 (by decide) ?_
      refine lv_iadd hx hb dX12_salutes_168 ?_
      obtain ⟨u25, hc, h⟩ := bd_el h
      refine ct_iA (w1 := cw_X12 E q0 S0) X hP hD hS (va_runV (C := RX12) (As := [.int ((2 * x5) + 1)]) (rest := []) ⟨hx, hb, hml, hown, hg⟩ (c_X12_octet l E q0 H.size S0 ((2 * x5) + 1) u25 hc) (cwV 1 hg (gwV wm_X12_351 wi_X12_octet wsl_X12_octet wini_X12 wco_X12_octet) rfl rfl rfl (by decide +kernel) ⟨Nat.le_of_ble_eq_true rfl, Nat.le_of_ble_eq_true rfl⟩) ⟨ct_blind, ct_rv X.1 hP 0 rfl rfl, ct_preA X hP hD hS _⟩ rfl rfl hl.1 rfl (lv_room (Nat.le_of_ble_eq_true rfl)) dX12_salutes_169 ⟨Nat.zero_le _, Nat.zero_le _⟩) (fun H locs hP hD hS => ?_)
      refine lv_istore_n (lv' := [(3, .int u25), (2, .int v24), (4, .int w0), (0, .ref (q0 0)), (1, .int x1), (5, .int x5)]) hx hb dX12_salutes_172 rfl hl (by decide) rfl (fun ls hl => ?_)
      refine lv_goto (tgt := 69) hx hb dX12_salutes_173 (by decide) ?_
      exact hk69 S0 v24 u25 w0 _ _ _ h hP hD hS (lv_sub hl [3, 4, 1, 0, 2] rfl)
    · have h := it_t h c23
      refine lv_goto (tgt := 69) hx hb dX12_salutes_155 (by decide) ?_
      exact hk69 S0 x2 x3 w0 _ _ _ h hP hD hS (lv_sub hl [1, 2, 3, 4, 0] rfl)
  have N80 : ∀ (k69 : Gr → Int32 → Int32 → Int32 → Option (Int32 × Gr)) (hk69 : ∀ (S0 : Gr) (x2 : Int32) (x3 : Int32) (x4 : Int32) (H : Heap) (locs : List Loc) (ls : Array Slot), k69 S0 x2 x3 x4 = some Rv → va_P E.1 vwCl (cw_X12 E q0 S0) H → va_D A (cw_X12 E q0 S0) → va_S A s.heap H locs → lv_has ls 7 [(0, .ref (q0 0)), (1, .int x1), (2, .int x2), (3, .int x3), (4, .int x4)] → W p l e ({ frames := 1, cells := 0, slots := 0, locals := 22 } : Room) s m ar below meth c H locs 0 0 QM (F0 m 69 ls [])) (n : Nat) (S0 : Gr) (x2 : Int32) (x3 : Int32) (x5 : Int32) (x6 : Int32) (H : Heap) (locs : List Loc) (ls : Array Slot), f_X12_salutes_n80 x1 k69 n S0 x2 x3 x5 x6 = some Rv → va_P E.1 vwCl (cw_X12 E q0 S0) H → va_D A (cw_X12 E q0 S0) → va_S A s.heap H locs → lv_has ls 7 [(0, .ref (q0 0)), (1, .int x1), (2, .int x2), (3, .int x3), (5, .int x5), (6, .int x6)] → W p l e ({ frames := 1, cells := 0, slots := 0, locals := 22 } : Room) s m ar below meth c H locs 0 0 QM (F0 m 80 ls []) := by
    intro k69 hk69 n
    induction n with
    | zero => intro S0 x2 x3 x5 x6 H locs ls h; exact nn_el h
    | succ n ih =>
      intro S0 x2 x3 x5 x6 H locs ls h hP hD hS hl
      refine lv_iload hx hb dX12_salutes_80 (lv_at hl 5 rfl) ?_
      refine lv_iload_n hx hb dX12_salutes_82 rfl (lv_at hl 1 rfl) ?_
      refine lv_icmp_ge (tgt := 137) hx hb dX12_salutes_83 (by decide) (fun c11 => ?_) (fun c11 => ?_)
      · have h := it_t h c11
        refine lv_iload hx hb dX12_salutes_137 (lv_at hl 4 rfl) ?_
        refine lv_iconst (v := (-1)) hx hb dX12_salutes_139 (by decide) ?_
        refine lv_icmp_eq (tgt := 147) hx hb dX12_salutes_140 (by decide) (fun c12 => ?_) (fun c12 => ?_)
        · have h := it_t h c12
          refine lv_iconst (v := 0) hx hb dX12_salutes_147 (by decide) ?_
          exact N148 k69 hk69 S0 x2 x3 x5 0 _ _ _ h hP hD hS (lv_sub hl [0, 1, 2, 3, 4] rfl)
        · have h := it_f h c12
          refine lv_iconst (v := 1) hx hb dX12_salutes_143 (by decide) ?_
          refine lv_goto (tgt := 148) hx hb dX12_salutes_144 (by decide) ?_
          exact N148 k69 hk69 S0 x2 x3 x5 1 _ _ _ h hP hD hS (lv_sub hl [0, 1, 2, 3, 4] rfl)
      · have h := it_f h c11
        refine lv_aload_n hx hb dX12_salutes_86 rfl (lv_at hl 0 rfl) ?_
        refine lv_iconst (v := 2) hx hb dX12_salutes_87 (by decide) ?_
        refine lv_iload hx hb dX12_salutes_88 (lv_at hl 5 rfl) ?_
        refine lv_imul hx hb dX12_salutes_90 ?_
        obtain ⟨u13, hc, h⟩ := bd_el h
        refine ct_iA (w1 := cw_X12 E q0 S0) X hP hD hS (va_runV (C := RX12) (As := [.int (2 * x6)]) (rest := []) ⟨hx, hb, hml, hown, hg⟩ (c_X12_octet l E q0 H.size S0 (2 * x6) u13 hc) (cwV 1 hg (gwV wm_X12_351 wi_X12_octet wsl_X12_octet wini_X12 wco_X12_octet) rfl rfl rfl (by decide +kernel) ⟨Nat.le_of_ble_eq_true rfl, Nat.le_of_ble_eq_true rfl⟩) ⟨ct_blind, ct_rv X.1 hP 0 rfl rfl, ct_preA X hP hD hS _⟩ rfl rfl hl.1 rfl (lv_room (Nat.le_of_ble_eq_true rfl)) dX12_salutes_91 ⟨Nat.zero_le _, Nat.zero_le _⟩) (fun H locs hP hD hS => ?_)
        refine lv_iload_n hx hb dX12_salutes_94 rfl (lv_at hl 3 rfl) ?_
        refine lv_icmp_le (tgt := 131) hx hb dX12_salutes_95 (by decide) (fun c14 => ?_) (fun c14 => ?_)
        · have h := it_t h c14
          obtain ⟨v15, ev15, h⟩ := lt_el h
          refine lv_iinc (v := v15) (lv' := [(6, .int v15), (0, .ref (q0 0)), (1, .int x1), (2, .int x2), (3, .int x3), (5, .int x5)]) hx hb dX12_salutes_131 hl (k := 5) rfl (by rw [ev15]; rfl) (by decide) rfl (fun ls hl => ?_)
          refine lv_goto (tgt := 80) hx hb dX12_salutes_134 (by decide) ?_
          exact ih S0 x2 x3 x5 v15 _ _ _ h hP hD hS (lv_sub hl [1, 2, 3, 4, 5, 0] rfl)
        · have h := it_f h c14
          refine lv_iload hx hb dX12_salutes_98 (lv_at hl 4 rfl) ?_
          refine lv_iconst (v := (-1)) hx hb dX12_salutes_100 (by decide) ?_
          refine lv_icmp_eq (tgt := 127) hx hb dX12_salutes_101 (by decide) (fun c16 => ?_) (fun c16 => ?_)
          · have h := it_t h c16
            refine lv_iload hx hb dX12_salutes_127 (lv_at hl 5 rfl) ?_
            refine lv_istore (lv' := [(5, .int x6), (0, .ref (q0 0)), (1, .int x1), (2, .int x2), (3, .int x3), (6, .int x6)]) hx hb dX12_salutes_129 hl (by decide) rfl (fun ls hl => ?_)
            obtain ⟨v17, ev17, h⟩ := lt_el h
            refine lv_iinc (v := v17) (lv' := [(6, .int v17), (5, .int x6), (0, .ref (q0 0)), (1, .int x1), (2, .int x2), (3, .int x3)]) hx hb dX12_salutes_131 hl (k := 5) rfl (by rw [ev17]; rfl) (by decide) rfl (fun ls hl => ?_)
            refine lv_goto (tgt := 80) hx hb dX12_salutes_134 (by decide) ?_
            exact ih S0 x2 x3 x6 v17 _ _ _ h hP hD hS (lv_sub hl [2, 3, 4, 5, 1, 0] rfl)
          · have h := it_f h c16
            refine lv_aload_n hx hb dX12_salutes_104 rfl (lv_at hl 0 rfl) ?_
            refine lv_iconst (v := 2) hx hb dX12_salutes_105 (by decide) ?_
            refine lv_iload hx hb dX12_salutes_106 (lv_at hl 5 rfl) ?_
            refine lv_imul hx hb dX12_salutes_108 ?_
            refine lv_iconst (v := 1) hx hb dX12_salutes_109 (by decide) ?_
            refine lv_iadd hx hb dX12_salutes_110 ?_
            obtain ⟨u18, hc, h⟩ := bd_el h
            refine ct_iA (w1 := cw_X12 E q0 S0) X hP hD hS (va_runV (C := RX12) (As := [.int ((2 * x6) + 1)]) (rest := []) ⟨hx, hb, hml, hown, hg⟩ (c_X12_octet l E q0 H.size S0 ((2 * x6) + 1) u18 hc) (cwV 1 hg (gwV wm_X12_351 wi_X12_octet wsl_X12_octet wini_X12 wco_X12_octet) rfl rfl rfl (by decide +kernel) ⟨Nat.le_of_ble_eq_true rfl, Nat.le_of_ble_eq_true rfl⟩) ⟨ct_blind, ct_rv X.1 hP 0 rfl rfl, ct_preA X hP hD hS _⟩ rfl rfl hl.1 rfl (lv_room (Nat.le_of_ble_eq_true rfl)) dX12_salutes_111 ⟨Nat.zero_le _, Nat.zero_le _⟩) (fun H locs hP hD hS => ?_)
            refine lv_aload_n hx hb dX12_salutes_114 rfl (lv_at hl 0 rfl) ?_
            refine lv_iconst (v := 2) hx hb dX12_salutes_115 (by decide) ?_
            refine lv_iload hx hb dX12_salutes_116 (lv_at hl 4 rfl) ?_
            refine lv_imul hx hb dX12_salutes_118 ?_
            refine lv_iconst (v := 1) hx hb dX12_salutes_119 (by decide) ?_
            refine lv_iadd hx hb dX12_salutes_120 ?_
            obtain ⟨u19, hc, h⟩ := bd_el h
            refine ct_iA (w1 := cw_X12 E q0 S0) X hP hD hS (va_runV (C := RX12) (As := [.int ((2 * x5) + 1)]) (rest := [.int u18]) ⟨hx, hb, hml, hown, hg⟩ (c_X12_octet l E q0 H.size S0 ((2 * x5) + 1) u19 hc) (cwV 1 hg (gwV wm_X12_351 wi_X12_octet wsl_X12_octet wini_X12 wco_X12_octet) rfl rfl rfl (by decide +kernel) ⟨Nat.le_of_ble_eq_true rfl, Nat.le_of_ble_eq_true rfl⟩) ⟨ct_blind, ct_rv X.1 hP 0 rfl rfl, ct_preA X hP hD hS _⟩ rfl rfl hl.1 rfl (lv_room (Nat.le_of_ble_eq_true rfl)) dX12_salutes_121 ⟨Nat.zero_le _, Nat.zero_le _⟩) (fun H locs hP hD hS => ?_)
            refine lv_icmp_ge (tgt := 131) hx hb dX12_salutes_124 (by decide) (fun c20 => ?_) (fun c20 => ?_)
            · have h := it_t h c20
              obtain ⟨v21, ev21, h⟩ := lt_el h
              refine lv_iinc (v := v21) (lv' := [(6, .int v21), (0, .ref (q0 0)), (1, .int x1), (2, .int x2), (3, .int x3), (5, .int x5)]) hx hb dX12_salutes_131 hl (k := 5) rfl (by rw [ev21]; rfl) (by decide) rfl (fun ls hl => ?_)
              refine lv_goto (tgt := 80) hx hb dX12_salutes_134 (by decide) ?_
              exact ih S0 x2 x3 x5 v21 _ _ _ h hP hD hS (lv_sub hl [1, 2, 3, 4, 5, 0] rfl)
            · have h := it_f h c20
              refine lv_iload hx hb dX12_salutes_127 (lv_at hl 5 rfl) ?_
              refine lv_istore (lv' := [(5, .int x6), (0, .ref (q0 0)), (1, .int x1), (2, .int x2), (3, .int x3), (6, .int x6)]) hx hb dX12_salutes_129 hl (by decide) rfl (fun ls hl => ?_)
              obtain ⟨v22, ev22, h⟩ := lt_el h
              refine lv_iinc (v := v22) (lv' := [(6, .int v22), (5, .int x6), (0, .ref (q0 0)), (1, .int x1), (2, .int x2), (3, .int x3)]) hx hb dX12_salutes_131 hl (k := 5) rfl (by rw [ev22]; rfl) (by decide) rfl (fun ls hl => ?_)
              refine lv_goto (tgt := 80) hx hb dX12_salutes_134 (by decide) ?_
              exact ih S0 x2 x3 x6 v22 _ _ _ h hP hD hS (lv_sub hl [2, 3, 4, 5, 1, 0] rfl)
  have N69 : ∀ (n : Nat) (S0 : Gr) (x2 : Int32) (x3 : Int32) (x4 : Int32) (H : Heap) (locs : List Loc) (ls : Array Slot), f_X12_salutes_n69 x1 n S0 x2 x3 x4 = some Rv → va_P E.1 vwCl (cw_X12 E q0 S0) H → va_D A (cw_X12 E q0 S0) → va_S A s.heap H locs → lv_has ls 7 [(0, .ref (q0 0)), (1, .int x1), (2, .int x2), (3, .int x3), (4, .int x4)] → W p l e ({ frames := 1, cells := 0, slots := 0, locals := 22 } : Room) s m ar below meth c H locs 0 0 QM (F0 m 69 ls []) := by
    intro n
    induction n with
    | zero => intro S0 x2 x3 x4 H locs ls h; exact nn_el h
    | succ n ih =>
      intro S0 x2 x3 x4 H locs ls h hP hD hS hl
      refine lv_iload hx hb dX12_salutes_69 (lv_at hl 4 rfl) ?_
      refine lv_if_eq (tgt := 176) hx hb dX12_salutes_71 (by decide) (fun c10 => ?_) (fun c10 => ?_)
      · have h := it_t h c10
        refine lv_iload_n hx hb dX12_salutes_176 rfl (lv_at hl 2 rfl) ?_
        exact RT x2 S0 _ _ _ _ h rfl hP hD hS dX12_salutes_177
      · have h := it_f h c10
        refine lv_iconst (v := (-1)) hx hb dX12_salutes_74 (by decide) ?_
        refine lv_istore (lv' := [(5, .int (-1)), (0, .ref (q0 0)), (1, .int x1), (2, .int x2), (3, .int x3), (4, .int x4)]) hx hb dX12_salutes_75 hl (by decide) rfl (fun ls hl => ?_)
        refine lv_iconst (v := 0) hx hb dX12_salutes_77 (by decide) ?_
        refine lv_istore (lv' := [(6, .int 0), (5, .int (-1)), (0, .ref (q0 0)), (1, .int x1), (2, .int x2), (3, .int x3), (4, .int x4)]) hx hb dX12_salutes_78 hl (by decide) rfl (fun ls hl => ?_)
        exact N80 (f_X12_salutes_n69 x1 n) ih fu S0 x2 x3 (-1) 0 _ _ _ h hP hD hS (lv_sub hl [2, 3, 4, 5, 1, 0] rfl)
  have N29 : ∀ (n : Nat) (S0 : Gr) (x2 : Int32) (H : Heap) (locs : List Loc) (ls : Array Slot), f_X12_salutes_n29 x1 n S0 x2 = some Rv → va_P E.1 vwCl (cw_X12 E q0 S0) H → va_D A (cw_X12 E q0 S0) → va_S A s.heap H locs → lv_has ls 7 [(0, .ref (q0 0)), (1, .int x1), (2, .int x2)] → W p l e ({ frames := 1, cells := 0, slots := 0, locals := 22 } : Room) s m ar below meth c H locs 0 0 QM (F0 m 29 ls []) := by
    intro n
    induction n with
    | zero => intro S0 x2 H locs ls h; exact nn_el h
    | succ n ih =>
      intro S0 x2 H locs ls h hP hD hS hl
      refine lv_iload_n hx hb dX12_salutes_29 rfl (lv_at hl 2 rfl) ?_
      refine lv_iload_n hx hb dX12_salutes_30 rfl (lv_at hl 1 rfl) ?_
      refine lv_icmp_ge (tgt := 62) hx hb dX12_salutes_31 (by decide) (fun c5 => ?_) (fun c5 => ?_)
      · have h := it_t h c5
        refine lv_iconst (v := 0) hx hb dX12_salutes_62 (by decide) ?_
        refine lv_istore_n (lv' := [(2, .int 0), (0, .ref (q0 0)), (1, .int x1)]) hx hb dX12_salutes_63 rfl hl (by decide) rfl (fun ls hl => ?_)
        refine lv_iconst (v := (-1)) hx hb dX12_salutes_64 (by decide) ?_
        refine lv_istore_n (lv' := [(3, .int (-1)), (2, .int 0), (0, .ref (q0 0)), (1, .int x1)]) hx hb dX12_salutes_65 rfl hl (by decide) rfl (fun ls hl => ?_)
        refine lv_iconst (v := 1) hx hb dX12_salutes_66 (by decide) ?_
        refine lv_istore (lv' := [(4, .int 1), (3, .int (-1)), (2, .int 0), (0, .ref (q0 0)), (1, .int x1)]) hx hb dX12_salutes_67 hl (by decide) rfl (fun ls hl => ?_)
        exact N69 fu S0 0 (-1) 1 _ _ _ h hP hD hS (lv_sub hl [3, 4, 2, 1, 0] rfl)
      · have h := it_f h c5
        refine lv_aload_n hx hb dX12_salutes_34 rfl (lv_at hl 0 rfl) ?_
        refine lv_iconst (v := 2) hx hb dX12_salutes_35 (by decide) ?_
        refine lv_iload_n hx hb dX12_salutes_36 rfl (lv_at hl 2 rfl) ?_
        refine lv_imul hx hb dX12_salutes_37 ?_
        refine lv_iconst (v := 1) hx hb dX12_salutes_38 (by decide) ?_
        refine lv_iadd hx hb dX12_salutes_39 ?_
        obtain ⟨u6, hc, h⟩ := bd_el h
        refine ct_iA (w1 := cw_X12 E q0 S0) X hP hD hS (va_runV (C := RX12) (As := [.int ((2 * x2) + 1)]) (rest := []) ⟨hx, hb, hml, hown, hg⟩ (c_X12_octet l E q0 H.size S0 ((2 * x2) + 1) u6 hc) (cwV 1 hg (gwV wm_X12_351 wi_X12_octet wsl_X12_octet wini_X12 wco_X12_octet) rfl rfl rfl (by decide +kernel) ⟨Nat.le_of_ble_eq_true rfl, Nat.le_of_ble_eq_true rfl⟩) ⟨ct_blind, ct_rv X.1 hP 0 rfl rfl, ct_preA X hP hD hS _⟩ rfl rfl hl.1 rfl (lv_room (Nat.le_of_ble_eq_true rfl)) dX12_salutes_40 ⟨Nat.zero_le _, Nat.zero_le _⟩) (fun H locs hP hD hS => ?_)
        refine lv_aload_n hx hb dX12_salutes_43 rfl (lv_at hl 0 rfl) ?_
        refine lv_iconst (v := 2) hx hb dX12_salutes_44 (by decide) ?_
        refine lv_iload_n hx hb dX12_salutes_45 rfl (lv_at hl 2 rfl) ?_
        refine lv_imul hx hb dX12_salutes_46 ?_
        obtain ⟨u7, hc, h⟩ := bd_el h
        refine ct_iA (w1 := cw_X12 E q0 S0) X hP hD hS (va_runV (C := RX12) (As := [.int (2 * x2)]) (rest := [.int u6]) ⟨hx, hb, hml, hown, hg⟩ (c_X12_octet l E q0 H.size S0 (2 * x2) u7 hc) (cwV 1 hg (gwV wm_X12_351 wi_X12_octet wsl_X12_octet wini_X12 wco_X12_octet) rfl rfl rfl (by decide +kernel) ⟨Nat.le_of_ble_eq_true rfl, Nat.le_of_ble_eq_true rfl⟩) ⟨ct_blind, ct_rv X.1 hP 0 rfl rfl, ct_preA X hP hD hS _⟩ rfl rfl hl.1 rfl (lv_room (Nat.le_of_ble_eq_true rfl)) dX12_salutes_47 ⟨Nat.zero_le _, Nat.zero_le _⟩) (fun H locs hP hD hS => ?_)
        refine lv_icmp_ge (tgt := 56) hx hb dX12_salutes_50 (by decide) (fun c8 => ?_) (fun c8 => ?_)
        · have h := it_t h c8
          obtain ⟨v9, ev9, h⟩ := lt_el h
          refine lv_iinc (v := v9) (lv' := [(2, .int v9), (0, .ref (q0 0)), (1, .int x1)]) hx hb dX12_salutes_56 hl (k := 2) rfl (by rw [ev9]; rfl) (by decide) rfl (fun ls hl => ?_)
          refine lv_goto (tgt := 29) hx hb dX12_salutes_59 (by decide) ?_
          exact ih S0 v9 _ _ _ h hP hD hS (lv_sub hl [1, 2, 0] rfl)
        · have h := it_f h c8
          refine lv_bipush (v := (-3)) hx hb dX12_salutes_53 (by decide) ?_
          exact RT (-3) S0 _ _ _ _ h rfl hP hD hS dX12_salutes_55
  obtain ⟨H, eH⟩ : ∃ z, z = s.heap := ⟨_, rfl⟩
  rw [← eH]
  have hP : va_P E.1 vwCl (cw_X12 E q0 S0) H := by rw [eH]; exact hP
  have hS : va_S A s.heap H [] := by rw [eH]; exact hS
  clear eH
  obtain ⟨locs, el⟩ : ∃ z : List Loc, z = [] := ⟨_, rfl⟩
  rw [← el] at hS ⊢
  clear el
  refine lv_iload_n hx hb dX12_salutes_0 rfl (lv_at hl 1 rfl) ?_
  refine lv_iconst (v := 1) hx hb dX12_salutes_1 (by decide) ?_
  refine lv_bipush (v := 12) hx hb dX12_salutes_2 (by decide) ?_
  obtain ⟨u1, hc, h⟩ := bd_el h
  refine ct_iN X hP hD hS (va_runS (As := [.int x1, .int 1, .int 12]) (rest := []) ⟨hx, hb, hml, hown, hg⟩ (c_X12_in l E  H.size x1 1 12 u1 hc) (va_cwS 3 hg (gwS wm_X12_110 wst_X12_in wini_X12 wco_X12_in) rfl rfl rfl (by decide +kernel) ⟨Nat.le_of_ble_eq_true rfl, Nat.le_of_ble_eq_true rfl⟩) ⟨ct_blind, ct_preN X hS _⟩ rfl rfl hl.1 rfl (lv_room (Nat.le_of_ble_eq_true rfl)) dX12_salutes_4 ⟨Nat.zero_le _, Nat.zero_le _⟩) (fun H locs hP hD hS => ?_)
  refine lv_if_eq (tgt := 20) hx hb dX12_salutes_7 (by decide) (fun c2 => ?_) (fun c2 => ?_)
  · have h := it_t h c2
    refine lv_iconst (v := (-1)) hx hb dX12_salutes_20 (by decide) ?_
    exact RT (-1) S0 _ _ _ _ h rfl hP hD hS dX12_salutes_21
  · have h := it_f h c2
    refine lv_iconst (v := 2) hx hb dX12_salutes_10 (by decide) ?_
    refine lv_iload_n hx hb dX12_salutes_11 rfl (lv_at hl 1 rfl) ?_
    refine lv_imul hx hb dX12_salutes_12 ?_
    refine lv_aload_n hx hb dX12_salutes_13 rfl (lv_at hl 0 rfl) ?_
    refine va_get (D := E.1) (ci := 11) (v := .int (S0.1 8)) (C := RX12) (T := TX12) (N := 57) hx hb hg in_X12 hown X.1 hP 0 rfl rfl 8 (by decide) (hg _ wf_X12_143) (fun _ h9 => h9) rfl dX12_salutes_14 ?_
    refine lv_icmp_le (tgt := 22) hx hb dX12_salutes_17 (by decide) (fun c3 => ?_) (fun c3 => ?_)
    · have h := it_t h c3
      refine lv_aload_n hx hb dX12_salutes_22 rfl (lv_at hl 0 rfl) ?_
      refine lv_iconst (v := 0) hx hb dX12_salutes_23 (by decide) ?_
      obtain ⟨S0_4, eS, h⟩ := lt_el h
      refine va_put (D := E.1) (ci := 11) (v := .int 0) (ty := .int) (C := RX12) (T := TX12) (N := 57) hx hb hg in_X12 tyX12 tyX12_ok nmX12 hown X.1 hP hD hS 0 rfl rfl 8 (by decide) (hg _ wf_X12_143) (fun _ h9 => h9) rfl (by decide +kernel) rfl rfl (Nat.le_of_ble_eq_true rfl) dX12_salutes_24 (fun H locs hP hD hS => ?_)
      have hP : va_P E.1 vwCl (cw_X12 E q0 S0_4) H := by rw [eS]; exact hP
      have hD : va_D A (cw_X12 E q0 S0_4) := by rw [eS]; exact hD
      clear eS
      refine lv_iconst (v := 0) hx hb dX12_salutes_27 (by decide) ?_
      refine lv_istore_n (lv' := [(2, .int 0), (0, .ref (q0 0)), (1, .int x1)]) hx hb dX12_salutes_28 rfl hl (by decide) rfl (fun ls hl => ?_)
      exact N29 fu S0_4 0 _ _ _ h hP hD hS (lv_sub hl [1, 2, 0] rfl)
    · have h := it_f h c3
      refine lv_iconst (v := (-1)) hx hb dX12_salutes_20 (by decide) ?_
      exact RT (-1) S0 _ _ _ _ h rfl hP hD hS dX12_salutes_21
