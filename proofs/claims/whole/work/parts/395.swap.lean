def sw' (w : Int32) (a b : Nat) : Nat := if w = 0 then a else b
theorem dX11_law_0 : decode cX11_law 0 = .ok (.iload_n 1, 1) := by decide +kernel
theorem dX11_law_1 : decode cX11_law 1 = .ok (.iconst 1, 1) := by decide +kernel
theorem dX11_law_2 : decode cX11_law 2 = .ok (.sipush 240, 3) := by decide +kernel
theorem dX11_law_5 : decode cX11_law 5 = .ok (.invokestatic 89, 3) := by decide +kernel
theorem dX11_law_8 : decode cX11_law 8 = .ok (.ifCond .eq 14, 3) := by decide +kernel
theorem dX11_law_11 : decode cX11_law 11 = .ok (.aload_n 0, 1) := by decide +kernel
theorem dX11_law_12 : decode cX11_law 12 = .ok (.getfield 10, 3) := by decide +kernel
theorem dX11_law_15 : decode cX11_law 15 = .ok (.iload_n 1, 1) := by decide +kernel
theorem dX11_law_16 : decode cX11_law 16 = .ok (.invokevirtual 108, 3) := by decide +kernel
theorem dX11_law_19 : decode cX11_law 19 = .ok (.ifCond .ne 5, 3) := by decide +kernel
theorem dX11_law_22 : decode cX11_law 22 = .ok (.iconst (-1), 1) := by decide +kernel
theorem dX11_law_23 : decode cX11_law 23 = .ok (.ireturn, 1) := by decide +kernel
theorem dX11_law_24 : decode cX11_law 24 = .ok (.aload_n 0, 1) := by decide +kernel
theorem dX11_law_25 : decode cX11_law 25 = .ok (.getfield 19, 3) := by decide +kernel
theorem dX11_law_28 : decode cX11_law 28 = .ok (.aload_n 0, 1) := by decide +kernel
theorem dX11_law_29 : decode cX11_law 29 = .ok (.getfield 10, 3) := by decide +kernel
theorem dX11_law_32 : decode cX11_law 32 = .ok (.iload_n 1, 1) := by decide +kernel
theorem dX11_law_33 : decode cX11_law 33 = .ok (.aload_n 0, 1) := by decide +kernel
theorem dX11_law_34 : decode cX11_law 34 = .ok (.getfield 65, 3) := by decide +kernel
theorem dX11_law_37 : decode cX11_law 37 = .ok (.invokevirtual 111, 3) := by decide +kernel
theorem dX11_law_40 : decode cX11_law 40 = .ok (.istore_n 2, 1) := by decide +kernel
theorem dX11_law_41 : decode cX11_law 41 = .ok (.aload_n 0, 1) := by decide +kernel
theorem dX11_law_42 : decode cX11_law 42 = .ok (.getfield 10, 3) := by decide +kernel
theorem dX11_law_45 : decode cX11_law 45 = .ok (.invokevirtual 115, 3) := by decide +kernel
theorem dX11_law_48 : decode cX11_law 48 = .ok (.iload_n 2, 1) := by decide +kernel
theorem dX11_law_49 : decode cX11_law 49 = .ok (.ifCond .le 21, 3) := by decide +kernel
theorem dX11_law_52 : decode cX11_law 52 = .ok (.aload_n 0, 1) := by decide +kernel
theorem dX11_law_53 : decode cX11_law 53 = .ok (.getfield 61, 3) := by decide +kernel
theorem dX11_law_56 : decode cX11_law 56 = .ok (.astore_n 3, 1) := by decide +kernel
theorem dX11_law_57 : decode cX11_law 57 = .ok (.aload_n 0, 1) := by decide +kernel
theorem dX11_law_58 : decode cX11_law 58 = .ok (.aload_n 0, 1) := by decide +kernel
theorem dX11_law_59 : decode cX11_law 59 = .ok (.getfield 65, 3) := by decide +kernel
theorem dX11_law_62 : decode cX11_law 62 = .ok (.putfield 61, 3) := by decide +kernel
theorem dX11_law_65 : decode cX11_law 65 = .ok (.aload_n 0, 1) := by decide +kernel
theorem dX11_law_66 : decode cX11_law 66 = .ok (.aload_n 3, 1) := by decide +kernel
theorem dX11_law_67 : decode cX11_law 67 = .ok (.putfield 65, 3) := by decide +kernel
theorem dX11_law_70 : decode cX11_law 70 = .ok (.iload_n 2, 1) := by decide +kernel
theorem dX11_law_71 : decode cX11_law 71 = .ok (.ireturn, 1) := by decide +kernel
def f_X11_law (S0 : Gr) (S1 : Gr) (S3 : Gr) (S4 : Gr) (S5 : Gr) (x1 : Int32) : Option (Int32 × Int32 × Gr × Gr × Gr) := (f_X11_within x1 1 240).bind fun u1 => if u1 = 0 then (some ((-1), 0, S1, S3, S4)) else ((f_X8_has S1 x1).bind fun u3 => if u3 = 0 then (some ((-1), 0, S1, S3, S4)) else ((f_X4_read S3 S1 S4 x1).bind fun u5 => (f_X8_empty S1).bind fun u6 => if u5.1 ≤ 0 then (some (u5.1, 0, u6, u5.2.1, u5.2.2)) else (some (u5.1, 1, u6, u5.2.1, u5.2.2))))
set_option maxHeartbeats 4000000 in
set_option maxRecDepth 100000 in
theorem c_X11_law (l : Launch) (E : Ec) (q0 q1 q2 q3 q4 q5 : Nat → Nat) (t2 t3 t4 t5 t6 t9 t10 t11 : Nat) (sz : Nat) (S0 : Gr) (S1 : Gr) (S3 : Gr) (S4 : Gr) (S5 : Gr) (x1 : Int32) (Rv : Int32 × Int32 × Gr × Gr × Gr) (h : f_X11_law S0 S1 S3 S4 S5 x1 = some Rv) : Met l yX11_law (wsM (.code yX11_law cX11_law 4 (some .int))) ({ frames := 613, cells := 0, slots := 0, locals := 18372 } : Room) (va_Pc [.ref (q0 0), .int x1] (ctP E (cw_X11 E q0 (q1 0) (q2 0) t2 t3 t4 t5 t6 (q5 0) (q4 0) t9 t10 t11 S0 ++ (cw_X8 E q1 S1 ++ (cw_X4 E q2 (q3 0) ++ (cw_X9 E q3 S3 ++ (cw_X3 E q4 S4 ++ (cw_X3 E q5 S5)))))) sz)) (ctI E (cw_X11 E q0 (q1 0) (q2 0) t2 t3 t4 t5 t6 (q5 0) (q4 0) t9 t10 t11 S0 ++ (cw_X8 E q1 S1 ++ (cw_X4 E q2 (q3 0) ++ (cw_X9 E q3 S3 ++ (cw_X3 E q4 S4 ++ (cw_X3 E q5 S5)))))) (cw_X11 E q0 (q1 0) (q2 0) t2 t3 t4 t5 t6 (sw' Rv.2.1 (q5 0) (q4 0)) (sw' Rv.2.1 (q4 0) (q5 0)) t9 t10 t11 S0 ++ (cw_X8 E q1 Rv.2.2.1 ++ (cw_X4 E q2 (q3 0) ++ (cw_X9 E q3 Rv.2.2.2.1 ++ (cw_X3 E q4 Rv.2.2.2.2 ++ (cw_X3 E q5 S5)))))) sz Rv.1) 0 0 (va_A (cw_X11 E q0 (q1 0) (q2 0) t2 t3 t4 t5 t6 (q5 0) (q4 0) t9 t10 t11 S0 ++ (cw_X8 E q1 S1 ++ (cw_X4 E q2 (q3 0) ++ (cw_X9 E q3 S3 ++ (cw_X3 E q4 S4 ++ (cw_X3 E q5 S5)))))) sz) := by
  refine ct_metI (by decide) (Nat.le_of_ble_eq_true rfl) ?_
  intro p e s m ar below meth c A QM hx hb hml hown hg X hP hD hS RET ls hl
  have hown : s.vm.findClass RX11 = some m.cls := hown
  have hl : lv_has ls 4 [(0, .ref (q0 0)), (1, .int x1)] := hl
  have RT : ∀ (v : Int32) (w : Int32) (S1 : Gr) (S3 : Gr) (S4 : Gr) (H : Heap) (locs : List Loc) (ls : Array Slot) (pc : Nat), some (v, w, S1, S3, S4) = some Rv → narrow .int (.int v) = .int v → va_P E.1 vwCl (cw_X11 E q0 (q1 0) (q2 0) t2 t3 t4 t5 t6 (sw' w (q5 0) (q4 0)) (sw' w (q4 0) (q5 0)) t9 t10 t11 S0 ++ (cw_X8 E q1 S1 ++ (cw_X4 E q2 (q3 0) ++ (cw_X9 E q3 S3 ++ (cw_X3 E q4 S4 ++ (cw_X3 E q5 S5)))))) H → va_D A (cw_X11 E q0 (q1 0) (q2 0) t2 t3 t4 t5 t6 (sw' w (q5 0) (q4 0)) (sw' w (q4 0) (q5 0)) t9 t10 t11 S0 ++ (cw_X8 E q1 S1 ++ (cw_X4 E q2 (q3 0) ++ (cw_X9 E q3 S3 ++ (cw_X3 E q4 S4 ++ (cw_X3 E q5 S5)))))) → va_S A s.heap H locs → decode cX11_law pc = .ok (.ireturn, 1) → W p l e ({ frames := 613, cells := 0, slots := 0, locals := 18372 } : Room) s m ar below meth c H locs 0 0 QM (F0 m pc ls [.int v]) := by
    intro v w S1 S3 S4 H locs ls pc e hn hP hD hS d
    obtain rfl := sm_e e
    exact RET H locs pc ls hn hP hD hS d
  clear RET
  obtain ⟨H, eH⟩ : ∃ z, z = s.heap := ⟨_, rfl⟩
  rw [← eH]
  have hP : va_P E.1 vwCl (cw_X11 E q0 (q1 0) (q2 0) t2 t3 t4 t5 t6 (q5 0) (q4 0) t9 t10 t11 S0 ++ (cw_X8 E q1 S1 ++ (cw_X4 E q2 (q3 0) ++ (cw_X9 E q3 S3 ++ (cw_X3 E q4 S4 ++ (cw_X3 E q5 S5)))))) H := by rw [eH]; exact hP
  have hS : va_S A s.heap H [] := by rw [eH]; exact hS
  clear eH
  obtain ⟨locs, el⟩ : ∃ z : List Loc, z = [] := ⟨_, rfl⟩
  rw [← el] at hS ⊢
  clear el
  refine lv_iload_n hx hb dX11_law_0 rfl (lv_at hl 1 rfl) ?_
  refine lv_iconst (v := 1) hx hb dX11_law_1 (by decide) ?_
  refine lv_sipush (v := 240) hx hb dX11_law_2 (by decide) ?_
  obtain ⟨u1, hc, h⟩ := bd_el h
  refine ct_iN X hP hD hS (va_runS (As := [.int x1, .int 1, .int 240]) (rest := []) ⟨hx, hb, hml, hown, hg⟩ (c_X11_within l E  H.size x1 1 240 u1 hc) (va_cwS 3 hg (gwS wm_X11_89 wst_X11_within wini_X11 wco_X11_within) rfl rfl rfl (by decide +kernel) ⟨Nat.le_of_ble_eq_true rfl, Nat.le_of_ble_eq_true rfl⟩) ⟨ct_blind, ct_preN X hS _⟩ rfl rfl hl.1 rfl (lv_room (Nat.le_of_ble_eq_true rfl)) dX11_law_5 ⟨Nat.zero_le _, Nat.zero_le _⟩) (fun H locs hP hD hS => ?_)
  refine lv_if_eq (tgt := 22) hx hb dX11_law_8 (by decide) (fun c2 => ?_) (fun c2 => ?_)
  · have h := it_t h c2
    refine lv_iconst (v := (-1)) hx hb dX11_law_22 (by decide) ?_
    exact RT (-1) 0 S1 S3 S4 _ _ _ _ h rfl hP hD hS dX11_law_23
  · have h := it_f h c2
    refine lv_aload_n hx hb dX11_law_11 rfl (lv_at hl 0 rfl) ?_
    refine va_get (D := E.1) (ci := 10) (v := .ref (q1 0)) (C := RX11) (T := TX11) (N := 13) hx hb hg in_X11 hown X.1 hP 0 rfl rfl 0 (by decide) (hg _ wf_X11_10) (fun _ h9 => h9) rfl dX11_law_12 ?_
    refine lv_iload_n hx hb dX11_law_15 rfl (lv_at hl 1 rfl) ?_
    obtain ⟨u3, hc, h⟩ := bd_el h
    have hC : ([1, 2] : List Nat).map (fun i => (cw_X11 E q0 (q1 0) (q2 0) t2 t3 t4 t5 t6 (q5 0) (q4 0) t9 t10 t11 S0 ++ (cw_X8 E q1 S1 ++ (cw_X4 E q2 (q3 0) ++ (cw_X9 E q3 S3 ++ (cw_X3 E q4 S4 ++ (cw_X3 E q5 S5))))))[i]?) = (cw_X8 E q1 S1).map some := rfl
    refine ct_iR X hP hD hS [1, 2] hC (va_runV (C := RX8) (As := [.int x1]) (rest := []) ⟨hx, hb, hml, hown, hg⟩ (c_X8_has l E q1 H.size S1 x1 u3 hc) (cwV 1 hg (gwV wm_X11_108 wi_X8_has wsl_X8_has wini_X8 wco_X8_has) rfl rfl rfl (by decide +kernel) ⟨Nat.le_of_ble_eq_true rfl, Nat.le_of_ble_eq_true rfl⟩) ⟨ct_blind, ct_rv X.1 hP 1 rfl rfl, ct_pre X hP hD hS [1, 2] (by decide) hC _⟩ rfl rfl hl.1 rfl (lv_room (Nat.le_of_ble_eq_true rfl)) dX11_law_16 ⟨Nat.zero_le _, Nat.zero_le _⟩) (fun H locs hP hD hS => ?_)
    clear hC
    refine lv_if_ne (tgt := 24) hx hb dX11_law_19 (by decide) (fun c4 => ?_) (fun c4 => ?_)
    · have h := it_f h c4
      refine lv_aload_n hx hb dX11_law_24 rfl (lv_at hl 0 rfl) ?_
      refine va_get (D := E.1) (ci := 10) (v := .ref (q2 0)) (C := RX11) (T := TX11) (N := 13) hx hb hg in_X11 hown X.1 hP 0 rfl rfl 1 (by decide) (hg _ wf_X11_19) (fun _ h9 => h9) rfl dX11_law_25 ?_
      refine lv_aload_n hx hb dX11_law_28 rfl (lv_at hl 0 rfl) ?_
      refine va_get (D := E.1) (ci := 10) (v := .ref (q1 0)) (C := RX11) (T := TX11) (N := 13) hx hb hg in_X11 hown X.1 hP 0 rfl rfl 0 (by decide) (hg _ wf_X11_10) (fun _ h9 => h9) rfl dX11_law_29 ?_
      refine lv_iload_n hx hb dX11_law_32 rfl (lv_at hl 1 rfl) ?_
      refine lv_aload_n hx hb dX11_law_33 rfl (lv_at hl 0 rfl) ?_
      refine va_get (D := E.1) (ci := 10) (v := .ref (q4 0)) (C := RX11) (T := TX11) (N := 13) hx hb hg in_X11 hown X.1 hP 0 rfl rfl 8 (by decide) (hg _ wf_X11_65) (fun _ h9 => h9) rfl dX11_law_34 ?_
      obtain ⟨u5, hc, h⟩ := bd_el h
      have hC : ([3, 4, 5, 1, 2, 6, 7, 8, 9, 10, 11, 12, 13] : List Nat).map (fun i => (cw_X11 E q0 (q1 0) (q2 0) t2 t3 t4 t5 t6 (q5 0) (q4 0) t9 t10 t11 S0 ++ (cw_X8 E q1 S1 ++ (cw_X4 E q2 (q3 0) ++ (cw_X9 E q3 S3 ++ (cw_X3 E q4 S4 ++ (cw_X3 E q5 S5))))))[i]?) = (cw_X4 E q2 (q3 0) ++ (cw_X9 E q3 S3 ++ (cw_X8 E q1 S1 ++ (cw_X3 E q4 S4)))).map some := rfl
      refine ct_i (ws' := cw_X11 E q0 (q1 0) (q2 0) t2 t3 t4 t5 t6 (q5 0) (q4 0) t9 t10 t11 S0 ++ (cw_X8 E q1 S1 ++ (cw_X4 E q2 (q3 0) ++ (cw_X9 E q3 u5.2.1 ++ (cw_X3 E q4 u5.2.2 ++ (cw_X3 E q5 S5)))))) X hP hD hS [3, 4, 5, 1, 2, 6, 7, 8, 9, 10, 11, 12, 13] (va_runV (C := RX4) (As := [.ref (q1 0), .int x1, .ref (q4 0)]) (rest := []) ⟨hx, hb, hml, hown, hg⟩ (c_X4_read l E q2 q3 q1 q4 H.size S3 S1 S4 x1 u5 hc) (cwV 3 hg (gwV wm_X11_111 wi_X4_read wsl_X4_read wini_X4 wco_X4_read) rfl rfl rfl (by decide +kernel) ⟨Nat.le_of_ble_eq_true rfl, Nat.le_of_ble_eq_true rfl⟩) ⟨ct_blind, ct_rv X.1 hP 3 rfl rfl, ct_pre X hP hD hS [3, 4, 5, 1, 2, 6, 7, 8, 9, 10, 11, 12, 13] (by decide) hC _⟩ rfl rfl hl.1 rfl (lv_room (Nat.le_of_ble_eq_true rfl)) dX11_law_37 ⟨Nat.zero_le _, Nat.zero_le _⟩) hC rfl rfl (fun H locs hP hD hS => ?_)
      clear hC
      refine lv_istore_n (lv' := [(2, .int u5.1), (0, .ref (q0 0)), (1, .int x1)]) hx hb dX11_law_40 rfl hl (by decide) rfl (fun ls hl => ?_)
      refine lv_aload_n hx hb dX11_law_41 rfl (lv_at hl 1 rfl) ?_
      refine va_get (D := E.1) (ci := 10) (v := .ref (q1 0)) (C := RX11) (T := TX11) (N := 13) hx hb hg in_X11 hown X.1 hP 0 rfl rfl 0 (by decide) (hg _ wf_X11_10) (fun _ h9 => h9) rfl dX11_law_42 ?_
      obtain ⟨u6, hc, h⟩ := bd_el h
      have hC : ([1, 2] : List Nat).map (fun i => (cw_X11 E q0 (q1 0) (q2 0) t2 t3 t4 t5 t6 (q5 0) (q4 0) t9 t10 t11 S0 ++ (cw_X8 E q1 S1 ++ (cw_X4 E q2 (q3 0) ++ (cw_X9 E q3 u5.2.1 ++ (cw_X3 E q4 u5.2.2 ++ (cw_X3 E q5 S5))))))[i]?) = (cw_X8 E q1 S1).map some := rfl
      refine ct_v (ws' := cw_X11 E q0 (q1 0) (q2 0) t2 t3 t4 t5 t6 (q5 0) (q4 0) t9 t10 t11 S0 ++ (cw_X8 E q1 u6 ++ (cw_X4 E q2 (q3 0) ++ (cw_X9 E q3 u5.2.1 ++ (cw_X3 E q4 u5.2.2 ++ (cw_X3 E q5 S5)))))) X hP hD hS [1, 2] (va_runV (C := RX8) (As := []) (rest := []) ⟨hx, hb, hml, hown, hg⟩ (c_X8_empty l E q1 H.size S1 u6 hc) (cwV 0 hg (gwV wm_X11_115 wi_X8_empty wsl_X8_empty wini_X8 wco_X8_empty) rfl rfl rfl (by decide +kernel) ⟨Nat.le_of_ble_eq_true rfl, Nat.le_of_ble_eq_true rfl⟩) ⟨ct_blind, ct_rv X.1 hP 1 rfl rfl, ct_pre X hP hD hS [1, 2] (by decide) hC _⟩ rfl rfl hl.1 rfl (lv_room (Nat.le_of_ble_eq_true rfl)) dX11_law_45 ⟨Nat.zero_le _, Nat.zero_le _⟩) hC rfl rfl (fun H locs hP hD hS => ?_)
      clear hC
      refine lv_iload_n hx hb dX11_law_48 rfl (lv_at hl 0 rfl) ?_
      refine lv_if_le (tgt := 70) hx hb dX11_law_49 (by decide) (fun c7 => ?_) (fun c7 => ?_)
      · have h := it_t h c7
        refine lv_iload_n hx hb dX11_law_70 rfl (lv_at hl 0 rfl) ?_
        exact RT u5.1 0 u6 u5.2.1 u5.2.2 _ _ _ _ h rfl hP hD hS dX11_law_71
      · have h := it_f h c7
        refine lv_aload_n hx hb dX11_law_52 rfl (lv_at hl 1 rfl) ?_
        refine va_get (D := E.1) (ci := 10) (v := .ref (q5 0)) (C := RX11) (T := TX11) (N := 13) hx hb hg in_X11 hown X.1 hP 0 rfl rfl 7 (by decide) (hg _ wf_X11_61) (fun _ h9 => h9) rfl dX11_law_53 ?_
        refine lv_astore_n (lv' := [(3, .ref (q5 0)), (2, .int u5.1), (0, .ref (q0 0)), (1, .int x1)]) hx hb dX11_law_56 rfl hl (by decide) rfl (fun ls hl => ?_)
        refine lv_aload_n hx hb dX11_law_57 rfl (lv_at hl 2 rfl) ?_
        refine lv_aload_n hx hb dX11_law_58 rfl (lv_at hl 2 rfl) ?_
        refine va_get (D := E.1) (ci := 10) (v := .ref (q4 0)) (C := RX11) (T := TX11) (N := 13) hx hb hg in_X11 hown X.1 hP 0 rfl rfl 8 (by decide) (hg _ wf_X11_65) (fun _ h9 => h9) rfl dX11_law_59 ?_
        refine va_put (D := E.1) (ci := 10) (v := .ref (q4 0)) (ty := .object "DraughtWebs$Law") (C := RX11) (T := TX11) (N := 13) hx hb hg in_X11 tyX11 tyX11_ok nmX11 hown X.1 hP hD hS 0 rfl rfl 7 (by decide) (hg _ wf_X11_61) (fun _ h9 => h9) rfl (by decide +kernel) rfl rfl (Nat.le_of_ble_eq_true rfl) dX11_law_62 (fun H locs hP hD hS => ?_)
        have hP : va_P E.1 vwCl (cw_X11 E q0 (q1 0) (q2 0) t2 t3 t4 t5 t6 (q4 0) (q4 0) t9 t10 t11 S0 ++ (cw_X8 E q1 u6 ++ (cw_X4 E q2 (q3 0) ++ (cw_X9 E q3 u5.2.1 ++ (cw_X3 E q4 u5.2.2 ++ (cw_X3 E q5 S5)))))) H := hP
        have hD : va_D A (cw_X11 E q0 (q1 0) (q2 0) t2 t3 t4 t5 t6 (q4 0) (q4 0) t9 t10 t11 S0 ++ (cw_X8 E q1 u6 ++ (cw_X4 E q2 (q3 0) ++ (cw_X9 E q3 u5.2.1 ++ (cw_X3 E q4 u5.2.2 ++ (cw_X3 E q5 S5)))))) := hD
        refine lv_aload_n hx hb dX11_law_65 rfl (lv_at hl 2 rfl) ?_
        refine lv_aload_n hx hb dX11_law_66 rfl (lv_at hl 0 rfl) ?_
        refine va_put (D := E.1) (ci := 10) (v := .ref (q5 0)) (ty := .object "DraughtWebs$Law") (C := RX11) (T := TX11) (N := 13) hx hb hg in_X11 tyX11 tyX11_ok nmX11 hown X.1 hP hD hS 0 rfl rfl 8 (by decide) (hg _ wf_X11_65) (fun _ h9 => h9) rfl (by decide +kernel) rfl rfl (Nat.le_of_ble_eq_true rfl) dX11_law_67 (fun H locs hP hD hS => ?_)
        have hP : va_P E.1 vwCl (cw_X11 E q0 (q1 0) (q2 0) t2 t3 t4 t5 t6 (q4 0) (q5 0) t9 t10 t11 S0 ++ (cw_X8 E q1 u6 ++ (cw_X4 E q2 (q3 0) ++ (cw_X9 E q3 u5.2.1 ++ (cw_X3 E q4 u5.2.2 ++ (cw_X3 E q5 S5)))))) H := hP
        have hD : va_D A (cw_X11 E q0 (q1 0) (q2 0) t2 t3 t4 t5 t6 (q4 0) (q5 0) t9 t10 t11 S0 ++ (cw_X8 E q1 u6 ++ (cw_X4 E q2 (q3 0) ++ (cw_X9 E q3 u5.2.1 ++ (cw_X3 E q4 u5.2.2 ++ (cw_X3 E q5 S5)))))) := hD
        refine lv_iload_n hx hb dX11_law_70 rfl (lv_at hl 1 rfl) ?_
        exact RT u5.1 1 u6 u5.2.1 u5.2.2 _ _ _ _ h rfl hP hD hS dX11_law_71
    · have h := it_t h c4
      refine lv_iconst (v := (-1)) hx hb dX11_law_22 (by decide) ?_
      exact RT (-1) 0 S1 S3 S4 _ _ _ _ h rfl hP hD hS dX11_law_23
theorem dX11_chart_0 : decode cX11_chart 0 = .ok (.iload_n 1, 1) := by decide +kernel
theorem dX11_chart_1 : decode cX11_chart 1 = .ok (.iconst 1, 1) := by decide +kernel
theorem dX11_chart_2 : decode cX11_chart 2 = .ok (.sipush 160, 3) := by decide +kernel
theorem dX11_chart_5 : decode cX11_chart 5 = .ok (.invokestatic 89, 3) := by decide +kernel
theorem dX11_chart_8 : decode cX11_chart 8 = .ok (.ifCond .eq 14, 3) := by decide +kernel
theorem dX11_chart_11 : decode cX11_chart 11 = .ok (.aload_n 0, 1) := by decide +kernel
theorem dX11_chart_12 : decode cX11_chart 12 = .ok (.getfield 10, 3) := by decide +kernel
theorem dX11_chart_15 : decode cX11_chart 15 = .ok (.iload_n 1, 1) := by decide +kernel
theorem dX11_chart_16 : decode cX11_chart 16 = .ok (.invokevirtual 108, 3) := by decide +kernel
theorem dX11_chart_19 : decode cX11_chart 19 = .ok (.ifCond .ne 5, 3) := by decide +kernel
theorem dX11_chart_22 : decode cX11_chart 22 = .ok (.iconst (-1), 1) := by decide +kernel
theorem dX11_chart_23 : decode cX11_chart 23 = .ok (.ireturn, 1) := by decide +kernel
theorem dX11_chart_24 : decode cX11_chart 24 = .ok (.aload_n 0, 1) := by decide +kernel
theorem dX11_chart_25 : decode cX11_chart 25 = .ok (.getfield 26, 3) := by decide +kernel
theorem dX11_chart_28 : decode cX11_chart 28 = .ok (.aload_n 0, 1) := by decide +kernel
theorem dX11_chart_29 : decode cX11_chart 29 = .ok (.getfield 10, 3) := by decide +kernel
theorem dX11_chart_32 : decode cX11_chart 32 = .ok (.iload_n 1, 1) := by decide +kernel
theorem dX11_chart_33 : decode cX11_chart 33 = .ok (.aload_n 0, 1) := by decide +kernel
theorem dX11_chart_34 : decode cX11_chart 34 = .ok (.getfield 75, 3) := by decide +kernel
theorem dX11_chart_37 : decode cX11_chart 37 = .ok (.invokevirtual 118, 3) := by decide +kernel
theorem dX11_chart_40 : decode cX11_chart 40 = .ok (.istore_n 2, 1) := by decide +kernel
theorem dX11_chart_41 : decode cX11_chart 41 = .ok (.aload_n 0, 1) := by decide +kernel
theorem dX11_chart_42 : decode cX11_chart 42 = .ok (.getfield 10, 3) := by decide +kernel
theorem dX11_chart_45 : decode cX11_chart 45 = .ok (.invokevirtual 115, 3) := by decide +kernel
theorem dX11_chart_48 : decode cX11_chart 48 = .ok (.iload_n 2, 1) := by decide +kernel
theorem dX11_chart_49 : decode cX11_chart 49 = .ok (.ifCond .le 49, 3) := by decide +kernel
theorem dX11_chart_52 : decode cX11_chart 52 = .ok (.aload_n 0, 1) := by decide +kernel
theorem dX11_chart_53 : decode cX11_chart 53 = .ok (.getfield 75, 3) := by decide +kernel
theorem dX11_chart_56 : decode cX11_chart 56 = .ok (.aload_n 0, 1) := by decide +kernel
theorem dX11_chart_57 : decode cX11_chart 57 = .ok (.getfield 71, 3) := by decide +kernel
theorem dX11_chart_60 : decode cX11_chart 60 = .ok (.getfield 121, 3) := by decide +kernel
theorem dX11_chart_63 : decode cX11_chart 63 = .ok (.putfield 121, 3) := by decide +kernel
theorem dX11_chart_66 : decode cX11_chart 66 = .ok (.aload_n 0, 1) := by decide +kernel
theorem dX11_chart_67 : decode cX11_chart 67 = .ok (.getfield 75, 3) := by decide +kernel
theorem dX11_chart_70 : decode cX11_chart 70 = .ok (.aload_n 0, 1) := by decide +kernel
theorem dX11_chart_71 : decode cX11_chart 71 = .ok (.getfield 71, 3) := by decide +kernel
theorem dX11_chart_74 : decode cX11_chart 74 = .ok (.getfield 125, 3) := by decide +kernel
theorem dX11_chart_77 : decode cX11_chart 77 = .ok (.putfield 125, 3) := by decide +kernel
theorem dX11_chart_80 : decode cX11_chart 80 = .ok (.aload_n 0, 1) := by decide +kernel
theorem dX11_chart_81 : decode cX11_chart 81 = .ok (.getfield 71, 3) := by decide +kernel
theorem dX11_chart_84 : decode cX11_chart 84 = .ok (.astore_n 3, 1) := by decide +kernel
theorem dX11_chart_85 : decode cX11_chart 85 = .ok (.aload_n 0, 1) := by decide +kernel
theorem dX11_chart_86 : decode cX11_chart 86 = .ok (.aload_n 0, 1) := by decide +kernel
theorem dX11_chart_87 : decode cX11_chart 87 = .ok (.getfield 75, 3) := by decide +kernel
theorem dX11_chart_90 : decode cX11_chart 90 = .ok (.putfield 71, 3) := by decide +kernel
theorem dX11_chart_93 : decode cX11_chart 93 = .ok (.aload_n 0, 1) := by decide +kernel
theorem dX11_chart_94 : decode cX11_chart 94 = .ok (.aload_n 3, 1) := by decide +kernel
theorem dX11_chart_95 : decode cX11_chart 95 = .ok (.putfield 75, 3) := by decide +kernel
theorem dX11_chart_98 : decode cX11_chart 98 = .ok (.iload_n 2, 1) := by decide +kernel
theorem dX11_chart_99 : decode cX11_chart 99 = .ok (.ireturn, 1) := by decide +kernel
def f_X11_chart (S0 : Gr) (S1 : Gr) (S3 : Gr) (S4 : Gr) (S5 : Gr) (x1 : Int32) : Option (Int32 × Int32 × Gr × Gr × Gr) := (f_X11_within x1 1 160).bind fun u1 => if u1 = 0 then (some ((-1), 0, S1, S3, S4)) else ((f_X8_has S1 x1).bind fun u3 => if u3 = 0 then (some ((-1), 0, S1, S3, S4)) else ((f_X0_read S3 S1 S4 x1).bind fun u5 => (f_X8_empty S1).bind fun u6 => if u5.1 ≤ 0 then (some (u5.1, 0, u6, u5.2.1, u5.2.2)) else (lt' (sI u5.2.2 9 (S5.1 9)) fun S4_8 => lt' (sI S4_8 10 (S5.1 10)) fun S4_9 => some (u5.1, 1, u6, u5.2.1, S4_9))))
set_option maxHeartbeats 4000000 in
set_option maxRecDepth 100000 in
theorem c_X11_chart (l : Launch) (E : Ec) (q0 q1 q2 q3 q4 q5 : Nat → Nat) (t1 t3 t4 t5 t6 t7 t8 t11 : Nat) (sz : Nat) (S0 : Gr) (S1 : Gr) (S3 : Gr) (S4 : Gr) (S5 : Gr) (x1 : Int32) (Rv : Int32 × Int32 × Gr × Gr × Gr) (h : f_X11_chart S0 S1 S3 S4 S5 x1 = some Rv) : Met l yX11_chart (wsM (.code yX11_chart cX11_chart 4 (some .int))) ({ frames := 5, cells := 0, slots := 0, locals := 123 } : Room) (va_Pc [.ref (q0 0), .int x1] (ctP E (cw_X11 E q0 (q1 0) t1 (q2 0) t3 t4 t5 t6 t7 t8 (q5 0) (q4 0) t11 S0 ++ (cw_X8 E q1 S1 ++ (cw_X0 E q2 (q3 0) ++ (cw_X9 E q3 S3 ++ (cw_X7 E q4 S4 ++ (cw_X7 E q5 S5)))))) sz)) (ctI E (cw_X11 E q0 (q1 0) t1 (q2 0) t3 t4 t5 t6 t7 t8 (q5 0) (q4 0) t11 S0 ++ (cw_X8 E q1 S1 ++ (cw_X0 E q2 (q3 0) ++ (cw_X9 E q3 S3 ++ (cw_X7 E q4 S4 ++ (cw_X7 E q5 S5)))))) (cw_X11 E q0 (q1 0) t1 (q2 0) t3 t4 t5 t6 t7 t8 (sw' Rv.2.1 (q5 0) (q4 0)) (sw' Rv.2.1 (q4 0) (q5 0)) t11 S0 ++ (cw_X8 E q1 Rv.2.2.1 ++ (cw_X0 E q2 (q3 0) ++ (cw_X9 E q3 Rv.2.2.2.1 ++ (cw_X7 E q4 Rv.2.2.2.2 ++ (cw_X7 E q5 S5)))))) sz Rv.1) 0 0 (va_A (cw_X11 E q0 (q1 0) t1 (q2 0) t3 t4 t5 t6 t7 t8 (q5 0) (q4 0) t11 S0 ++ (cw_X8 E q1 S1 ++ (cw_X0 E q2 (q3 0) ++ (cw_X9 E q3 S3 ++ (cw_X7 E q4 S4 ++ (cw_X7 E q5 S5)))))) sz) := by
  refine ct_metI (by decide) (Nat.le_of_ble_eq_true rfl) ?_
  intro p e s m ar below meth c A QM hx hb hml hown hg X hP hD hS RET ls hl
  have hown : s.vm.findClass RX11 = some m.cls := hown
  have hl : lv_has ls 4 [(0, .ref (q0 0)), (1, .int x1)] := hl
  have RT : ∀ (v : Int32) (w : Int32) (S1 : Gr) (S3 : Gr) (S4 : Gr) (H : Heap) (locs : List Loc) (ls : Array Slot) (pc : Nat), some (v, w, S1, S3, S4) = some Rv → narrow .int (.int v) = .int v → va_P E.1 vwCl (cw_X11 E q0 (q1 0) t1 (q2 0) t3 t4 t5 t6 t7 t8 (sw' w (q5 0) (q4 0)) (sw' w (q4 0) (q5 0)) t11 S0 ++ (cw_X8 E q1 S1 ++ (cw_X0 E q2 (q3 0) ++ (cw_X9 E q3 S3 ++ (cw_X7 E q4 S4 ++ (cw_X7 E q5 S5)))))) H → va_D A (cw_X11 E q0 (q1 0) t1 (q2 0) t3 t4 t5 t6 t7 t8 (sw' w (q5 0) (q4 0)) (sw' w (q4 0) (q5 0)) t11 S0 ++ (cw_X8 E q1 S1 ++ (cw_X0 E q2 (q3 0) ++ (cw_X9 E q3 S3 ++ (cw_X7 E q4 S4 ++ (cw_X7 E q5 S5)))))) → va_S A s.heap H locs → decode cX11_chart pc = .ok (.ireturn, 1) → W p l e ({ frames := 5, cells := 0, slots := 0, locals := 123 } : Room) s m ar below meth c H locs 0 0 QM (F0 m pc ls [.int v]) := by
    intro v w S1 S3 S4 H locs ls pc e hn hP hD hS d
    obtain rfl := sm_e e
    exact RET H locs pc ls hn hP hD hS d
  clear RET
  obtain ⟨H, eH⟩ : ∃ z, z = s.heap := ⟨_, rfl⟩
  rw [← eH]
  have hP : va_P E.1 vwCl (cw_X11 E q0 (q1 0) t1 (q2 0) t3 t4 t5 t6 t7 t8 (q5 0) (q4 0) t11 S0 ++ (cw_X8 E q1 S1 ++ (cw_X0 E q2 (q3 0) ++ (cw_X9 E q3 S3 ++ (cw_X7 E q4 S4 ++ (cw_X7 E q5 S5)))))) H := by rw [eH]; exact hP
  have hS : va_S A s.heap H [] := by rw [eH]; exact hS
  clear eH
  obtain ⟨locs, el⟩ : ∃ z : List Loc, z = [] := ⟨_, rfl⟩
  rw [← el] at hS ⊢
  clear el
  refine lv_iload_n hx hb dX11_chart_0 rfl (lv_at hl 1 rfl) ?_
  refine lv_iconst (v := 1) hx hb dX11_chart_1 (by decide) ?_
  refine lv_sipush (v := 160) hx hb dX11_chart_2 (by decide) ?_
  obtain ⟨u1, hc, h⟩ := bd_el h
  refine ct_iN X hP hD hS (va_runS (As := [.int x1, .int 1, .int 160]) (rest := []) ⟨hx, hb, hml, hown, hg⟩ (c_X11_within l E  H.size x1 1 160 u1 hc) (va_cwS 3 hg (gwS wm_X11_89 wst_X11_within wini_X11 wco_X11_within) rfl rfl rfl (by decide +kernel) ⟨Nat.le_of_ble_eq_true rfl, Nat.le_of_ble_eq_true rfl⟩) ⟨ct_blind, ct_preN X hS _⟩ rfl rfl hl.1 rfl (lv_room (Nat.le_of_ble_eq_true rfl)) dX11_chart_5 ⟨Nat.zero_le _, Nat.zero_le _⟩) (fun H locs hP hD hS => ?_)
  refine lv_if_eq (tgt := 22) hx hb dX11_chart_8 (by decide) (fun c2 => ?_) (fun c2 => ?_)
  · have h := it_t h c2
    refine lv_iconst (v := (-1)) hx hb dX11_chart_22 (by decide) ?_
    exact RT (-1) 0 S1 S3 S4 _ _ _ _ h rfl hP hD hS dX11_chart_23
  · have h := it_f h c2
    refine lv_aload_n hx hb dX11_chart_11 rfl (lv_at hl 0 rfl) ?_
    refine va_get (D := E.1) (ci := 10) (v := .ref (q1 0)) (C := RX11) (T := TX11) (N := 13) hx hb hg in_X11 hown X.1 hP 0 rfl rfl 0 (by decide) (hg _ wf_X11_10) (fun _ h9 => h9) rfl dX11_chart_12 ?_
    refine lv_iload_n hx hb dX11_chart_15 rfl (lv_at hl 1 rfl) ?_
    obtain ⟨u3, hc, h⟩ := bd_el h
    have hC : ([1, 2] : List Nat).map (fun i => (cw_X11 E q0 (q1 0) t1 (q2 0) t3 t4 t5 t6 t7 t8 (q5 0) (q4 0) t11 S0 ++ (cw_X8 E q1 S1 ++ (cw_X0 E q2 (q3 0) ++ (cw_X9 E q3 S3 ++ (cw_X7 E q4 S4 ++ (cw_X7 E q5 S5))))))[i]?) = (cw_X8 E q1 S1).map some := rfl
    refine ct_iR X hP hD hS [1, 2] hC (va_runV (C := RX8) (As := [.int x1]) (rest := []) ⟨hx, hb, hml, hown, hg⟩ (c_X8_has l E q1 H.size S1 x1 u3 hc) (cwV 1 hg (gwV wm_X11_108 wi_X8_has wsl_X8_has wini_X8 wco_X8_has) rfl rfl rfl (by decide +kernel) ⟨Nat.le_of_ble_eq_true rfl, Nat.le_of_ble_eq_true rfl⟩) ⟨ct_blind, ct_rv X.1 hP 1 rfl rfl, ct_pre X hP hD hS [1, 2] (by decide) hC _⟩ rfl rfl hl.1 rfl (lv_room (Nat.le_of_ble_eq_true rfl)) dX11_chart_16 ⟨Nat.zero_le _, Nat.zero_le _⟩) (fun H locs hP hD hS => ?_)
    clear hC
    refine lv_if_ne (tgt := 24) hx hb dX11_chart_19 (by decide) (fun c4 => ?_) (fun c4 => ?_)
    · have h := it_f h c4
      refine lv_aload_n hx hb dX11_chart_24 rfl (lv_at hl 0 rfl) ?_
      refine va_get (D := E.1) (ci := 10) (v := .ref (q2 0)) (C := RX11) (T := TX11) (N := 13) hx hb hg in_X11 hown X.1 hP 0 rfl rfl 2 (by decide) (hg _ wf_X11_26) (fun _ h9 => h9) rfl dX11_chart_25 ?_
      refine lv_aload_n hx hb dX11_chart_28 rfl (lv_at hl 0 rfl) ?_
      refine va_get (D := E.1) (ci := 10) (v := .ref (q1 0)) (C := RX11) (T := TX11) (N := 13) hx hb hg in_X11 hown X.1 hP 0 rfl rfl 0 (by decide) (hg _ wf_X11_10) (fun _ h9 => h9) rfl dX11_chart_29 ?_
      refine lv_iload_n hx hb dX11_chart_32 rfl (lv_at hl 1 rfl) ?_
      refine lv_aload_n hx hb dX11_chart_33 rfl (lv_at hl 0 rfl) ?_
      refine va_get (D := E.1) (ci := 10) (v := .ref (q4 0)) (C := RX11) (T := TX11) (N := 13) hx hb hg in_X11 hown X.1 hP 0 rfl rfl 10 (by decide) (hg _ wf_X11_75) (fun _ h9 => h9) rfl dX11_chart_34 ?_
      obtain ⟨u5, hc, h⟩ := bd_el h
      have hC : ([3, 4, 5, 1, 2, 6, 7, 8, 9, 10, 11, 12, 13] : List Nat).map (fun i => (cw_X11 E q0 (q1 0) t1 (q2 0) t3 t4 t5 t6 t7 t8 (q5 0) (q4 0) t11 S0 ++ (cw_X8 E q1 S1 ++ (cw_X0 E q2 (q3 0) ++ (cw_X9 E q3 S3 ++ (cw_X7 E q4 S4 ++ (cw_X7 E q5 S5))))))[i]?) = (cw_X0 E q2 (q3 0) ++ (cw_X9 E q3 S3 ++ (cw_X8 E q1 S1 ++ (cw_X7 E q4 S4)))).map some := rfl
      refine ct_i (ws' := cw_X11 E q0 (q1 0) t1 (q2 0) t3 t4 t5 t6 t7 t8 (q5 0) (q4 0) t11 S0 ++ (cw_X8 E q1 S1 ++ (cw_X0 E q2 (q3 0) ++ (cw_X9 E q3 u5.2.1 ++ (cw_X7 E q4 u5.2.2 ++ (cw_X7 E q5 S5)))))) X hP hD hS [3, 4, 5, 1, 2, 6, 7, 8, 9, 10, 11, 12, 13] (va_runV (C := RX0) (As := [.ref (q1 0), .int x1, .ref (q4 0)]) (rest := []) ⟨hx, hb, hml, hown, hg⟩ (c_X0_read l E q2 q3 q1 q4 H.size S3 S1 S4 x1 u5 hc) (cwV 3 hg (gwV wm_X11_118 wi_X0_read wsl_X0_read wini_X0 wco_X0_read) rfl rfl rfl (by decide +kernel) ⟨Nat.le_of_ble_eq_true rfl, Nat.le_of_ble_eq_true rfl⟩) ⟨ct_blind, ct_rv X.1 hP 3 rfl rfl, ct_pre X hP hD hS [3, 4, 5, 1, 2, 6, 7, 8, 9, 10, 11, 12, 13] (by decide) hC _⟩ rfl rfl hl.1 rfl (lv_room (Nat.le_of_ble_eq_true rfl)) dX11_chart_37 ⟨Nat.zero_le _, Nat.zero_le _⟩) hC rfl rfl (fun H locs hP hD hS => ?_)
      clear hC
      refine lv_istore_n (lv' := [(2, .int u5.1), (0, .ref (q0 0)), (1, .int x1)]) hx hb dX11_chart_40 rfl hl (by decide) rfl (fun ls hl => ?_)
      refine lv_aload_n hx hb dX11_chart_41 rfl (lv_at hl 1 rfl) ?_
      refine va_get (D := E.1) (ci := 10) (v := .ref (q1 0)) (C := RX11) (T := TX11) (N := 13) hx hb hg in_X11 hown X.1 hP 0 rfl rfl 0 (by decide) (hg _ wf_X11_10) (fun _ h9 => h9) rfl dX11_chart_42 ?_
      obtain ⟨u6, hc, h⟩ := bd_el h
      have hC : ([1, 2] : List Nat).map (fun i => (cw_X11 E q0 (q1 0) t1 (q2 0) t3 t4 t5 t6 t7 t8 (q5 0) (q4 0) t11 S0 ++ (cw_X8 E q1 S1 ++ (cw_X0 E q2 (q3 0) ++ (cw_X9 E q3 u5.2.1 ++ (cw_X7 E q4 u5.2.2 ++ (cw_X7 E q5 S5))))))[i]?) = (cw_X8 E q1 S1).map some := rfl
      refine ct_v (ws' := cw_X11 E q0 (q1 0) t1 (q2 0) t3 t4 t5 t6 t7 t8 (q5 0) (q4 0) t11 S0 ++ (cw_X8 E q1 u6 ++ (cw_X0 E q2 (q3 0) ++ (cw_X9 E q3 u5.2.1 ++ (cw_X7 E q4 u5.2.2 ++ (cw_X7 E q5 S5)))))) X hP hD hS [1, 2] (va_runV (C := RX8) (As := []) (rest := []) ⟨hx, hb, hml, hown, hg⟩ (c_X8_empty l E q1 H.size S1 u6 hc) (cwV 0 hg (gwV wm_X11_115 wi_X8_empty wsl_X8_empty wini_X8 wco_X8_empty) rfl rfl rfl (by decide +kernel) ⟨Nat.le_of_ble_eq_true rfl, Nat.le_of_ble_eq_true rfl⟩) ⟨ct_blind, ct_rv X.1 hP 1 rfl rfl, ct_pre X hP hD hS [1, 2] (by decide) hC _⟩ rfl rfl hl.1 rfl (lv_room (Nat.le_of_ble_eq_true rfl)) dX11_chart_45 ⟨Nat.zero_le _, Nat.zero_le _⟩) hC rfl rfl (fun H locs hP hD hS => ?_)
      clear hC
      refine lv_iload_n hx hb dX11_chart_48 rfl (lv_at hl 0 rfl) ?_
      refine lv_if_le (tgt := 98) hx hb dX11_chart_49 (by decide) (fun c7 => ?_) (fun c7 => ?_)
      · have h := it_t h c7
        refine lv_iload_n hx hb dX11_chart_98 rfl (lv_at hl 0 rfl) ?_
        exact RT u5.1 0 u6 u5.2.1 u5.2.2 _ _ _ _ h rfl hP hD hS dX11_chart_99
      · have h := it_f h c7
        refine lv_aload_n hx hb dX11_chart_52 rfl (lv_at hl 1 rfl) ?_
        refine va_get (D := E.1) (ci := 10) (v := .ref (q4 0)) (C := RX11) (T := TX11) (N := 13) hx hb hg in_X11 hown X.1 hP 0 rfl rfl 10 (by decide) (hg _ wf_X11_75) (fun _ h9 => h9) rfl dX11_chart_53 ?_
        refine lv_aload_n hx hb dX11_chart_56 rfl (lv_at hl 1 rfl) ?_
        refine va_get (D := E.1) (ci := 10) (v := .ref (q5 0)) (C := RX11) (T := TX11) (N := 13) hx hb hg in_X11 hown X.1 hP 0 rfl rfl 9 (by decide) (hg _ wf_X11_71) (fun _ h9 => h9) rfl dX11_chart_57 ?_
        refine va_getN (D := E.1) (ci := 6) (v := .int (S5.1 9)) (C := RX7) (T := TX7) (N := 11) hx hb hg in_X7 hown X.1 hP 14 rfl rfl 9 (by decide) (va_Nw.use rfl (nf_X11_121 X.2.1)) (fun _ h9 => h9) rfl dX11_chart_60 ?_
        obtain ⟨S4_8, eS, h⟩ := lt_el h
        refine va_putN (D := E.1) (ci := 6) (v := .int (S5.1 9)) (ty := .int) (C := RX7) (T := TX7) (N := 11) hx hb hg in_X7 tyX7 tyX7_ok nmX7 hown X.1 hP hD hS 6 rfl rfl 9 (by decide) (va_Nw.use rfl (nf_X11_121 X.2.1)) (fun _ h9 => h9) rfl (by decide +kernel) rfl rfl (Nat.le_of_ble_eq_true rfl) dX11_chart_63 (fun H locs hP hD hS => ?_)
        have hP : va_P E.1 vwCl (cw_X11 E q0 (q1 0) t1 (q2 0) t3 t4 t5 t6 t7 t8 (q5 0) (q4 0) t11 S0 ++ (cw_X8 E q1 u6 ++ (cw_X0 E q2 (q3 0) ++ (cw_X9 E q3 u5.2.1 ++ (cw_X7 E q4 S4_8 ++ (cw_X7 E q5 S5)))))) H := by rw [eS]; exact hP
        have hD : va_D A (cw_X11 E q0 (q1 0) t1 (q2 0) t3 t4 t5 t6 t7 t8 (q5 0) (q4 0) t11 S0 ++ (cw_X8 E q1 u6 ++ (cw_X0 E q2 (q3 0) ++ (cw_X9 E q3 u5.2.1 ++ (cw_X7 E q4 S4_8 ++ (cw_X7 E q5 S5)))))) := by rw [eS]; exact hD
        clear eS
        refine lv_aload_n hx hb dX11_chart_66 rfl (lv_at hl 1 rfl) ?_
        refine va_get (D := E.1) (ci := 10) (v := .ref (q4 0)) (C := RX11) (T := TX11) (N := 13) hx hb hg in_X11 hown X.1 hP 0 rfl rfl 10 (by decide) (hg _ wf_X11_75) (fun _ h9 => h9) rfl dX11_chart_67 ?_
        refine lv_aload_n hx hb dX11_chart_70 rfl (lv_at hl 1 rfl) ?_
        refine va_get (D := E.1) (ci := 10) (v := .ref (q5 0)) (C := RX11) (T := TX11) (N := 13) hx hb hg in_X11 hown X.1 hP 0 rfl rfl 9 (by decide) (hg _ wf_X11_71) (fun _ h9 => h9) rfl dX11_chart_71 ?_
        refine va_getN (D := E.1) (ci := 6) (v := .int (S5.1 10)) (C := RX7) (T := TX7) (N := 11) hx hb hg in_X7 hown X.1 hP 14 rfl rfl 10 (by decide) (va_Nw.use rfl (nf_X11_125 X.2.1)) (fun _ h9 => h9) rfl dX11_chart_74 ?_
        obtain ⟨S4_9, eS, h⟩ := lt_el h
        refine va_putN (D := E.1) (ci := 6) (v := .int (S5.1 10)) (ty := .int) (C := RX7) (T := TX7) (N := 11) hx hb hg in_X7 tyX7 tyX7_ok nmX7 hown X.1 hP hD hS 6 rfl rfl 10 (by decide) (va_Nw.use rfl (nf_X11_125 X.2.1)) (fun _ h9 => h9) rfl (by decide +kernel) rfl rfl (Nat.le_of_ble_eq_true rfl) dX11_chart_77 (fun H locs hP hD hS => ?_)
        have hP : va_P E.1 vwCl (cw_X11 E q0 (q1 0) t1 (q2 0) t3 t4 t5 t6 t7 t8 (q5 0) (q4 0) t11 S0 ++ (cw_X8 E q1 u6 ++ (cw_X0 E q2 (q3 0) ++ (cw_X9 E q3 u5.2.1 ++ (cw_X7 E q4 S4_9 ++ (cw_X7 E q5 S5)))))) H := by rw [eS]; exact hP
        have hD : va_D A (cw_X11 E q0 (q1 0) t1 (q2 0) t3 t4 t5 t6 t7 t8 (q5 0) (q4 0) t11 S0 ++ (cw_X8 E q1 u6 ++ (cw_X0 E q2 (q3 0) ++ (cw_X9 E q3 u5.2.1 ++ (cw_X7 E q4 S4_9 ++ (cw_X7 E q5 S5)))))) := by rw [eS]; exact hD
        clear eS
        refine lv_aload_n hx hb dX11_chart_80 rfl (lv_at hl 1 rfl) ?_
        refine va_get (D := E.1) (ci := 10) (v := .ref (q5 0)) (C := RX11) (T := TX11) (N := 13) hx hb hg in_X11 hown X.1 hP 0 rfl rfl 9 (by decide) (hg _ wf_X11_71) (fun _ h9 => h9) rfl dX11_chart_81 ?_
        refine lv_astore_n (lv' := [(3, .ref (q5 0)), (2, .int u5.1), (0, .ref (q0 0)), (1, .int x1)]) hx hb dX11_chart_84 rfl hl (by decide) rfl (fun ls hl => ?_)
        refine lv_aload_n hx hb dX11_chart_85 rfl (lv_at hl 2 rfl) ?_
        refine lv_aload_n hx hb dX11_chart_86 rfl (lv_at hl 2 rfl) ?_
        refine va_get (D := E.1) (ci := 10) (v := .ref (q4 0)) (C := RX11) (T := TX11) (N := 13) hx hb hg in_X11 hown X.1 hP 0 rfl rfl 10 (by decide) (hg _ wf_X11_75) (fun _ h9 => h9) rfl dX11_chart_87 ?_
        refine va_put (D := E.1) (ci := 10) (v := .ref (q4 0)) (ty := .object "DraughtWebs$Sea") (C := RX11) (T := TX11) (N := 13) hx hb hg in_X11 tyX11 tyX11_ok nmX11 hown X.1 hP hD hS 0 rfl rfl 9 (by decide) (hg _ wf_X11_71) (fun _ h9 => h9) rfl (by decide +kernel) rfl rfl (Nat.le_of_ble_eq_true rfl) dX11_chart_90 (fun H locs hP hD hS => ?_)
        have hP : va_P E.1 vwCl (cw_X11 E q0 (q1 0) t1 (q2 0) t3 t4 t5 t6 t7 t8 (q4 0) (q4 0) t11 S0 ++ (cw_X8 E q1 u6 ++ (cw_X0 E q2 (q3 0) ++ (cw_X9 E q3 u5.2.1 ++ (cw_X7 E q4 S4_9 ++ (cw_X7 E q5 S5)))))) H := hP
        have hD : va_D A (cw_X11 E q0 (q1 0) t1 (q2 0) t3 t4 t5 t6 t7 t8 (q4 0) (q4 0) t11 S0 ++ (cw_X8 E q1 u6 ++ (cw_X0 E q2 (q3 0) ++ (cw_X9 E q3 u5.2.1 ++ (cw_X7 E q4 S4_9 ++ (cw_X7 E q5 S5)))))) := hD
        refine lv_aload_n hx hb dX11_chart_93 rfl (lv_at hl 2 rfl) ?_
        refine lv_aload_n hx hb dX11_chart_94 rfl (lv_at hl 0 rfl) ?_
        refine va_put (D := E.1) (ci := 10) (v := .ref (q5 0)) (ty := .object "DraughtWebs$Sea") (C := RX11) (T := TX11) (N := 13) hx hb hg in_X11 tyX11 tyX11_ok nmX11 hown X.1 hP hD hS 0 rfl rfl 10 (by decide) (hg _ wf_X11_75) (fun _ h9 => h9) rfl (by decide +kernel) rfl rfl (Nat.le_of_ble_eq_true rfl) dX11_chart_95 (fun H locs hP hD hS => ?_)
        have hP : va_P E.1 vwCl (cw_X11 E q0 (q1 0) t1 (q2 0) t3 t4 t5 t6 t7 t8 (q4 0) (q5 0) t11 S0 ++ (cw_X8 E q1 u6 ++ (cw_X0 E q2 (q3 0) ++ (cw_X9 E q3 u5.2.1 ++ (cw_X7 E q4 S4_9 ++ (cw_X7 E q5 S5)))))) H := hP
        have hD : va_D A (cw_X11 E q0 (q1 0) t1 (q2 0) t3 t4 t5 t6 t7 t8 (q4 0) (q5 0) t11 S0 ++ (cw_X8 E q1 u6 ++ (cw_X0 E q2 (q3 0) ++ (cw_X9 E q3 u5.2.1 ++ (cw_X7 E q4 S4_9 ++ (cw_X7 E q5 S5)))))) := hD
        refine lv_iload_n hx hb dX11_chart_98 rfl (lv_at hl 1 rfl) ?_
        exact RT u5.1 1 u6 u5.2.1 S4_9 _ _ _ _ h rfl hP hD hS dX11_chart_99
    · have h := it_t h c4
      refine lv_iconst (v := (-1)) hx hb dX11_chart_22 (by decide) ?_
      exact RT (-1) 0 S1 S3 S4 _ _ _ _ h rfl hP hD hS dX11_chart_23
