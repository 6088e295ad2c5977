/-! constructors -/
def g0 : Gr := (fun _ => 0, fun _ _ => 0)
def qs (l : List Nat) : Nat → Nat := fun j => l.getD j 0
theorem ct_ca {E : Ec} {s : State} {cA : ClassId} {ty : FieldType} (hK : va_K E.1 vwCl (tys E ++ [(cA, ty)]) s) (k : Nat) {cB : ClassId} (hk : (tys E)[k]? = some (cB, ty)) (hp : (match ty with | .object _ => false | _ => true) = true) : cA = cB := by
  have h1 := (hK.2 3 (cA, ty) rfl).2
  have h2 := (hK.2 k (cB, ty) (by rw [List.getElem?_append_left (by have := (List.getElem?_eq_some_iff.mp hk).1; exact this)]; exact hk)).2
  cases ty <;> first | (exact Option.some.inj (h1.symm.trans h2)) | (cases hp)
section CT3
variable {p : Program} {l : Launch} {e : Env} {R : Room} {s : State} {m : MethodId} {args : Array Value} {below : List Frame} {meth : Method} {c : Code} {H : Heap} {locs : List Loc} {cells slots : Nat} {Q : State → Prop} {pc : Nat} {ls : Array Slot} {rest st0 : List Value}
theorem ct_preC {E : Ec} {A : Nat → Prop} {wr : va_W} {x : Nat × va_E} (X : ctX E A s) (hP : va_P E.1 vwCl (wr ++ [x]) H) (hD : va_D A (wr ++ [x])) (hS : va_S A s.heap H locs) (av : List Value) : ∀ U : State, U.heap = H → s.WarmedH U.vm → va_Pc av (ctP E [x] H.size) av.toArray U :=
  ct_pre X hP hD hS [wr.length] rfl (by simp) av
theorem ct_c {σ : Type} {K : σ → Prop} {B : σ → va_W} {E : Ec} {A : Nat → Prop} {wr : va_W} {x : Nat × va_E} {mc ms : Nat} {a : Array Value} (X : ctX E A s) (hP : va_P E.1 vwCl (wr ++ [x]) H) (hD : va_D A (wr ++ [x])) (hS : va_S A s.heap H locs)
    (hr : va_Run p l e R s m args below meth c H locs cells slots mc ms (F0 m pc ls st0) rest (va_Qv K (fun u t => ctR E (va_A [x] H.size) (B u) t) (va_A [x] H.size) a) (va_A [x] H.size))
    (kk : ∀ (u : σ) (H1 : Heap) (locs1 : List Loc), K u → va_P E.1 vwCl (wr ++ B u) H1 → va_D A (wr ++ B u) → va_S A s.heap H1 locs1 → W p l e R s m args below meth c H1 locs1 (cells + mc) (slots + ms) Q (F0 m (pc + 3) ls rest)) :
    W p l e R s m args below meth c H locs cells slots Q (F0 m pc ls st0) := by
  have hC : [wr.length].map (fun i => (wr ++ [x])[i]?) = [x].map some := by simp
  have hF := va_free (wc := [x]) hD hS X.2.2.2 [wr.length] hC
  refine va_callv hr hS (fun q _ h => hF q h) hF (fun u t H1 locs1 ht hvm hw2 hB hz1 hk1 hS1 => ?_)
  obtain ⟨hP1, -, hD1⟩ := hB
  rw [ht] at hP1
  have hin : ∀ (i : Nat) (q : Nat × va_E), wr[i]? = some q → (wr ++ [x])[i]? = some q := fun i q hq => by
    rw [List.getElem?_append_left (List.getElem?_eq_some_iff.mp hq).1]; exact hq
  have hlast : (wr ++ [x])[wr.length]? = some x := by simp
  have hne : ∀ (i : Nat) (q : Nat × va_E), wr[i]? = some q → q.1 ≠ x.1 := fun i q hq he => by
    have h1 := hD.1 i wr.length q x (hin i q hq) hlast he
    have h2 := (List.getElem?_eq_some_iff.mp hq).1
    omega
  have hlt : ∀ (i : Nat) (q : Nat × va_E), wr[i]? = some q → q.1 < H.size := fun i q hq => (hP i q (hin i q hq)).lt
  have hnA : ∀ (i : Nat) (q : Nat × va_E), wr[i]? = some q → ¬ va_A [x] H.size q.1 := by
    rintro i q hq (⟨k, e, hk⟩ | hge)
    · have : k = 0 := by
        have := (List.getElem?_eq_some_iff.mp hk).1
        simp at this; omega
      subst this
      simp at hk
      exact hne i q hq (by rw [hk])
    · exact absurd (hlt i q hq) (Nat.not_lt.mpr hge)
  have hPr : va_P E.1 vwCl wr H1 := fun i q hq => (hP i q (hin i q hq)).kept (hk1 q.1 (hlt i q hq) (hnA i q hq))
  have hDr : va_D A wr := ⟨fun i j p q hp hq he => hD.1 i j p q (hin i p hp) (hin j q hq) he, fun k q hk => hD.2 k q (hin k q hk)⟩
  refine kk u H1 locs1 hw2 (hPr.app hP1) (hDr.app (hD1.weaken (fun _ _ _ h => hF _ h)) ?_) hS1
  intro i j p q hp hq he
  exact hnA i p hp (he ▸ hD1.2 j q hq)
theorem ct_metC {σ : Type} {K : σ → Prop} {B : σ → va_W} {E : Ec} {y : MethodName} {cc : ByteArray} {maxL mc ms : Nat} {rm : Room} {av : List Value} {ws : va_W} {sz : Nat} (hy : plainName y.cls = true) (hyn : y.name = "<init>") (hlen : (lg_sl av).length ≤ maxL)
    (body : ∀ (p : Program) (e : Env) (s : State) (m : MethodId) (ar : Array Value) (below : List Frame) (meth : Method) (c : Code) (A : Nat → Prop) (QM : State → Prop), p.tables.exec = Jvm.exec → c.code = cc → c.maxLocals = maxL → s.vm.findClass y.cls = some m.cls → meth.name = "<init>" → (∀ w ∈ gtbl, w.before ar s = true) → ctX E A s → va_P E.1 vwCl ws s.heap → va_D A ws → va_S A s.heap s.heap [] →
      (∀ (u : σ) (H : Heap) (locs : List Loc) (pc : Nat) (ls : Array Slot), K u → va_P E.1 vwCl (B u) H → va_D A (B u) → va_S A s.heap H locs → decode cc pc = .ok (.return_, 1) → W p l e rm s m ar below meth c H locs mc ms QM (F0 m pc ls [])) →
      ∀ ls : Array Slot, lv_has ls maxL (lv_args 0 av) → W p l e rm s m ar below meth c s.heap [] 0 0 QM (F0 m 0 ls [])) :
    Met l y (wsM (.code y cc maxL none)) rm (va_Pc av (ctP E ws sz)) (va_Qv K (fun u t => ctR E (va_A ws sz) (B u) t) (va_A ws sz)) mc ms (va_A ws sz) := by
  refine Met.ofW (cc := cc) (maxL := maxL) (ret := none) hy rfl ?_
  intro p e s m args below meth c s₁ Bd hml hv
  obtain ⟨rfl, hsz, hP, hK, hD0, hN, hT⟩ := hv
  subst hsz
  have hts := atoms_spec (ws := wsM (.code y cc maxL none)) Bd.pre
  have hlocks := Bd.notSynchronized
  have hr := Bd.returns
  have hD := hD0.self (sz := s.heap.size)
  have hin : meth.name = "<init>" := ((name_of_methodNamed Bd.named Bd.method).1).trans hyn
  rw [lg_entry_eq]
  refine body p e s m _ below meth c (va_A ws s.heap.size) _ Bd.exec Bd.bytes hml (findClass_of_methodNamed Bd.named) hin (fun w hw => hts w (List.mem_cons_of_mem _ hw)) ⟨hK, hN, hT, fun q h => Or.inr h⟩ hP hD va_S.rf ?_ _ (lv_entry av (n := maxL) hlen)
  intro u H locs pc ls hu hP9 hD9 hS hd
  exact W.vret Bd.exec Bd.bytes hr (fun t ht hW => ⟨⟨u, rfl, hu, by rw [ht]; exact hP9, va_K.moved hW.alike hK, hD9⟩, hS.F ht⟩) hS.2.2 hd
end CT3

theorem dX9_init_0 : decode cX9_init 0 = .ok (.aload_n 0, 1) := by decide +kernel
theorem dX9_init_1 : decode cX9_init 1 = .ok (.invokespecial 3, 3) := by decide +kernel
theorem dX9_init_4 : decode cX9_init 4 = .ok (.aload_n 0, 1) := by decide +kernel
theorem dX9_init_5 : decode cX9_init 5 = .ok (.sipush 240, 3) := by decide +kernel
theorem dX9_init_8 : decode cX9_init 8 = .ok (.newarray .int, 2) := by decide +kernel
theorem dX9_init_10 : decode cX9_init 10 = .ok (.putfield 9, 3) := by decide +kernel
theorem dX9_init_13 : decode cX9_init 13 = .ok (.aload_n 0, 1) := by decide +kernel
theorem dX9_init_14 : decode cX9_init 14 = .ok (.iconst 0, 1) := by decide +kernel
theorem dX9_init_15 : decode cX9_init 15 = .ok (.putfield 15, 3) := by decide +kernel
theorem dX9_init_18 : decode cX9_init 18 = .ok (.aload_n 0, 1) := by decide +kernel
theorem dX9_init_19 : decode cX9_init 19 = .ok (.iconst 0, 1) := by decide +kernel
theorem dX9_init_20 : decode cX9_init 20 = .ok (.putfield 19, 3) := by decide +kernel
theorem dX9_init_23 : decode cX9_init 23 = .ok (.aload_n 0, 1) := by decide +kernel
theorem dX9_init_24 : decode cX9_init 24 = .ok (.iconst 0, 1) := by decide +kernel
theorem dX9_init_25 : decode cX9_init 25 = .ok (.putfield 22, 3) := by decide +kernel
theorem dX9_init_28 : decode cX9_init 28 = .ok (.return_, 1) := by decide +kernel
set_option maxHeartbeats 4000000 in
set_option maxRecDepth 100000 in
theorem c_X9_init (l : Launch) (E : Ec) (h0 sz : Nat) : Met l yX9_init (wsM (.code yX9_init cX9_init 1 none)) ({ frames := 1, cells := 1, slots := 240, locals := 20 } : Room) (va_Pc [.ref h0] (ctP E [(h0, .inr (8, [.null, .int 0, .int 0, .int 0]))] sz)) (va_Qv (fun (u : Nat → Nat) => u 0 = h0) (fun u t => ctR E (va_A [(h0, .inr (8, [.null, .int 0, .int 0, .int 0]))] sz) (cw_X9 E u g0) t) (va_A [(h0, .inr (8, [.null, .int 0, .int 0, .int 0]))] sz)) 1 240 (va_A [(h0, .inr (8, [.null, .int 0, .int 0, .int 0]))] sz) := by
  refine ct_metC (σ := Nat → Nat) (by decide) rfl (Nat.le_of_ble_eq_true rfl) ?_
  intro p e s m ar below meth c A QM hx hb hml hown hin hg X hP hD hS RET ls hl
  have hown : s.vm.findClass RX9 = some m.cls := hown
  have hl : lv_has ls 1 [(0, .ref h0)] := hl
  refine lv_aload_n hx hb dX9_init_0 rfl (lv_at hl 0 rfl) ?_
  refine W.objInit hx hb hown (hg _ wm_X9_3) (hg _ wi_objInit) (hg _ wco_objInit) rfl (by rw [hml]; exact hl.1) rfl dX9_init_1 (Nat.le_of_ble_eq_true rfl) (Nat.le_of_ble_eq_true rfl) ?_
  refine W.eq (g2 := F0 m 4 ls []) rfl ?_
  refine lv_aload_n hx hb dX9_init_4 rfl (lv_at hl 0 rfl) ?_
  refine lv_sipush (v := 240) hx hb dX9_init_5 (by decide) ?_
  refine va_newa (atype := .int) hx hb (hg _ war_int) rfl X.1 hP hD hS X.2.2.2 (a0 := (240, .inl (fun _ => 0))) (fun _ => rfl) (by decide) (by decide) (Nat.le_of_ble_eq_true rfl) (Nat.le_of_ble_eq_true rfl) (Nat.le_of_ble_eq_true rfl) dX9_init_8 (fun a1 cA H hK5 hP hD hS => ?_)
  refine W.widen (k := 1) (n := 240) (Nat.le_of_ble_eq_true rfl) (Nat.le_of_ble_eq_true rfl) ?_
  obtain rfl := ct_ca hK5 0 rfl rfl
  clear hK5
  have hP : va_P E.1 vwCl ([(h0, .inr (8, [.null, .int 0, .int 0, .int 0])), (a1, .inl (E.2.1.1, 240, .inl (fun _ => 0)))]) H := hP
  have hD : va_D A ([(h0, .inr (8, [.null, .int 0, .int 0, .int 0])), (a1, .inl (E.2.1.1, 240, .inl (fun _ => 0)))]) := hD
  refine va_putF (D := E.1) (ci := 8) (v := .ref a1) (ty := .array .int) (C := RX9) (T := TX9) (N := 4) hx hb hg in_X9 tyX9 tyX9_ok nmX9 hown X.1 hP hD hS 0 rfl rfl 0 (by decide) (hg _ wf_X9_9) (fun _ h9 => h9) rfl hin rfl (by decide +kernel) rfl rfl (Nat.le_of_ble_eq_true rfl) dX9_init_10 (fun H locs hP hD hS => ?_)
  have hP : va_P E.1 vwCl ([(h0, .inr (8, [.ref a1, .int 0, .int 0, .int 0])), (a1, .inl (E.2.1.1, 240, .inl (fun _ => 0)))]) H := hP
  have hD : va_D A ([(h0, .inr (8, [.ref a1, .int 0, .int 0, .int 0])), (a1, .inl (E.2.1.1, 240, .inl (fun _ => 0)))]) := hD
  refine lv_aload_n hx hb dX9_init_13 rfl (lv_at hl 0 rfl) ?_
  refine lv_iconst (v := 0) hx hb dX9_init_14 (by decide) ?_
  refine va_put (D := E.1) (ci := 8) (v := .int 0) (ty := .int) (C := RX9) (T := TX9) (N := 4) hx hb hg in_X9 tyX9 tyX9_ok nmX9 hown X.1 hP hD hS 0 rfl rfl 1 (by decide) (hg _ wf_X9_15) (fun _ h9 => h9) rfl (by decide +kernel) rfl rfl (Nat.le_of_ble_eq_true rfl) dX9_init_15 (fun H locs hP hD hS => ?_)
  have hP : va_P E.1 vwCl ([(h0, .inr (8, [.ref a1, .int 0, .int 0, .int 0])), (a1, .inl (E.2.1.1, 240, .inl (fun _ => 0)))]) H := hP
  have hD : va_D A ([(h0, .inr (8, [.ref a1, .int 0, .int 0, .int 0])), (a1, .inl (E.2.1.1, 240, .inl (fun _ => 0)))]) := hD
  refine lv_aload_n hx hb dX9_init_18 rfl (lv_at hl 0 rfl) ?_
  refine lv_iconst (v := 0) hx hb dX9_init_19 (by decide) ?_
  refine va_put (D := E.1) (ci := 8) (v := .int 0) (ty := .int) (C := RX9) (T := TX9) (N := 4) hx hb hg in_X9 tyX9 tyX9_ok nmX9 hown X.1 hP hD hS 0 rfl rfl 2 (by decide) (hg _ wf_X9_19) (fun _ h9 => h9) rfl (by decide +kernel) rfl rfl (Nat.le_of_ble_eq_true rfl) dX9_init_20 (fun H locs hP hD hS => ?_)
  have hP : va_P E.1 vwCl ([(h0, .inr (8, [.ref a1, .int 0, .int 0, .int 0])), (a1, .inl (E.2.1.1, 240, .inl (fun _ => 0)))]) H := hP
  have hD : va_D A ([(h0, .inr (8, [.ref a1, .int 0, .int 0, .int 0])), (a1, .inl (E.2.1.1, 240, .inl (fun _ => 0)))]) := hD
  refine lv_aload_n hx hb dX9_init_23 rfl (lv_at hl 0 rfl) ?_
  refine lv_iconst (v := 0) hx hb dX9_init_24 (by decide) ?_
  refine va_put (D := E.1) (ci := 8) (v := .int 0) (ty := .int) (C := RX9) (T := TX9) (N := 4) hx hb hg in_X9 tyX9 tyX9_ok nmX9 hown X.1 hP hD hS 0 rfl rfl 3 (by decide) (hg _ wf_X9_22) (fun _ h9 => h9) rfl (by decide +kernel) rfl rfl (Nat.le_of_ble_eq_true rfl) dX9_init_25 (fun H locs hP hD hS => ?_)
  have hP : va_P E.1 vwCl ([(h0, .inr (8, [.ref a1, .int 0, .int 0, .int 0])), (a1, .inl (E.2.1.1, 240, .inl (fun _ => 0)))]) H := hP
  have hD : va_D A ([(h0, .inr (8, [.ref a1, .int 0, .int 0, .int 0])), (a1, .inl (E.2.1.1, 240, .inl (fun _ => 0)))]) := hD
  exact RET (qs [h0, a1]) _ _ _ _ rfl hP hD hS dX9_init_28
theorem dX8_init_0 : decode cX8_init 0 = .ok (.aload_n 0, 1) := by decide +kernel
theorem dX8_init_1 : decode cX8_init 1 = .ok (.invokespecial 1, 3) := by decide +kernel
theorem dX8_init_4 : decode cX8_init 4 = .ok (.aload_n 0, 1) := by decide +kernel
theorem dX8_init_5 : decode cX8_init 5 = .ok (.sipush 260, 3) := by decide +kernel
theorem dX8_init_8 : decode cX8_init 8 = .ok (.newarray .int, 2) := by decide +kernel
theorem dX8_init_10 : decode cX8_init 10 = .ok (.putfield 9, 3) := by decide +kernel
theorem dX8_init_13 : decode cX8_init 13 = .ok (.aload_n 0, 1) := by decide +kernel
theorem dX8_init_14 : decode cX8_init 14 = .ok (.iconst 0, 1) := by decide +kernel
theorem dX8_init_15 : decode cX8_init 15 = .ok (.putfield 13, 3) := by decide +kernel
theorem dX8_init_18 : decode cX8_init 18 = .ok (.return_, 1) := by decide +kernel
set_option maxHeartbeats 4000000 in
set_option maxRecDepth 100000 in
theorem c_X8_init (l : Launch) (E : Ec) (h0 sz : Nat) : Met l yX8_init (wsM (.code yX8_init cX8_init 1 none)) ({ frames := 1, cells := 1, slots := 260, locals := 20 } : Room) (va_Pc [.ref h0] (ctP E [(h0, .inr (7, [.null, .int 0]))] sz)) (va_Qv (fun (u : Nat → Nat) => u 0 = h0) (fun u t => ctR E (va_A [(h0, .inr (7, [.null, .int 0]))] sz) (cw_X8 E u g0) t) (va_A [(h0, .inr (7, [.null, .int 0]))] sz)) 1 260 (va_A [(h0, .inr (7, [.null, .int 0]))] sz) := by
  refine ct_metC (σ := Nat → Nat) (by decide) rfl (Nat.le_of_ble_eq_true rfl) ?_
  intro p e s m ar below meth c A QM hx hb hml hown hin hg X hP hD hS RET ls hl
  have hown : s.vm.findClass RX8 = some m.cls := hown
  have hl : lv_has ls 1 [(0, .ref h0)] := hl
  refine lv_aload_n hx hb dX8_init_0 rfl (lv_at hl 0 rfl) ?_
  refine W.objInit hx hb hown (hg _ wm_X8_1) (hg _ wi_objInit) (hg _ wco_objInit) rfl (by rw [hml]; exact hl.1) rfl dX8_init_1 (Nat.le_of_ble_eq_true rfl) (Nat.le_of_ble_eq_true rfl) ?_
  refine W.eq (g2 := F0 m 4 ls []) rfl ?_
  refine lv_aload_n hx hb dX8_init_4 rfl (lv_at hl 0 rfl) ?_
  refine lv_sipush (v := 260) hx hb dX8_init_5 (by decide) ?_
  refine va_newa (atype := .int) hx hb (hg _ war_int) rfl X.1 hP hD hS X.2.2.2 (a0 := (260, .inl (fun _ => 0))) (fun _ => rfl) (by decide) (by decide) (Nat.le_of_ble_eq_true rfl) (Nat.le_of_ble_eq_true rfl) (Nat.le_of_ble_eq_true rfl) dX8_init_8 (fun a1 cA H hK5 hP hD hS => ?_)
  refine W.widen (k := 1) (n := 260) (Nat.le_of_ble_eq_true rfl) (Nat.le_of_ble_eq_true rfl) ?_
  obtain rfl := ct_ca hK5 0 rfl rfl
  clear hK5
  have hP : va_P E.1 vwCl ([(h0, .inr (7, [.null, .int 0])), (a1, .inl (E.2.1.1, 260, .inl (fun _ => 0)))]) H := hP
  have hD : va_D A ([(h0, .inr (7, [.null, .int 0])), (a1, .inl (E.2.1.1, 260, .inl (fun _ => 0)))]) := hD
  refine va_putF (D := E.1) (ci := 7) (v := .ref a1) (ty := .array .int) (C := RX8) (T := TX8) (N := 2) hx hb hg in_X8 tyX8 tyX8_ok nmX8 hown X.1 hP hD hS 0 rfl rfl 0 (by decide) (hg _ wf_X8_9) (fun _ h9 => h9) rfl hin rfl (by decide +kernel) rfl rfl (Nat.le_of_ble_eq_true rfl) dX8_init_10 (fun H locs hP hD hS => ?_)
  have hP : va_P E.1 vwCl ([(h0, .inr (7, [.ref a1, .int 0])), (a1, .inl (E.2.1.1, 260, .inl (fun _ => 0)))]) H := hP
  have hD : va_D A ([(h0, .inr (7, [.ref a1, .int 0])), (a1, .inl (E.2.1.1, 260, .inl (fun _ => 0)))]) := hD
  refine lv_aload_n hx hb dX8_init_13 rfl (lv_at hl 0 rfl) ?_
  refine lv_iconst (v := 0) hx hb dX8_init_14 (by decide) ?_
  refine va_put (D := E.1) (ci := 7) (v := .int 0) (ty := .int) (C := RX8) (T := TX8) (N := 2) hx hb hg in_X8 tyX8 tyX8_ok nmX8 hown X.1 hP hD hS 0 rfl rfl 1 (by decide) (hg _ wf_X8_13) (fun _ h9 => h9) rfl (by decide +kernel) rfl rfl (Nat.le_of_ble_eq_true rfl) dX8_init_15 (fun H locs hP hD hS => ?_)
  have hP : va_P E.1 vwCl ([(h0, .inr (7, [.ref a1, .int 0])), (a1, .inl (E.2.1.1, 260, .inl (fun _ => 0)))]) H := hP
  have hD : va_D A ([(h0, .inr (7, [.ref a1, .int 0])), (a1, .inl (E.2.1.1, 260, .inl (fun _ => 0)))]) := hD
  exact RET (qs [h0, a1]) _ _ _ _ rfl hP hD hS dX8_init_18
theorem dX7_init_0 : decode cX7_init 0 = .ok (.aload_n 0, 1) := by decide +kernel
theorem dX7_init_1 : decode cX7_init 1 = .ok (.invokespecial 3, 3) := by decide +kernel
theorem dX7_init_4 : decode cX7_init 4 = .ok (.aload_n 0, 1) := by decide +kernel
theorem dX7_init_5 : decode cX7_init 5 = .ok (.iconst 0, 1) := by decide +kernel
theorem dX7_init_6 : decode cX7_init 6 = .ok (.putfield 9, 3) := by decide +kernel
theorem dX7_init_9 : decode cX7_init 9 = .ok (.aload_n 0, 1) := by decide +kernel
theorem dX7_init_10 : decode cX7_init 10 = .ok (.iconst 0, 1) := by decide +kernel
theorem dX7_init_11 : decode cX7_init 11 = .ok (.putfield 15, 3) := by decide +kernel
theorem dX7_init_14 : decode cX7_init 14 = .ok (.aload_n 0, 1) := by decide +kernel
theorem dX7_init_15 : decode cX7_init 15 = .ok (.bipush 8, 2) := by decide +kernel
theorem dX7_init_17 : decode cX7_init 17 = .ok (.newarray .int, 2) := by decide +kernel
theorem dX7_init_19 : decode cX7_init 19 = .ok (.putfield 18, 3) := by decide +kernel
theorem dX7_init_22 : decode cX7_init 22 = .ok (.aload_n 0, 1) := by decide +kernel
theorem dX7_init_23 : decode cX7_init 23 = .ok (.bipush 8, 2) := by decide +kernel
theorem dX7_init_25 : decode cX7_init 25 = .ok (.newarray .int, 2) := by decide +kernel
theorem dX7_init_27 : decode cX7_init 27 = .ok (.putfield 22, 3) := by decide +kernel
theorem dX7_init_30 : decode cX7_init 30 = .ok (.aload_n 0, 1) := by decide +kernel
theorem dX7_init_31 : decode cX7_init 31 = .ok (.bipush 64, 2) := by decide +kernel
theorem dX7_init_33 : decode cX7_init 33 = .ok (.newarray .int, 2) := by decide +kernel
theorem dX7_init_35 : decode cX7_init 35 = .ok (.putfield 25, 3) := by decide +kernel
theorem dX7_init_38 : decode cX7_init 38 = .ok (.aload_n 0, 1) := by decide +kernel
theorem dX7_init_39 : decode cX7_init 39 = .ok (.bipush 8, 2) := by decide +kernel
theorem dX7_init_41 : decode cX7_init 41 = .ok (.newarray .int, 2) := by decide +kernel
theorem dX7_init_43 : decode cX7_init 43 = .ok (.putfield 28, 3) := by decide +kernel
theorem dX7_init_46 : decode cX7_init 46 = .ok (.aload_n 0, 1) := by decide +kernel
theorem dX7_init_47 : decode cX7_init 47 = .ok (.bipush 8, 2) := by decide +kernel
theorem dX7_init_49 : decode cX7_init 49 = .ok (.newarray .int, 2) := by decide +kernel
theorem dX7_init_51 : decode cX7_init 51 = .ok (.putfield 31, 3) := by decide +kernel
theorem dX7_init_54 : decode cX7_init 54 = .ok (.aload_n 0, 1) := by decide +kernel
theorem dX7_init_55 : decode cX7_init 55 = .ok (.bipush 8, 2) := by decide +kernel
theorem dX7_init_57 : decode cX7_init 57 = .ok (.newarray .int, 2) := by decide +kernel
theorem dX7_init_59 : decode cX7_init 59 = .ok (.putfield 34, 3) := by decide +kernel
theorem dX7_init_62 : decode cX7_init 62 = .ok (.aload_n 0, 1) := by decide +kernel
theorem dX7_init_63 : decode cX7_init 63 = .ok (.bipush 8, 2) := by decide +kernel
theorem dX7_init_65 : decode cX7_init 65 = .ok (.newarray .int, 2) := by decide +kernel
theorem dX7_init_67 : decode cX7_init 67 = .ok (.putfield 37, 3) := by decide +kernel
theorem dX7_init_70 : decode cX7_init 70 = .ok (.aload_n 0, 1) := by decide +kernel
theorem dX7_init_71 : decode cX7_init 71 = .ok (.iconst 0, 1) := by decide +kernel
theorem dX7_init_72 : decode cX7_init 72 = .ok (.putfield 40, 3) := by decide +kernel
theorem dX7_init_75 : decode cX7_init 75 = .ok (.aload_n 0, 1) := by decide +kernel
theorem dX7_init_76 : decode cX7_init 76 = .ok (.iconst 1, 1) := by decide +kernel
theorem dX7_init_77 : decode cX7_init 77 = .ok (.putfield 43, 3) := by decide +kernel
theorem dX7_init_80 : decode cX7_init 80 = .ok (.return_, 1) := by decide +kernel
set_option maxHeartbeats 4000000 in
set_option maxRecDepth 100000 in
theorem c_X7_init (l : Launch) (E : Ec) (h0 sz : Nat) : Met l yX7_init (wsM (.code yX7_init cX7_init 1 none)) ({ frames := 1, cells := 7, slots := 112, locals := 20 } : Room) (va_Pc [.ref h0] (ctP E [(h0, .inr (6, [.int 0, .int 0, .null, .null, .null, .null, .null, .null, .null, .int 0, .int 0]))] sz)) (va_Qv (fun (u : Nat → Nat) => u 0 = h0) (fun u t => ctR E (va_A [(h0, .inr (6, [.int 0, .int 0, .null, .null, .null, .null, .null, .null, .null, .int 0, .int 0]))] sz) (cw_X7 E u (sI g0 10 1)) t) (va_A [(h0, .inr (6, [.int 0, .int 0, .null, .null, .null, .null, .null, .null, .null, .int 0, .int 0]))] sz)) 7 112 (va_A [(h0, .inr (6, [.int 0, .int 0, .null, .null, .null, .null, .null, .null, .null, .int 0, .int 0]))] sz) := by
  refine ct_metC (σ := Nat → Nat) (by decide) rfl (Nat.le_of_ble_eq_true rfl) ?_
  intro p e s m ar below meth c A QM hx hb hml hown hin hg X hP hD hS RET ls hl
  have hown : s.vm.findClass RX7 = some m.cls := hown
  have hl : lv_has ls 1 [(0, .ref h0)] := hl
  refine lv_aload_n hx hb dX7_init_0 rfl (lv_at hl 0 rfl) ?_
  refine W.objInit hx hb hown (hg _ wm_X7_3) (hg _ wi_objInit) (hg _ wco_objInit) rfl (by rw [hml]; exact hl.1) rfl dX7_init_1 (Nat.le_of_ble_eq_true rfl) (Nat.le_of_ble_eq_true rfl) ?_
  refine W.eq (g2 := F0 m 4 ls []) rfl ?_
  refine lv_aload_n hx hb dX7_init_4 rfl (lv_at hl 0 rfl) ?_
  refine lv_iconst (v := 0) hx hb dX7_init_5 (by decide) ?_
  refine va_put (D := E.1) (ci := 6) (v := .int 0) (ty := .int) (C := RX7) (T := TX7) (N := 11) hx hb hg in_X7 tyX7 tyX7_ok nmX7 hown X.1 hP hD hS 0 rfl rfl 0 (by decide) (hg _ wf_X7_9) (fun _ h9 => h9) rfl (by decide +kernel) rfl rfl (Nat.le_of_ble_eq_true rfl) dX7_init_6 (fun H locs hP hD hS => ?_)
  have hP : va_P E.1 vwCl ([(h0, .inr (6, [.int 0, .int 0, .null, .null, .null, .null, .null, .null, .null, .int 0, .int 0]))]) H := hP
  have hD : va_D A ([(h0, .inr (6, [.int 0, .int 0, .null, .null, .null, .null, .null, .null, .null, .int 0, .int 0]))]) := hD
  refine lv_aload_n hx hb dX7_init_9 rfl (lv_at hl 0 rfl) ?_
  refine lv_iconst (v := 0) hx hb dX7_init_10 (by decide) ?_
  refine va_put (D := E.1) (ci := 6) (v := .int 0) (ty := .int) (C := RX7) (T := TX7) (N := 11) hx hb hg in_X7 tyX7 tyX7_ok nmX7 hown X.1 hP hD hS 0 rfl rfl 1 (by decide) (hg _ wf_X7_15) (fun _ h9 => h9) rfl (by decide +kernel) rfl rfl (Nat.le_of_ble_eq_true rfl) dX7_init_11 (fun H locs hP hD hS => ?_)
  have hP : va_P E.1 vwCl ([(h0, .inr (6, [.int 0, .int 0, .null, .null, .null, .null, .null, .null, .null, .int 0, .int 0]))]) H := hP
  have hD : va_D A ([(h0, .inr (6, [.int 0, .int 0, .null, .null, .null, .null, .null, .null, .null, .int 0, .int 0]))]) := hD
  refine lv_aload_n hx hb dX7_init_14 rfl (lv_at hl 0 rfl) ?_
  refine lv_bipush (v := 8) hx hb dX7_init_15 (by decide) ?_
  refine va_newa (atype := .int) hx hb (hg _ war_int) rfl X.1 hP hD hS X.2.2.2 (a0 := (8, .inl (fun _ => 0))) (fun _ => rfl) (by decide) (by decide) (Nat.le_of_ble_eq_true rfl) (Nat.le_of_ble_eq_true rfl) (Nat.le_of_ble_eq_true rfl) dX7_init_17 (fun a1 cA H hK5 hP hD hS => ?_)
  refine W.widen (k := 1) (n := 8) (Nat.le_of_ble_eq_true rfl) (Nat.le_of_ble_eq_true rfl) ?_
  obtain rfl := ct_ca hK5 0 rfl rfl
  clear hK5
  have hP : va_P E.1 vwCl ([(h0, .inr (6, [.int 0, .int 0, .null, .null, .null, .null, .null, .null, .null, .int 0, .int 0])), (a1, .inl (E.2.1.1, 8, .inl (fun _ => 0)))]) H := hP
  have hD : va_D A ([(h0, .inr (6, [.int 0, .int 0, .null, .null, .null, .null, .null, .null, .null, .int 0, .int 0])), (a1, .inl (E.2.1.1, 8, .inl (fun _ => 0)))]) := hD
  refine va_putF (D := E.1) (ci := 6) (v := .ref a1) (ty := .array .int) (C := RX7) (T := TX7) (N := 11) hx hb hg in_X7 tyX7 tyX7_ok nmX7 hown X.1 hP hD hS 0 rfl rfl 2 (by decide) (hg _ wf_X7_18) (fun _ h9 => h9) rfl hin rfl (by decide +kernel) rfl rfl (Nat.le_of_ble_eq_true rfl) dX7_init_19 (fun H locs hP hD hS => ?_)
  have hP : va_P E.1 vwCl ([(h0, .inr (6, [.int 0, .int 0, .ref a1, .null, .null, .null, .null, .null, .null, .int 0, .int 0])), (a1, .inl (E.2.1.1, 8, .inl (fun _ => 0)))]) H := hP
  have hD : va_D A ([(h0, .inr (6, [.int 0, .int 0, .ref a1, .null, .null, .null, .null, .null, .null, .int 0, .int 0])), (a1, .inl (E.2.1.1, 8, .inl (fun _ => 0)))]) := hD
  refine lv_aload_n hx hb dX7_init_22 rfl (lv_at hl 0 rfl) ?_
  refine lv_bipush (v := 8) hx hb dX7_init_23 (by decide) ?_
  refine va_newa (atype := .int) hx hb (hg _ war_int) rfl X.1 hP hD hS X.2.2.2 (a0 := (8, .inl (fun _ => 0))) (fun _ => rfl) (by decide) (by decide) (Nat.le_of_ble_eq_true rfl) (Nat.le_of_ble_eq_true rfl) (Nat.le_of_ble_eq_true rfl) dX7_init_25 (fun a2 cA H hK5 hP hD hS => ?_)
  refine W.widen (k := 2) (n := 16) (Nat.le_of_ble_eq_true rfl) (Nat.le_of_ble_eq_true rfl) ?_
  obtain rfl := ct_ca hK5 0 rfl rfl
  clear hK5
  have hP : va_P E.1 vwCl ([(h0, .inr (6, [.int 0, .int 0, .ref a1, .null, .null, .null, .null, .null, .null, .int 0, .int 0])), (a1, .inl (E.2.1.1, 8, .inl (fun _ => 0))), (a2, .inl (E.2.1.1, 8, .inl (fun _ => 0)))]) H := hP
  have hD : va_D A ([(h0, .inr (6, [.int 0, .int 0, .ref a1, .null, .null, .null, .null, .null, .null, .int 0, .int 0])), (a1, .inl (E.2.1.1, 8, .inl (fun _ => 0))), (a2, .inl (E.2.1.1, 8, .inl (fun _ => 0)))]) := hD
  refine va_putF (D := E.1) (ci := 6) (v := .ref a2) (ty := .array .int) (C := RX7) (T := TX7) (N := 11) hx hb hg in_X7 tyX7 tyX7_ok nmX7 hown X.1 hP hD hS 0 rfl rfl 3 (by decide) (hg _ wf_X7_22) (fun _ h9 => h9) rfl hin rfl (by decide +kernel) rfl rfl (Nat.le_of_ble_eq_true rfl) dX7_init_27 (fun H locs hP hD hS => ?_)
  have hP : va_P E.1 vwCl ([(h0, .inr (6, [.int 0, .int 0, .ref a1, .ref a2, .null, .null, .null, .null, .null, .int 0, .int 0])), (a1, .inl (E.2.1.1, 8, .inl (fun _ => 0))), (a2, .inl (E.2.1.1, 8, .inl (fun _ => 0)))]) H := hP
  have hD : va_D A ([(h0, .inr (6, [.int 0, .int 0, .ref a1, .ref a2, .null, .null, .null, .null, .null, .int 0, .int 0])), (a1, .inl (E.2.1.1, 8, .inl (fun _ => 0))), (a2, .inl (E.2.1.1, 8, .inl (fun _ => 0)))]) := hD
  refine lv_aload_n hx hb dX7_init_30 rfl (lv_at hl 0 rfl) ?_
  refine lv_bipush (v := 64) hx hb dX7_init_31 (by decide) ?_
  refine va_newa (atype := .int) hx hb (hg _ war_int) rfl X.1 hP hD hS X.2.2.2 (a0 := (64, .inl (fun _ => 0))) (fun _ => rfl) (by decide) (by decide) (Nat.le_of_ble_eq_true rfl) (Nat.le_of_ble_eq_true rfl) (Nat.le_of_ble_eq_true rfl) dX7_init_33 (fun a3 cA H hK5 hP hD hS => ?_)
  refine W.widen (k := 3) (n := 80) (Nat.le_of_ble_eq_true rfl) (Nat.le_of_ble_eq_true rfl) ?_
  obtain rfl := ct_ca hK5 0 rfl rfl
  clear hK5
  have hP : va_P E.1 vwCl ([(h0, .inr (6, [.int 0, .int 0, .ref a1, .ref a2, .null, .null, .null, .null, .null, .int 0, .int 0])), (a1, .inl (E.2.1.1, 8, .inl (fun _ => 0))), (a2, .inl (E.2.1.1, 8, .inl (fun _ => 0))), (a3, .inl (E.2.1.1, 64, .inl (fun _ => 0)))]) H := hP
  have hD : va_D A ([(h0, .inr (6, [.int 0, .int 0, .ref a1, .ref a2, .null, .null, .null, .null, .null, .int 0, .int 0])), (a1, .inl (E.2.1.1, 8, .inl (fun _ => 0))), (a2, .inl (E.2.1.1, 8, .inl (fun _ => 0))), (a3, .inl (E.2.1.1, 64, .inl (fun _ => 0)))]) := hD
  refine va_putF (D := E.1) (ci := 6) (v := .ref a3) (ty := .array .int) (C := RX7) (T := TX7) (N := 11) hx hb hg in_X7 tyX7 tyX7_ok nmX7 hown X.1 hP hD hS 0 rfl rfl 4 (by decide) (hg _ wf_X7_25) (fun _ h9 => h9) rfl hin rfl (by decide +kernel) rfl rfl (Nat.le_of_ble_eq_true rfl) dX7_init_35 (fun H locs hP hD hS => ?_)
  have hP : va_P E.1 vwCl ([(h0, .inr (6, [.int 0, .int 0, .ref a1, .ref a2, .ref a3, .null, .null, .null, .null, .int 0, .int 0])), (a1, .inl (E.2.1.1, 8, .inl (fun _ => 0))), (a2, .inl (E.2.1.1, 8, .inl (fun _ => 0))), (a3, .inl (E.2.1.1, 64, .inl (fun _ => 0)))]) H := hP
  have hD : va_D A ([(h0, .inr (6, [.int 0, .int 0, .ref a1, .ref a2, .ref a3, .null, .null, .null, .null, .int 0, .int 0])), (a1, .inl (E.2.1.1, 8, .inl (fun _ => 0))), (a2, .inl (E.2.1.1, 8, .inl (fun _ => 0))), (a3, .inl (E.2.1.1, 64, .inl (fun _ => 0)))]) := hD
  refine lv_aload_n hx hb dX7_init_38 rfl (lv_at hl 0 rfl) ?_
  refine lv_bipush (v := 8) hx hb dX7_init_39 (by decide) ?_
  refine va_newa (atype := .int) hx hb (hg _ war_int) rfl X.1 hP hD hS X.2.2.2 (a0 := (8, .inl (fun _ => 0))) (fun _ => rfl) (by decide) (by decide) (Nat.le_of_ble_eq_true rfl) (Nat.le_of_ble_eq_true rfl) (Nat.le_of_ble_eq_true rfl) dX7_init_41 (fun a4 cA H hK5 hP hD hS => ?_)
  refine W.widen (k := 4) (n := 88) (Nat.le_of_ble_eq_true rfl) (Nat.le_of_ble_eq_true rfl) ?_
  obtain rfl := ct_ca hK5 0 rfl rfl
  clear hK5
  have hP : va_P E.1 vwCl ([(h0, .inr (6, [.int 0, .int 0, .ref a1, .ref a2, .ref a3, .null, .null, .null, .null, .int 0, .int 0])), (a1, .inl (E.2.1.1, 8, .inl (fun _ => 0))), (a2, .inl (E.2.1.1, 8, .inl (fun _ => 0))), (a3, .inl (E.2.1.1, 64, .inl (fun _ => 0))), (a4, .inl (E.2.1.1, 8, .inl (fun _ => 0)))]) H := hP
  have hD : va_D A ([(h0, .inr (6, [.int 0, .int 0, .ref a1, .ref a2, .ref a3, .null, .null, .null, .null, .int 0, .int 0])), (a1, .inl (E.2.1.1, 8, .inl (fun _ => 0))), (a2, .inl (E.2.1.1, 8, .inl (fun _ => 0))), (a3, .inl (E.2.1.1, 64, .inl (fun _ => 0))), (a4, .inl (E.2.1.1, 8, .inl (fun _ => 0)))]) := hD
  refine va_putF (D := E.1) (ci := 6) (v := .ref a4) (ty := .array .int) (C := RX7) (T := TX7) (N := 11) hx hb hg in_X7 tyX7 tyX7_ok nmX7 hown X.1 hP hD hS 0 rfl rfl 5 (by decide) (hg _ wf_X7_28) (fun _ h9 => h9) rfl hin rfl (by decide +kernel) rfl rfl (Nat.le_of_ble_eq_true rfl) dX7_init_43 (fun H locs hP hD hS => ?_)
  have hP : va_P E.1 vwCl ([(h0, .inr (6, [.int 0, .int 0, .ref a1, .ref a2, .ref a3, .ref a4, .null, .null, .null, .int 0, .int 0])), (a1, .inl (E.2.1.1, 8, .inl (fun _ => 0))), (a2, .inl (E.2.1.1, 8, .inl (fun _ => 0))), (a3, .inl (E.2.1.1, 64, .inl (fun _ => 0))), (a4, .inl (E.2.1.1, 8, .inl (fun _ => 0)))]) H := hP
  have hD : va_D A ([(h0, .inr (6, [.int 0, .int 0, .ref a1, .ref a2, .ref a3, .ref a4, .null, .null, .null, .int 0, .int 0])), (a1, .inl (E.2.1.1, 8, .inl (fun _ => 0))), (a2, .inl (E.2.1.1, 8, .inl (fun _ => 0))), (a3, .inl (E.2.1.1, 64, .inl (fun _ => 0))), (a4, .inl (E.2.1.1, 8, .inl (fun _ => 0)))]) := hD
  refine lv_aload_n hx hb dX7_init_46 rfl (lv_at hl 0 rfl) ?_
  refine lv_bipush (v := 8) hx hb dX7_init_47 (by decide) ?_
  refine va_newa (atype := .int) hx hb (hg _ war_int) rfl X.1 hP hD hS X.2.2.2 (a0 := (8, .inl (fun _ => 0))) (fun _ => rfl) (by decide) (by decide) (Nat.le_of_ble_eq_true rfl) (Nat.le_of_ble_eq_true rfl) (Nat.le_of_ble_eq_true rfl) dX7_init_49 (fun a5 cA H hK5 hP hD hS => ?_)
  refine W.widen (k := 5) (n := 96) (Nat.le_of_ble_eq_true rfl) (Nat.le_of_ble_eq_true rfl) ?_
  obtain rfl := ct_ca hK5 0 rfl rfl
  clear hK5
  have hP : va_P E.1 vwCl ([(h0, .inr (6, [.int 0, .int 0, .ref a1, .ref a2, .ref a3, .ref a4, .null, .null, .null, .int 0, .int 0])), (a1, .inl (E.2.1.1, 8, .inl (fun _ => 0))), (a2, .inl (E.2.1.1, 8, .inl (fun _ => 0))), (a3, .inl (E.2.1.1, 64, .inl (fun _ => 0))), (a4, .inl (E.2.1.1, 8, .inl (fun _ => 0))), (a5, .inl (E.2.1.1, 8, .inl (fun _ => 0)))]) H := hP
  have hD : va_D A ([(h0, .inr (6, [.int 0, .int 0, .ref a1, .ref a2, .ref a3, .ref a4, .null, .null, .null, .int 0, .int 0])), (a1, .inl (E.2.1.1, 8, .inl (fun _ => 0))), (a2, .inl (E.2.1.1, 8, .inl (fun _ => 0))), (a3, .inl (E.2.1.1, 64, .inl (fun _ => 0))), (a4, .inl (E.2.1.1, 8, .inl (fun _ => 0))), (a5, .inl (E.2.1.1, 8, .inl (fun _ => 0)))]) := hD
  refine va_putF (D := E.1) (ci := 6) (v := .ref a5) (ty := .array .int) (C := RX7) (T := TX7) (N := 11) hx hb hg in_X7 tyX7 tyX7_ok nmX7 hown X.1 hP hD hS 0 rfl rfl 6 (by decide) (hg _ wf_X7_31) (fun _ h9 => h9) rfl hin rfl (by decide +kernel) rfl rfl (Nat.le_of_ble_eq_true rfl) dX7_init_51 (fun H locs hP hD hS => ?_)
  have hP : va_P E.1 vwCl ([(h0, .inr (6, [.int 0, .int 0, .ref a1, .ref a2, .ref a3, .ref a4, .ref a5, .null, .null, .int 0, .int 0])), (a1, .inl (E.2.1.1, 8, .inl (fun _ => 0))), (a2, .inl (E.2.1.1, 8, .inl (fun _ => 0))), (a3, .inl (E.2.1.1, 64, .inl (fun _ => 0))), (a4, .inl (E.2.1.1, 8, .inl (fun _ => 0))), (a5, .inl (E.2.1.1, 8, .inl (fun _ => 0)))]) H := hP
  have hD : va_D A ([(h0, .inr (6, [.int 0, .int 0, .ref a1, .ref a2, .ref a3, .ref a4, .ref a5, .null, .null, .int 0, .int 0])), (a1, .inl (E.2.1.1, 8, .inl (fun _ => 0))), (a2, .inl (E.2.1.1, 8, .inl (fun _ => 0))), (a3, .inl (E.2.1.1, 64, .inl (fun _ => 0))), (a4, .inl (E.2.1.1, 8, .inl (fun _ => 0))), (a5, .inl (E.2.1.1, 8, .inl (fun _ => 0)))]) := hD
  refine lv_aload_n hx hb dX7_init_54 rfl (lv_at hl 0 rfl) ?_
  refine lv_bipush (v := 8) hx hb dX7_init_55 (by decide) ?_
  refine va_newa (atype := .int) hx hb (hg _ war_int) rfl X.1 hP hD hS X.2.2.2 (a0 := (8, .inl (fun _ => 0))) (fun _ => rfl) (by decide) (by decide) (Nat.le_of_ble_eq_true rfl) (Nat.le_of_ble_eq_true rfl) (Nat.le_of_ble_eq_true rfl) dX7_init_57 (fun a6 cA H hK5 hP hD hS => ?_)
  refine W.widen (k := 6) (n := 104) (Nat.le_of_ble_eq_true rfl) (Nat.le_of_ble_eq_true rfl) ?_
  obtain rfl := ct_ca hK5 0 rfl rfl
  clear hK5
  have hP : va_P E.1 vwCl ([(h0, .inr (6, [.int 0, .int 0, .ref a1, .ref a2, .ref a3, .ref a4, .ref a5, .null, .null, .int 0, .int 0])), (a1, .inl (E.2.1.1, 8, .inl (fun _ => 0))), (a2, .inl (E.2.1.1, 8, .inl (fun _ => 0))), (a3, .inl (E.2.1.1, 64, .inl (fun _ => 0))), (a4, .inl (E.2.1.1, 8, .inl (fun _ => 0))), (a5, .inl (E.2.1.1, 8, .inl (fun _ => 0))), (a6, .inl (E.2.1.1, 8, .inl (fun _ => 0)))]) H := hP
  have hD : va_D A ([(h0, .inr (6, [.int 0, .int 0, .ref a1, .ref a2, .ref a3, .ref a4, .ref a5, .null, .null, .int 0, .int 0])), (a1, .inl (E.2.1.1, 8, .inl (fun _ => 0))), (a2, .inl (E.2.1.1, 8, .inl (fun _ => 0))), (a3, .inl (E.2.1.1, 64, .inl (fun _ => 0))), (a4, .inl (E.2.1.1, 8, .inl (fun _ => 0))), (a5, .inl (E.2.1.1, 8, .inl (fun _ => 0))), (a6, .inl (E.2.1.1, 8, .inl (fun _ => 0)))]) := hD
  refine va_putF (D := E.1) (ci := 6) (v := .ref a6) (ty := .array .int) (C := RX7) (T := TX7) (N := 11) hx hb hg in_X7 tyX7 tyX7_ok nmX7 hown X.1 hP hD hS 0 rfl rfl 7 (by decide) (hg _ wf_X7_34) (fun _ h9 => h9) rfl hin rfl (by decide +kernel) rfl rfl (Nat.le_of_ble_eq_true rfl) dX7_init_59 (fun H locs hP hD hS => ?_)
  have hP : va_P E.1 vwCl ([(h0, .inr (6, [.int 0, .int 0, .ref a1, .ref a2, .ref a3, .ref a4, .ref a5, .ref a6, .null, .int 0, .int 0])), (a1, .inl (E.2.1.1, 8, .inl (fun _ => 0))), (a2, .inl (E.2.1.1, 8, .inl (fun _ => 0))), (a3, .inl (E.2.1.1, 64, .inl (fun _ => 0))), (a4, .inl (E.2.1.1, 8, .inl (fun _ => 0))), (a5, .inl (E.2.1.1, 8, .inl (fun _ => 0))), (a6, .inl (E.2.1.1, 8, .inl (fun _ => 0)))]) H := hP
  have hD : va_D A ([(h0, .inr (6, [.int 0, .int 0, .ref a1, .ref a2, .ref a3, .ref a4, .ref a5, .ref a6, .null, .int 0, .int 0])), (a1, .inl (E.2.1.1, 8, .inl (fun _ => 0))), (a2, .inl (E.2.1.1, 8, .inl (fun _ => 0))), (a3, .inl (E.2.1.1, 64, .inl (fun _ => 0))), (a4, .inl (E.2.1.1, 8, .inl (fun _ => 0))), (a5, .inl (E.2.1.1, 8, .inl (fun _ => 0))), (a6, .inl (E.2.1.1, 8, .inl (fun _ => 0)))]) := hD
  refine lv_aload_n hx hb dX7_init_62 rfl (lv_at hl 0 rfl) ?_
  refine lv_bipush (v := 8) hx hb dX7_init_63 (by decide) ?_
  refine va_newa (atype := .int) hx hb (hg _ war_int) rfl X.1 hP hD hS X.2.2.2 (a0 := (8, .inl (fun _ => 0))) (fun _ => rfl) (by decide) (by decide) (Nat.le_of_ble_eq_true rfl) (Nat.le_of_ble_eq_true rfl) (Nat.le_of_ble_eq_true rfl) dX7_init_65 (fun a7 cA H hK5 hP hD hS => ?_)
  refine W.widen (k := 7) (n := 112) (Nat.le_of_ble_eq_true rfl) (Nat.le_of_ble_eq_true rfl) ?_
  obtain rfl := ct_ca hK5 0 rfl rfl
  clear hK5
  have hP : va_P E.1 vwCl ([(h0, .inr (6, [.int 0, .int 0, .ref a1, .ref a2, .ref a3, .ref a4, .ref a5, .ref a6, .null, .int 0, .int 0])), (a1, .inl (E.2.1.1, 8, .inl (fun _ => 0))), (a2, .inl (E.2.1.1, 8, .inl (fun _ => 0))), (a3, .inl (E.2.1.1, 64, .inl (fun _ => 0))), (a4, .inl (E.2.1.1, 8, .inl (fun _ => 0))), (a5, .inl (E.2.1.1, 8, .inl (fun _ => 0))), (a6, .inl (E.2.1.1, 8, .inl (fun _ => 0))), (a7, .inl (E.2.1.1, 8, .inl (fun _ => 0)))]) H := hP
  have hD : va_D A ([(h0, .inr (6, [.int 0, .int 0, .ref a1, .ref a2, .ref a3, .ref a4, .ref a5, .ref a6, .null, .int 0, .int 0])), (a1, .inl (E.2.1.1, 8, .inl (fun _ => 0))), (a2, .inl (E.2.1.1, 8, .inl (fun _ => 0))), (a3, .inl (E.2.1.1, 64, .inl (fun _ => 0))), (a4, .inl (E.2.1.1, 8, .inl (fun _ => 0))), (a5, .inl (E.2.1.1, 8, .inl (fun _ => 0))), (a6, .inl (E.2.1.1, 8, .inl (fun _ => 0))), (a7, .inl (E.2.1.1, 8, .inl (fun _ => 0)))]) := hD
  refine va_putF (D := E.1) (ci := 6) (v := .ref a7) (ty := .array .int) (C := RX7) (T := TX7) (N := 11) hx hb hg in_X7 tyX7 tyX7_ok nmX7 hown X.1 hP hD hS 0 rfl rfl 8 (by decide) (hg _ wf_X7_37) (fun _ h9 => h9) rfl hin rfl (by decide +kernel) rfl rfl (Nat.le_of_ble_eq_true rfl) dX7_init_67 (fun H locs hP hD hS => ?_)
  have hP : va_P E.1 vwCl ([(h0, .inr (6, [.int 0, .int 0, .ref a1, .ref a2, .ref a3, .ref a4, .ref a5, .ref a6, .ref a7, .int 0, .int 0])), (a1, .inl (E.2.1.1, 8, .inl (fun _ => 0))), (a2, .inl (E.2.1.1, 8, .inl (fun _ => 0))), (a3, .inl (E.2.1.1, 64, .inl (fun _ => 0))), (a4, .inl (E.2.1.1, 8, .inl (fun _ => 0))), (a5, .inl (E.2.1.1, 8, .inl (fun _ => 0))), (a6, .inl (E.2.1.1, 8, .inl (fun _ => 0))), (a7, .inl (E.2.1.1, 8, .inl (fun _ => 0)))]) H := hP
  have hD : va_D A ([(h0, .inr (6, [.int 0, .int 0, .ref a1, .ref a2, .ref a3, .ref a4, .ref a5, .ref a6, .ref a7, .int 0, .int 0])), (a1, .inl (E.2.1.1, 8, .inl (fun _ => 0))), (a2, .inl (E.2.1.1, 8, .inl (fun _ => 0))), (a3, .inl (E.2.1.1, 64, .inl (fun _ => 0))), (a4, .inl (E.2.1.1, 8, .inl (fun _ => 0))), (a5, .inl (E.2.1.1, 8, .inl (fun _ => 0))), (a6, .inl (E.2.1.1, 8, .inl (fun _ => 0))), (a7, .inl (E.2.1.1, 8, .inl (fun _ => 0)))]) := hD
  refine lv_aload_n hx hb dX7_init_70 rfl (lv_at hl 0 rfl) ?_
  refine lv_iconst (v := 0) hx hb dX7_init_71 (by decide) ?_
  refine va_put (D := E.1) (ci := 6) (v := .int 0) (ty := .int) (C := RX7) (T := TX7) (N := 11) hx hb hg in_X7 tyX7 tyX7_ok nmX7 hown X.1 hP hD hS 0 rfl rfl 9 (by decide) (hg _ wf_X7_40) (fun _ h9 => h9) rfl (by decide +kernel) rfl rfl (Nat.le_of_ble_eq_true rfl) dX7_init_72 (fun H locs hP hD hS => ?_)
  have hP : va_P E.1 vwCl ([(h0, .inr (6, [.int 0, .int 0, .ref a1, .ref a2, .ref a3, .ref a4, .ref a5, .ref a6, .ref a7, .int 0, .int 0])), (a1, .inl (E.2.1.1, 8, .inl (fun _ => 0))), (a2, .inl (E.2.1.1, 8, .inl (fun _ => 0))), (a3, .inl (E.2.1.1, 64, .inl (fun _ => 0))), (a4, .inl (E.2.1.1, 8, .inl (fun _ => 0))), (a5, .inl (E.2.1.1, 8, .inl (fun _ => 0))), (a6, .inl (E.2.1.1, 8, .inl (fun _ => 0))), (a7, .inl (E.2.1.1, 8, .inl (fun _ => 0)))]) H := hP
  have hD : va_D A ([(h0, .inr (6, [.int 0, .int 0, .ref a1, .ref a2, .ref a3, .ref a4, .ref a5, .ref a6, .ref a7, .int 0, .int 0])), (a1, .inl (E.2.1.1, 8, .inl (fun _ => 0))), (a2, .inl (E.2.1.1, 8, .inl (fun _ => 0))), (a3, .inl (E.2.1.1, 64, .inl (fun _ => 0))), (a4, .inl (E.2.1.1, 8, .inl (fun _ => 0))), (a5, .inl (E.2.1.1, 8, .inl (fun _ => 0))), (a6, .inl (E.2.1.1, 8, .inl (fun _ => 0))), (a7, .inl (E.2.1.1, 8, .inl (fun _ => 0)))]) := hD
  refine lv_aload_n hx hb dX7_init_75 rfl (lv_at hl 0 rfl) ?_
  refine lv_iconst (v := 1) hx hb dX7_init_76 (by decide) ?_
  refine va_put (D := E.1) (ci := 6) (v := .int 1) (ty := .int) (C := RX7) (T := TX7) (N := 11) hx hb hg in_X7 tyX7 tyX7_ok nmX7 hown X.1 hP hD hS 0 rfl rfl 10 (by decide) (hg _ wf_X7_43) (fun _ h9 => h9) rfl (by decide +kernel) rfl rfl (Nat.le_of_ble_eq_true rfl) dX7_init_77 (fun H locs hP hD hS => ?_)
  have hP : va_P E.1 vwCl ([(h0, .inr (6, [.int 0, .int 0, .ref a1, .ref a2, .ref a3, .ref a4, .ref a5, .ref a6, .ref a7, .int 0, .int 1])), (a1, .inl (E.2.1.1, 8, .inl (fun _ => 0))), (a2, .inl (E.2.1.1, 8, .inl (fun _ => 0))), (a3, .inl (E.2.1.1, 64, .inl (fun _ => 0))), (a4, .inl (E.2.1.1, 8, .inl (fun _ => 0))), (a5, .inl (E.2.1.1, 8, .inl (fun _ => 0))), (a6, .inl (E.2.1.1, 8, .inl (fun _ => 0))), (a7, .inl (E.2.1.1, 8, .inl (fun _ => 0)))]) H := hP
  have hD : va_D A ([(h0, .inr (6, [.int 0, .int 0, .ref a1, .ref a2, .ref a3, .ref a4, .ref a5, .ref a6, .ref a7, .int 0, .int 1])), (a1, .inl (E.2.1.1, 8, .inl (fun _ => 0))), (a2, .inl (E.2.1.1, 8, .inl (fun _ => 0))), (a3, .inl (E.2.1.1, 64, .inl (fun _ => 0))), (a4, .inl (E.2.1.1, 8, .inl (fun _ => 0))), (a5, .inl (E.2.1.1, 8, .inl (fun _ => 0))), (a6, .inl (E.2.1.1, 8, .inl (fun _ => 0))), (a7, .inl (E.2.1.1, 8, .inl (fun _ => 0)))]) := hD
  exact RET (qs [h0, a1, a2, a3, a4, a5, a6, a7]) _ _ _ _ rfl hP hD hS dX7_init_80
theorem dX3_init_0 : decode cX3_init 0 = .ok (.aload_n 0, 1) := by decide +kernel
theorem dX3_init_1 : decode cX3_init 1 = .ok (.invokespecial 3, 3) := by decide +kernel
theorem dX3_init_4 : decode cX3_init 4 = .ok (.aload_n 0, 1) := by decide +kernel
theorem dX3_init_5 : decode cX3_init 5 = .ok (.iconst 0, 1) := by decide +kernel
theorem dX3_init_6 : decode cX3_init 6 = .ok (.putfield 9, 3) := by decide +kernel
theorem dX3_init_9 : decode cX3_init 9 = .ok (.aload_n 0, 1) := by decide +kernel
theorem dX3_init_10 : decode cX3_init 10 = .ok (.bipush 16, 2) := by decide +kernel
theorem dX3_init_12 : decode cX3_init 12 = .ok (.newarray .int, 2) := by decide +kernel
theorem dX3_init_14 : decode cX3_init 14 = .ok (.putfield 15, 3) := by decide +kernel
theorem dX3_init_17 : decode cX3_init 17 = .ok (.aload_n 0, 1) := by decide +kernel
theorem dX3_init_18 : decode cX3_init 18 = .ok (.bipush 16, 2) := by decide +kernel
theorem dX3_init_20 : decode cX3_init 20 = .ok (.newarray .int, 2) := by decide +kernel
theorem dX3_init_22 : decode cX3_init 22 = .ok (.putfield 19, 3) := by decide +kernel
theorem dX3_init_25 : decode cX3_init 25 = .ok (.aload_n 0, 1) := by decide +kernel
theorem dX3_init_26 : decode cX3_init 26 = .ok (.bipush 16, 2) := by decide +kernel
theorem dX3_init_28 : decode cX3_init 28 = .ok (.newarray .int, 2) := by decide +kernel
theorem dX3_init_30 : decode cX3_init 30 = .ok (.putfield 22, 3) := by decide +kernel
theorem dX3_init_33 : decode cX3_init 33 = .ok (.aload_n 0, 1) := by decide +kernel
theorem dX3_init_34 : decode cX3_init 34 = .ok (.iconst 0, 1) := by decide +kernel
theorem dX3_init_35 : decode cX3_init 35 = .ok (.putfield 25, 3) := by decide +kernel
theorem dX3_init_38 : decode cX3_init 38 = .ok (.aload_n 0, 1) := by decide +kernel
theorem dX3_init_39 : decode cX3_init 39 = .ok (.sipush 240, 3) := by decide +kernel
theorem dX3_init_42 : decode cX3_init 42 = .ok (.newarray .int, 2) := by decide +kernel
theorem dX3_init_44 : decode cX3_init 44 = .ok (.putfield 28, 3) := by decide +kernel
theorem dX3_init_47 : decode cX3_init 47 = .ok (.aload_n 0, 1) := by decide +kernel
theorem dX3_init_48 : decode cX3_init 48 = .ok (.sipush 240, 3) := by decide +kernel
theorem dX3_init_51 : decode cX3_init 51 = .ok (.newarray .int, 2) := by decide +kernel
theorem dX3_init_53 : decode cX3_init 53 = .ok (.putfield 31, 3) := by decide +kernel
theorem dX3_init_56 : decode cX3_init 56 = .ok (.aload_n 0, 1) := by decide +kernel
theorem dX3_init_57 : decode cX3_init 57 = .ok (.bipush 10, 2) := by decide +kernel
theorem dX3_init_59 : decode cX3_init 59 = .ok (.newarray .int, 2) := by decide +kernel
theorem dX3_init_61 : decode cX3_init 61 = .ok (.putfield 34, 3) := by decide +kernel
theorem dX3_init_64 : decode cX3_init 64 = .ok (.aload_n 0, 1) := by decide +kernel
theorem dX3_init_65 : decode cX3_init 65 = .ok (.bipush 32, 2) := by decide +kernel
theorem dX3_init_67 : decode cX3_init 67 = .ok (.newarray .int, 2) := by decide +kernel
theorem dX3_init_69 : decode cX3_init 69 = .ok (.putfield 37, 3) := by decide +kernel
theorem dX3_init_72 : decode cX3_init 72 = .ok (.aload_n 0, 1) := by decide +kernel
theorem dX3_init_73 : decode cX3_init 73 = .ok (.iconst 0, 1) := by decide +kernel
theorem dX3_init_74 : decode cX3_init 74 = .ok (.putfield 40, 3) := by decide +kernel
theorem dX3_init_77 : decode cX3_init 77 = .ok (.aload_n 0, 1) := by decide +kernel
theorem dX3_init_78 : decode cX3_init 78 = .ok (.iconst 0, 1) := by decide +kernel
theorem dX3_init_79 : decode cX3_init 79 = .ok (.putfield 43, 3) := by decide +kernel
theorem dX3_init_82 : decode cX3_init 82 = .ok (.aload_n 0, 1) := by decide +kernel
theorem dX3_init_83 : decode cX3_init 83 = .ok (.iconst 0, 1) := by decide +kernel
theorem dX3_init_84 : decode cX3_init 84 = .ok (.putfield 47, 3) := by decide +kernel
theorem dX3_init_87 : decode cX3_init 87 = .ok (.return_, 1) := by decide +kernel
set_option maxHeartbeats 4000000 in
set_option maxRecDepth 100000 in
theorem c_X3_init (l : Launch) (E : Ec) (h0 sz : Nat) : Met l yX3_init (wsM (.code yX3_init cX3_init 1 none)) ({ frames := 1, cells := 7, slots := 570, locals := 20 } : Room) (va_Pc [.ref h0] (ctP E [(h0, .inr (2, [.int 0, .null, .null, .null, .int 0, .null, .null, .null, .null, .int 0, .int 0, .int 0]))] sz)) (va_Qv (fun (u : Nat → Nat) => u 0 = h0) (fun u t => ctR E (va_A [(h0, .inr (2, [.int 0, .null, .null, .null, .int 0, .null, .null, .null, .null, .int 0, .int 0, .int 0]))] sz) (cw_X3 E u g0) t) (va_A [(h0, .inr (2, [.int 0, .null, .null, .null, .int 0, .null, .null, .null, .null, .int 0, .int 0, .int 0]))] sz)) 7 570 (va_A [(h0, .inr (2, [.int 0, .null, .null, .null, .int 0, .null, .null, .null, .null, .int 0, .int 0, .int 0]))] sz) := by
  refine ct_metC (σ := Nat → Nat) (by decide) rfl (Nat.le_of_ble_eq_true rfl) ?_
  intro p e s m ar below meth c A QM hx hb hml hown hin hg X hP hD hS RET ls hl
  have hown : s.vm.findClass RX3 = some m.cls := hown
  have hl : lv_has ls 1 [(0, .ref h0)] := hl
  refine lv_aload_n hx hb dX3_init_0 rfl (lv_at hl 0 rfl) ?_
  refine W.objInit hx hb hown (hg _ wm_X3_3) (hg _ wi_objInit) (hg _ wco_objInit) rfl (by rw [hml]; exact hl.1) rfl dX3_init_1 (Nat.le_of_ble_eq_true rfl) (Nat.le_of_ble_eq_true rfl) ?_
  refine W.eq (g2 := F0 m 4 ls []) rfl ?_
  refine lv_aload_n hx hb dX3_init_4 rfl (lv_at hl 0 rfl) ?_
  refine lv_iconst (v := 0) hx hb dX3_init_5 (by decide) ?_
  refine va_put (D := E.1) (ci := 2) (v := .int 0) (ty := .int) (C := RX3) (T := TX3) (N := 12) hx hb hg in_X3 tyX3 tyX3_ok nmX3 hown X.1 hP hD hS 0 rfl rfl 0 (by decide) (hg _ wf_X3_9) (fun _ h9 => h9) rfl (by decide +kernel) rfl rfl (Nat.le_of_ble_eq_true rfl) dX3_init_6 (fun H locs hP hD hS => ?_)
  have hP : va_P E.1 vwCl ([(h0, .inr (2, [.int 0, .null, .null, .null, .int 0, .null, .null, .null, .null, .int 0, .int 0, .int 0]))]) H := hP
  have hD : va_D A ([(h0, .inr (2, [.int 0, .null, .null, .null, .int 0, .null, .null, .null, .null, .int 0, .int 0, .int 0]))]) := hD
  refine lv_aload_n hx hb dX3_init_9 rfl (lv_at hl 0 rfl) ?_
  refine lv_bipush (v := 16) hx hb dX3_init_10 (by decide) ?_
  refine va_newa (atype := .int) hx hb (hg _ war_int) rfl X.1 hP hD hS X.2.2.2 (a0 := (16, .inl (fun _ => 0))) (fun _ => rfl) (by decide) (by decide) (Nat.le_of_ble_eq_true rfl) (Nat.le_of_ble_eq_true rfl) (Nat.le_of_ble_eq_true rfl) dX3_init_12 (fun a1 cA H hK5 hP hD hS => ?_)
  refine W.widen (k := 1) (n := 16) (Nat.le_of_ble_eq_true rfl) (Nat.le_of_ble_eq_true rfl) ?_
  obtain rfl := ct_ca hK5 0 rfl rfl
  clear hK5
  have hP : va_P E.1 vwCl ([(h0, .inr (2, [.int 0, .null, .null, .null, .int 0, .null, .null, .null, .null, .int 0, .int 0, .int 0])), (a1, .inl (E.2.1.1, 16, .inl (fun _ => 0)))]) H := hP
  have hD : va_D A ([(h0, .inr (2, [.int 0, .null, .null, .null, .int 0, .null, .null, .null, .null, .int 0, .int 0, .int 0])), (a1, .inl (E.2.1.1, 16, .inl (fun _ => 0)))]) := hD
  refine va_putF (D := E.1) (ci := 2) (v := .ref a1) (ty := .array .int) (C := RX3) (T := TX3) (N := 12) hx hb hg in_X3 tyX3 tyX3_ok nmX3 hown X.1 hP hD hS 0 rfl rfl 1 (by decide) (hg _ wf_X3_15) (fun _ h9 => h9) rfl hin rfl (by decide +kernel) rfl rfl (Nat.le_of_ble_eq_true rfl) dX3_init_14 (fun H locs hP hD hS => ?_)
  have hP : va_P E.1 vwCl ([(h0, .inr (2, [.int 0, .ref a1, .null, .null, .int 0, .null, .null, .null, .null, .int 0, .int 0, .int 0])), (a1, .inl (E.2.1.1, 16, .inl (fun _ => 0)))]) H := hP
  have hD : va_D A ([(h0, .inr (2, [.int 0, .ref a1, .null, .null, .int 0, .null, .null, .null, .null, .int 0, .int 0, .int 0])), (a1, .inl (E.2.1.1, 16, .inl (fun _ => 0)))]) := hD
  refine lv_aload_n hx hb dX3_init_17 rfl (lv_at hl 0 rfl) ?_
  refine lv_bipush (v := 16) hx hb dX3_init_18 (by decide) ?_
  refine va_newa (atype := .int) hx hb (hg _ war_int) rfl X.1 hP hD hS X.2.2.2 (a0 := (16, .inl (fun _ => 0))) (fun _ => rfl) (by decide) (by decide) (Nat.le_of_ble_eq_true rfl) (Nat.le_of_ble_eq_true rfl) (Nat.le_of_ble_eq_true rfl) dX3_init_20 (fun a2 cA H hK5 hP hD hS => ?_)
  refine W.widen (k := 2) (n := 32) (Nat.le_of_ble_eq_true rfl) (Nat.le_of_ble_eq_true rfl) ?_
  obtain rfl := ct_ca hK5 0 rfl rfl
  clear hK5
  have hP : va_P E.1 vwCl ([(h0, .inr (2, [.int 0, .ref a1, .null, .null, .int 0, .null, .null, .null, .null, .int 0, .int 0, .int 0])), (a1, .inl (E.2.1.1, 16, .inl (fun _ => 0))), (a2, .inl (E.2.1.1, 16, .inl (fun _ => 0)))]) H := hP
  have hD : va_D A ([(h0, .inr (2, [.int 0, .ref a1, .null, .null, .int 0, .null, .null, .null, .null, .int 0, .int 0, .int 0])), (a1, .inl (E.2.1.1, 16, .inl (fun _ => 0))), (a2, .inl (E.2.1.1, 16, .inl (fun _ => 0)))]) := hD
  refine va_putF (D := E.1) (ci := 2) (v := .ref a2) (ty := .array .int) (C := RX3) (T := TX3) (N := 12) hx hb hg in_X3 tyX3 tyX3_ok nmX3 hown X.1 hP hD hS 0 rfl rfl 2 (by decide) (hg _ wf_X3_19) (fun _ h9 => h9) rfl hin rfl (by decide +kernel) rfl rfl (Nat.le_of_ble_eq_true rfl) dX3_init_22 (fun H locs hP hD hS => ?_)
  have hP : va_P E.1 vwCl ([(h0, .inr (2, [.int 0, .ref a1, .ref a2, .null, .int 0, .null, .null, .null, .null, .int 0, .int 0, .int 0])), (a1, .inl (E.2.1.1, 16, .inl (fun _ => 0))), (a2, .inl (E.2.1.1, 16, .inl (fun _ => 0)))]) H := hP
  have hD : va_D A ([(h0, .inr (2, [.int 0, .ref a1, .ref a2, .null, .int 0, .null, .null, .null, .null, .int 0, .int 0, .int 0])), (a1, .inl (E.2.1.1, 16, .inl (fun _ => 0))), (a2, .inl (E.2.1.1, 16, .inl (fun _ => 0)))]) := hD
  refine lv_aload_n hx hb dX3_init_25 rfl (lv_at hl 0 rfl) ?_
  refine lv_bipush (v := 16) hx hb dX3_init_26 (by decide) ?_
  refine va_newa (atype := .int) hx hb (hg _ war_int) rfl X.1 hP hD hS X.2.2.2 (a0 := (16, .inl (fun _ => 0))) (fun _ => rfl) (by decide) (by decide) (Nat.le_of_ble_eq_true rfl) (Nat.le_of_ble_eq_true rfl) (Nat.le_of_ble_eq_true rfl) dX3_init_28 (fun a3 cA H hK5 hP hD hS => ?_)
  refine W.widen (k := 3) (n := 48) (Nat.le_of_ble_eq_true rfl) (Nat.le_of_ble_eq_true rfl) ?_
  obtain rfl := ct_ca hK5 0 rfl rfl
  clear hK5
  have hP : va_P E.1 vwCl ([(h0, .inr (2, [.int 0, .ref a1, .ref a2, .null, .int 0, .null, .null, .null, .null, .int 0, .int 0, .int 0])), (a1, .inl (E.2.1.1, 16, .inl (fun _ => 0))), (a2, .inl (E.2.1.1, 16, .inl (fun _ => 0))), (a3, .inl (E.2.1.1, 16, .inl (fun _ => 0)))]) H := hP
  have hD : va_D A ([(h0, .inr (2, [.int 0, .ref a1, .ref a2, .null, .int 0, .null, .null, .null, .null, .int 0, .int 0, .int 0])), (a1, .inl (E.2.1.1, 16, .inl (fun _ => 0))), (a2, .inl (E.2.1.1, 16, .inl (fun _ => 0))), (a3, .inl (E.2.1.1, 16, .inl (fun _ => 0)))]) := hD
  refine va_putF (D := E.1) (ci := 2) (v := .ref a3) (ty := .array .int) (C := RX3) (T := TX3) (N := 12) hx hb hg in_X3 tyX3 tyX3_ok nmX3 hown X.1 hP hD hS 0 rfl rfl 3 (by decide) (hg _ wf_X3_22) (fun _ h9 => h9) rfl hin rfl (by decide +kernel) rfl rfl (Nat.le_of_ble_eq_true rfl) dX3_init_30 (fun H locs hP hD hS => ?_)
  have hP : va_P E.1 vwCl ([(h0, .inr (2, [.int 0, .ref a1, .ref a2, .ref a3, .int 0, .null, .null, .null, .null, .int 0, .int 0, .int 0])), (a1, .inl (E.2.1.1, 16, .inl (fun _ => 0))), (a2, .inl (E.2.1.1, 16, .inl (fun _ => 0))), (a3, .inl (E.2.1.1, 16, .inl (fun _ => 0)))]) H := hP
  have hD : va_D A ([(h0, .inr (2, [.int 0, .ref a1, .ref a2, .ref a3, .int 0, .null, .null, .null, .null, .int 0, .int 0, .int 0])), (a1, .inl (E.2.1.1, 16, .inl (fun _ => 0))), (a2, .inl (E.2.1.1, 16, .inl (fun _ => 0))), (a3, .inl (E.2.1.1, 16, .inl (fun _ => 0)))]) := hD
  refine lv_aload_n hx hb dX3_init_33 rfl (lv_at hl 0 rfl) ?_
  refine lv_iconst (v := 0) hx hb dX3_init_34 (by decide) ?_
  refine va_put (D := E.1) (ci := 2) (v := .int 0) (ty := .int) (C := RX3) (T := TX3) (N := 12) hx hb hg in_X3 tyX3 tyX3_ok nmX3 hown X.1 hP hD hS 0 rfl rfl 4 (by decide) (hg _ wf_X3_25) (fun _ h9 => h9) rfl (by decide +kernel) rfl rfl (Nat.le_of_ble_eq_true rfl) dX3_init_35 (fun H locs hP hD hS => ?_)
  have hP : va_P E.1 vwCl ([(h0, .inr (2, [.int 0, .ref a1, .ref a2, .ref a3, .int 0, .null, .null, .null, .null, .int 0, .int 0, .int 0])), (a1, .inl (E.2.1.1, 16, .inl (fun _ => 0))), (a2, .inl (E.2.1.1, 16, .inl (fun _ => 0))), (a3, .inl (E.2.1.1, 16, .inl (fun _ => 0)))]) H := hP
  have hD : va_D A ([(h0, .inr (2, [.int 0, .ref a1, .ref a2, .ref a3, .int 0, .null, .null, .null, .null, .int 0, .int 0, .int 0])), (a1, .inl (E.2.1.1, 16, .inl (fun _ => 0))), (a2, .inl (E.2.1.1, 16, .inl (fun _ => 0))), (a3, .inl (E.2.1.1, 16, .inl (fun _ => 0)))]) := hD
  refine lv_aload_n hx hb dX3_init_38 rfl (lv_at hl 0 rfl) ?_
  refine lv_sipush (v := 240) hx hb dX3_init_39 (by decide) ?_
  refine va_newa (atype := .int) hx hb (hg _ war_int) rfl X.1 hP hD hS X.2.2.2 (a0 := (240, .inl (fun _ => 0))) (fun _ => rfl) (by decide) (by decide) (Nat.le_of_ble_eq_true rfl) (Nat.le_of_ble_eq_true rfl) (Nat.le_of_ble_eq_true rfl) dX3_init_42 (fun a4 cA H hK5 hP hD hS => ?_)
  refine W.widen (k := 4) (n := 288) (Nat.le_of_ble_eq_true rfl) (Nat.le_of_ble_eq_true rfl) ?_
  obtain rfl := ct_ca hK5 0 rfl rfl
  clear hK5
  have hP : va_P E.1 vwCl ([(h0, .inr (2, [.int 0, .ref a1, .ref a2, .ref a3, .int 0, .null, .null, .null, .null, .int 0, .int 0, .int 0])), (a1, .inl (E.2.1.1, 16, .inl (fun _ => 0))), (a2, .inl (E.2.1.1, 16, .inl (fun _ => 0))), (a3, .inl (E.2.1.1, 16, .inl (fun _ => 0))), (a4, .inl (E.2.1.1, 240, .inl (fun _ => 0)))]) H := hP
  have hD : va_D A ([(h0, .inr (2, [.int 0, .ref a1, .ref a2, .ref a3, .int 0, .null, .null, .null, .null, .int 0, .int 0, .int 0])), (a1, .inl (E.2.1.1, 16, .inl (fun _ => 0))), (a2, .inl (E.2.1.1, 16, .inl (fun _ => 0))), (a3, .inl (E.2.1.1, 16, .inl (fun _ => 0))), (a4, .inl (E.2.1.1, 240, .inl (fun _ => 0)))]) := hD
  refine va_putF (D := E.1) (ci := 2) (v := .ref a4) (ty := .array .int) (C := RX3) (T := TX3) (N := 12) hx hb hg in_X3 tyX3 tyX3_ok nmX3 hown X.1 hP hD hS 0 rfl rfl 5 (by decide) (hg _ wf_X3_28) (fun _ h9 => h9) rfl hin rfl (by decide +kernel) rfl rfl (Nat.le_of_ble_eq_true rfl) dX3_init_44 (fun H locs hP hD hS => ?_)
  have hP : va_P E.1 vwCl ([(h0, .inr (2, [.int 0, .ref a1, .ref a2, .ref a3, .int 0, .ref a4, .null, .null, .null, .int 0, .int 0, .int 0])), (a1, .inl (E.2.1.1, 16, .inl (fun _ => 0))), (a2, .inl (E.2.1.1, 16, .inl (fun _ => 0))), (a3, .inl (E.2.1.1, 16, .inl (fun _ => 0))), (a4, .inl (E.2.1.1, 240, .inl (fun _ => 0)))]) H := hP
  have hD : va_D A ([(h0, .inr (2, [.int 0, .ref a1, .ref a2, .ref a3, .int 0, .ref a4, .null, .null, .null, .int 0, .int 0, .int 0])), (a1, .inl (E.2.1.1, 16, .inl (fun _ => 0))), (a2, .inl (E.2.1.1, 16, .inl (fun _ => 0))), (a3, .inl (E.2.1.1, 16, .inl (fun _ => 0))), (a4, .inl (E.2.1.1, 240, .inl (fun _ => 0)))]) := hD
  refine lv_aload_n hx hb dX3_init_47 rfl (lv_at hl 0 rfl) ?_
  refine lv_sipush (v := 240) hx hb dX3_init_48 (by decide) ?_
  refine va_newa (atype := .int) hx hb (hg _ war_int) rfl X.1 hP hD hS X.2.2.2 (a0 := (240, .inl (fun _ => 0))) (fun _ => rfl) (by decide) (by decide) (Nat.le_of_ble_eq_true rfl) (Nat.le_of_ble_eq_true rfl) (Nat.le_of_ble_eq_true rfl) dX3_init_51 (fun a5 cA H hK5 hP hD hS => ?_)
  refine W.widen (k := 5) (n := 528) (Nat.le_of_ble_eq_true rfl) (Nat.le_of_ble_eq_true rfl) ?_
  obtain rfl := ct_ca hK5 0 rfl rfl
  clear hK5
  have hP : va_P E.1 vwCl ([(h0, .inr (2, [.int 0, .ref a1, .ref a2, .ref a3, .int 0, .ref a4, .null, .null, .null, .int 0, .int 0, .int 0])), (a1, .inl (E.2.1.1, 16, .inl (fun _ => 0))), (a2, .inl (E.2.1.1, 16, .inl (fun _ => 0))), (a3, .inl (E.2.1.1, 16, .inl (fun _ => 0))), (a4, .inl (E.2.1.1, 240, .inl (fun _ => 0))), (a5, .inl (E.2.1.1, 240, .inl (fun _ => 0)))]) H := hP
  have hD : va_D A ([(h0, .inr (2, [.int 0, .ref a1, .ref a2, .ref a3, .int 0, .ref a4, .null, .null, .null, .int 0, .int 0, .int 0])), (a1, .inl (E.2.1.1, 16, .inl (fun _ => 0))), (a2, .inl (E.2.1.1, 16, .inl (fun _ => 0))), (a3, .inl (E.2.1.1, 16, .inl (fun _ => 0))), (a4, .inl (E.2.1.1, 240, .inl (fun _ => 0))), (a5, .inl (E.2.1.1, 240, .inl (fun _ => 0)))]) := hD
  refine va_putF (D := E.1) (ci := 2) (v := .ref a5) (ty := .array .int) (C := RX3) (T := TX3) (N := 12) hx hb hg in_X3 tyX3 tyX3_ok nmX3 hown X.1 hP hD hS 0 rfl rfl 6 (by decide) (hg _ wf_X3_31) (fun _ h9 => h9) rfl hin rfl (by decide +kernel) rfl rfl (Nat.le_of_ble_eq_true rfl) dX3_init_53 (fun H locs hP hD hS => ?_)
  have hP : va_P E.1 vwCl ([(h0, .inr (2, [.int 0, .ref a1, .ref a2, .ref a3, .int 0, .ref a4, .ref a5, .null, .null, .int 0, .int 0, .int 0])), (a1, .inl (E.2.1.1, 16, .inl (fun _ => 0))), (a2, .inl (E.2.1.1, 16, .inl (fun _ => 0))), (a3, .inl (E.2.1.1, 16, .inl (fun _ => 0))), (a4, .inl (E.2.1.1, 240, .inl (fun _ => 0))), (a5, .inl (E.2.1.1, 240, .inl (fun _ => 0)))]) H := hP
  have hD : va_D A ([(h0, .inr (2, [.int 0, .ref a1, .ref a2, .ref a3, .int 0, .ref a4, .ref a5, .null, .null, .int 0, .int 0, .int 0])), (a1, .inl (E.2.1.1, 16, .inl (fun _ => 0))), (a2, .inl (E.2.1.1, 16, .inl (fun _ => 0))), (a3, .inl (E.2.1.1, 16, .inl (fun _ => 0))), (a4, .inl (E.2.1.1, 240, .inl (fun _ => 0))), (a5, .inl (E.2.1.1, 240, .inl (fun _ => 0)))]) := hD
  refine lv_aload_n hx hb dX3_init_56 rfl (lv_at hl 0 rfl) ?_
  refine lv_bipush (v := 10) hx hb dX3_init_57 (by decide) ?_
  refine va_newa (atype := .int) hx hb (hg _ war_int) rfl X.1 hP hD hS X.2.2.2 (a0 := (10, .inl (fun _ => 0))) (fun _ => rfl) (by decide) (by decide) (Nat.le_of_ble_eq_true rfl) (Nat.le_of_ble_eq_true rfl) (Nat.le_of_ble_eq_true rfl) dX3_init_59 (fun a6 cA H hK5 hP hD hS => ?_)
  refine W.widen (k := 6) (n := 538) (Nat.le_of_ble_eq_true rfl) (Nat.le_of_ble_eq_true rfl) ?_
  obtain rfl := ct_ca hK5 0 rfl rfl
  clear hK5
  have hP : va_P E.1 vwCl ([(h0, .inr (2, [.int 0, .ref a1, .ref a2, .ref a3, .int 0, .ref a4, .ref a5, .null, .null, .int 0, .int 0, .int 0])), (a1, .inl (E.2.1.1, 16, .inl (fun _ => 0))), (a2, .inl (E.2.1.1, 16, .inl (fun _ => 0))), (a3, .inl (E.2.1.1, 16, .inl (fun _ => 0))), (a4, .inl (E.2.1.1, 240, .inl (fun _ => 0))), (a5, .inl (E.2.1.1, 240, .inl (fun _ => 0))), (a6, .inl (E.2.1.1, 10, .inl (fun _ => 0)))]) H := hP
  have hD : va_D A ([(h0, .inr (2, [.int 0, .ref a1, .ref a2, .ref a3, .int 0, .ref a4, .ref a5, .null, .null, .int 0, .int 0, .int 0])), (a1, .inl (E.2.1.1, 16, .inl (fun _ => 0))), (a2, .inl (E.2.1.1, 16, .inl (fun _ => 0))), (a3, .inl (E.2.1.1, 16, .inl (fun _ => 0))), (a4, .inl (E.2.1.1, 240, .inl (fun _ => 0))), (a5, .inl (E.2.1.1, 240, .inl (fun _ => 0))), (a6, .inl (E.2.1.1, 10, .inl (fun _ => 0)))]) := hD
  refine va_putF (D := E.1) (ci := 2) (v := .ref a6) (ty := .array .int) (C := RX3) (T := TX3) (N := 12) hx hb hg in_X3 tyX3 tyX3_ok nmX3 hown X.1 hP hD hS 0 rfl rfl 7 (by decide) (hg _ wf_X3_34) (fun _ h9 => h9) rfl hin rfl (by decide +kernel) rfl rfl (Nat.le_of_ble_eq_true rfl) dX3_init_61 (fun H locs hP hD hS => ?_)
  have hP : va_P E.1 vwCl ([(h0, .inr (2, [.int 0, .ref a1, .ref a2, .ref a3, .int 0, .ref a4, .ref a5, .ref a6, .null, .int 0, .int 0, .int 0])), (a1, .inl (E.2.1.1, 16, .inl (fun _ => 0))), (a2, .inl (E.2.1.1, 16, .inl (fun _ => 0))), (a3, .inl (E.2.1.1, 16, .inl (fun _ => 0))), (a4, .inl (E.2.1.1, 240, .inl (fun _ => 0))), (a5, .inl (E.2.1.1, 240, .inl (fun _ => 0))), (a6, .inl (E.2.1.1, 10, .inl (fun _ => 0)))]) H := hP
  have hD : va_D A ([(h0, .inr (2, [.int 0, .ref a1, .ref a2, .ref a3, .int 0, .ref a4, .ref a5, .ref a6, .null, .int 0, .int 0, .int 0])), (a1, .inl (E.2.1.1, 16, .inl (fun _ => 0))), (a2, .inl (E.2.1.1, 16, .inl (fun _ => 0))), (a3, .inl (E.2.1.1, 16, .inl (fun _ => 0))), (a4, .inl (E.2.1.1, 240, .inl (fun _ => 0))), (a5, .inl (E.2.1.1, 240, .inl (fun _ => 0))), (a6, .inl (E.2.1.1, 10, .inl (fun _ => 0)))]) := hD
  refine lv_aload_n hx hb dX3_init_64 rfl (lv_at hl 0 rfl) ?_
  refine lv_bipush (v := 32) hx hb dX3_init_65 (by decide) ?_
  refine va_newa (atype := .int) hx hb (hg _ war_int) rfl X.1 hP hD hS X.2.2.2 (a0 := (32, .inl (fun _ => 0))) (fun _ => rfl) (by decide) (by decide) (Nat.le_of_ble_eq_true rfl) (Nat.le_of_ble_eq_true rfl) (Nat.le_of_ble_eq_true rfl) dX3_init_67 (fun a7 cA H hK5 hP hD hS => ?_)
  refine W.widen (k := 7) (n := 570) (Nat.le_of_ble_eq_true rfl) (Nat.le_of_ble_eq_true rfl) ?_
  obtain rfl := ct_ca hK5 0 rfl rfl
  clear hK5
  have hP : va_P E.1 vwCl ([(h0, .inr (2, [.int 0, .ref a1, .ref a2, .ref a3, .int 0, .ref a4, .ref a5, .ref a6, .null, .int 0, .int 0, .int 0])), (a1, .inl (E.2.1.1, 16, .inl (fun _ => 0))), (a2, .inl (E.2.1.1, 16, .inl (fun _ => 0))), (a3, .inl (E.2.1.1, 16, .inl (fun _ => 0))), (a4, .inl (E.2.1.1, 240, .inl (fun _ => 0))), (a5, .inl (E.2.1.1, 240, .inl (fun _ => 0))), (a6, .inl (E.2.1.1, 10, .inl (fun _ => 0))), (a7, .inl (E.2.1.1, 32, .inl (fun _ => 0)))]) H := hP
  have hD : va_D A ([(h0, .inr (2, [.int 0, .ref a1, .ref a2, .ref a3, .int 0, .ref a4, .ref a5, .ref a6, .null, .int 0, .int 0, .int 0])), (a1, .inl (E.2.1.1, 16, .inl (fun _ => 0))), (a2, .inl (E.2.1.1, 16, .inl (fun _ => 0))), (a3, .inl (E.2.1.1, 16, .inl (fun _ => 0))), (a4, .inl (E.2.1.1, 240, .inl (fun _ => 0))), (a5, .inl (E.2.1.1, 240, .inl (fun _ => 0))), (a6, .inl (E.2.1.1, 10, .inl (fun _ => 0))), (a7, .inl (E.2.1.1, 32, .inl (fun _ => 0)))]) := hD
  refine va_putF (D := E.1) (ci := 2) (v := .ref a7) (ty := .array .int) (C := RX3) (T := TX3) (N := 12) hx hb hg in_X3 tyX3 tyX3_ok nmX3 hown X.1 hP hD hS 0 rfl rfl 8 (by decide) (hg _ wf_X3_37) (fun _ h9 => h9) rfl hin rfl (by decide +kernel) rfl rfl (Nat.le_of_ble_eq_true rfl) dX3_init_69 (fun H locs hP hD hS => ?_)
  have hP : va_P E.1 vwCl ([(h0, .inr (2, [.int 0, .ref a1, .ref a2, .ref a3, .int 0, .ref a4, .ref a5, .ref a6, .ref a7, .int 0, .int 0, .int 0])), (a1, .inl (E.2.1.1, 16, .inl (fun _ => 0))), (a2, .inl (E.2.1.1, 16, .inl (fun _ => 0))), (a3, .inl (E.2.1.1, 16, .inl (fun _ => 0))), (a4, .inl (E.2.1.1, 240, .inl (fun _ => 0))), (a5, .inl (E.2.1.1, 240, .inl (fun _ => 0))), (a6, .inl (E.2.1.1, 10, .inl (fun _ => 0))), (a7, .inl (E.2.1.1, 32, .inl (fun _ => 0)))]) H := hP
  have hD : va_D A ([(h0, .inr (2, [.int 0, .ref a1, .ref a2, .ref a3, .int 0, .ref a4, .ref a5, .ref a6, .ref a7, .int 0, .int 0, .int 0])), (a1, .inl (E.2.1.1, 16, .inl (fun _ => 0))), (a2, .inl (E.2.1.1, 16, .inl (fun _ => 0))), (a3, .inl (E.2.1.1, 16, .inl (fun _ => 0))), (a4, .inl (E.2.1.1, 240, .inl (fun _ => 0))), (a5, .inl (E.2.1.1, 240, .inl (fun _ => 0))), (a6, .inl (E.2.1.1, 10, .inl (fun _ => 0))), (a7, .inl (E.2.1.1, 32, .inl (fun _ => 0)))]) := hD
  refine lv_aload_n hx hb dX3_init_72 rfl (lv_at hl 0 rfl) ?_
  refine lv_iconst (v := 0) hx hb dX3_init_73 (by decide) ?_
  refine va_put (D := E.1) (ci := 2) (v := .int 0) (ty := .int) (C := RX3) (T := TX3) (N := 12) hx hb hg in_X3 tyX3 tyX3_ok nmX3 hown X.1 hP hD hS 0 rfl rfl 9 (by decide) (hg _ wf_X3_40) (fun _ h9 => h9) rfl (by decide +kernel) rfl rfl (Nat.le_of_ble_eq_true rfl) dX3_init_74 (fun H locs hP hD hS => ?_)
  have hP : va_P E.1 vwCl ([(h0, .inr (2, [.int 0, .ref a1, .ref a2, .ref a3, .int 0, .ref a4, .ref a5, .ref a6, .ref a7, .int 0, .int 0, .int 0])), (a1, .inl (E.2.1.1, 16, .inl (fun _ => 0))), (a2, .inl (E.2.1.1, 16, .inl (fun _ => 0))), (a3, .inl (E.2.1.1, 16, .inl (fun _ => 0))), (a4, .inl (E.2.1.1, 240, .inl (fun _ => 0))), (a5, .inl (E.2.1.1, 240, .inl (fun _ => 0))), (a6, .inl (E.2.1.1, 10, .inl (fun _ => 0))), (a7, .inl (E.2.1.1, 32, .inl (fun _ => 0)))]) H := hP
  have hD : va_D A ([(h0, .inr (2, [.int 0, .ref a1, .ref a2, .ref a3, .int 0, .ref a4, .ref a5, .ref a6, .ref a7, .int 0, .int 0, .int 0])), (a1, .inl (E.2.1.1, 16, .inl (fun _ => 0))), (a2, .inl (E.2.1.1, 16, .inl (fun _ => 0))), (a3, .inl (E.2.1.1, 16, .inl (fun _ => 0))), (a4, .inl (E.2.1.1, 240, .inl (fun _ => 0))), (a5, .inl (E.2.1.1, 240, .inl (fun _ => 0))), (a6, .inl (E.2.1.1, 10, .inl (fun _ => 0))), (a7, .inl (E.2.1.1, 32, .inl (fun _ => 0)))]) := hD
  refine lv_aload_n hx hb dX3_init_77 rfl (lv_at hl 0 rfl) ?_
  refine lv_iconst (v := 0) hx hb dX3_init_78 (by decide) ?_
  refine va_put (D := E.1) (ci := 2) (v := .int 0) (ty := .boolean) (C := RX3) (T := TX3) (N := 12) hx hb hg in_X3 tyX3 tyX3_ok nmX3 hown X.1 hP hD hS 0 rfl rfl 10 (by decide) (hg _ wf_X3_43) (fun _ h9 => h9) rfl (by decide +kernel) (by decide +kernel) (by decide +kernel) (Nat.le_of_ble_eq_true rfl) dX3_init_79 (fun H locs hP hD hS => ?_)
  have hP : va_P E.1 vwCl ([(h0, .inr (2, [.int 0, .ref a1, .ref a2, .ref a3, .int 0, .ref a4, .ref a5, .ref a6, .ref a7, .int 0, .int 0, .int 0])), (a1, .inl (E.2.1.1, 16, .inl (fun _ => 0))), (a2, .inl (E.2.1.1, 16, .inl (fun _ => 0))), (a3, .inl (E.2.1.1, 16, .inl (fun _ => 0))), (a4, .inl (E.2.1.1, 240, .inl (fun _ => 0))), (a5, .inl (E.2.1.1, 240, .inl (fun _ => 0))), (a6, .inl (E.2.1.1, 10, .inl (fun _ => 0))), (a7, .inl (E.2.1.1, 32, .inl (fun _ => 0)))]) H := hP
  have hD : va_D A ([(h0, .inr (2, [.int 0, .ref a1, .ref a2, .ref a3, .int 0, .ref a4, .ref a5, .ref a6, .ref a7, .int 0, .int 0, .int 0])), (a1, .inl (E.2.1.1, 16, .inl (fun _ => 0))), (a2, .inl (E.2.1.1, 16, .inl (fun _ => 0))), (a3, .inl (E.2.1.1, 16, .inl (fun _ => 0))), (a4, .inl (E.2.1.1, 240, .inl (fun _ => 0))), (a5, .inl (E.2.1.1, 240, .inl (fun _ => 0))), (a6, .inl (E.2.1.1, 10, .inl (fun _ => 0))), (a7, .inl (E.2.1.1, 32, .inl (fun _ => 0)))]) := hD
  refine lv_aload_n hx hb dX3_init_82 rfl (lv_at hl 0 rfl) ?_
  refine lv_iconst (v := 0) hx hb dX3_init_83 (by decide) ?_
  refine va_put (D := E.1) (ci := 2) (v := .int 0) (ty := .boolean) (C := RX3) (T := TX3) (N := 12) hx hb hg in_X3 tyX3 tyX3_ok nmX3 hown X.1 hP hD hS 0 rfl rfl 11 (by decide) (hg _ wf_X3_47) (fun _ h9 => h9) rfl (by decide +kernel) (by decide +kernel) (by decide +kernel) (Nat.le_of_ble_eq_true rfl) dX3_init_84 (fun H locs hP hD hS => ?_)
  have hP : va_P E.1 vwCl ([(h0, .inr (2, [.int 0, .ref a1, .ref a2, .ref a3, .int 0, .ref a4, .ref a5, .ref a6, .ref a7, .int 0, .int 0, .int 0])), (a1, .inl (E.2.1.1, 16, .inl (fun _ => 0))), (a2, .inl (E.2.1.1, 16, .inl (fun _ => 0))), (a3, .inl (E.2.1.1, 16, .inl (fun _ => 0))), (a4, .inl (E.2.1.1, 240, .inl (fun _ => 0))), (a5, .inl (E.2.1.1, 240, .inl (fun _ => 0))), (a6, .inl (E.2.1.1, 10, .inl (fun _ => 0))), (a7, .inl (E.2.1.1, 32, .inl (fun _ => 0)))]) H := hP
  have hD : va_D A ([(h0, .inr (2, [.int 0, .ref a1, .ref a2, .ref a3, .int 0, .ref a4, .ref a5, .ref a6, .ref a7, .int 0, .int 0, .int 0])), (a1, .inl (E.2.1.1, 16, .inl (fun _ => 0))), (a2, .inl (E.2.1.1, 16, .inl (fun _ => 0))), (a3, .inl (E.2.1.1, 16, .inl (fun _ => 0))), (a4, .inl (E.2.1.1, 240, .inl (fun _ => 0))), (a5, .inl (E.2.1.1, 240, .inl (fun _ => 0))), (a6, .inl (E.2.1.1, 10, .inl (fun _ => 0))), (a7, .inl (E.2.1.1, 32, .inl (fun _ => 0)))]) := hD
  exact RET (qs [h0, a1, a2, a3, a4, a5, a6, a7]) _ _ _ _ rfl hP hD hS dX3_init_87
theorem dX6_init_0 : decode cX6_init 0 = .ok (.aload_n 0, 1) := by decide +kernel
theorem dX6_init_1 : decode cX6_init 1 = .ok (.invokespecial 3, 3) := by decide +kernel
theorem dX6_init_4 : decode cX6_init 4 = .ok (.aload_n 0, 1) := by decide +kernel
theorem dX6_init_5 : decode cX6_init 5 = .ok (.sipush 256, 3) := by decide +kernel
theorem dX6_init_8 : decode cX6_init 8 = .ok (.newarray .int, 2) := by decide +kernel
theorem dX6_init_10 : decode cX6_init 10 = .ok (.putfield 11, 3) := by decide +kernel
theorem dX6_init_13 : decode cX6_init 13 = .ok (.aload_n 0, 1) := by decide +kernel
theorem dX6_init_14 : decode cX6_init 14 = .ok (.sipush 256, 3) := by decide +kernel
theorem dX6_init_17 : decode cX6_init 17 = .ok (.newarray .boolean, 2) := by decide +kernel
theorem dX6_init_19 : decode cX6_init 19 = .ok (.putfield 15, 3) := by decide +kernel
theorem dX6_init_22 : decode cX6_init 22 = .ok (.aload_n 0, 1) := by decide +kernel
theorem dX6_init_23 : decode cX6_init 23 = .ok (.iconst 0, 1) := by decide +kernel
theorem dX6_init_24 : decode cX6_init 24 = .ok (.putfield 19, 3) := by decide +kernel
theorem dX6_init_27 : decode cX6_init 27 = .ok (.return_, 1) := by decide +kernel
set_option maxHeartbeats 4000000 in
set_option maxRecDepth 100000 in
theorem c_X6_init (l : Launch) (E : Ec) (h0 sz : Nat) : Met l yX6_init (wsM (.code yX6_init cX6_init 1 none)) ({ frames := 1, cells := 2, slots := 512, locals := 20 } : Room) (va_Pc [.ref h0] (ctP E [(h0, .inr (5, [.null, .null, .int 0]))] sz)) (va_Qv (fun (u : Nat → Nat) => u 0 = h0) (fun u t => ctR E (va_A [(h0, .inr (5, [.null, .null, .int 0]))] sz) (cw_X6 E u g0) t) (va_A [(h0, .inr (5, [.null, .null, .int 0]))] sz)) 2 512 (va_A [(h0, .inr (5, [.null, .null, .int 0]))] sz) := by
  refine ct_metC (σ := Nat → Nat) (by decide) rfl (Nat.le_of_ble_eq_true rfl) ?_
  intro p e s m ar below meth c A QM hx hb hml hown hin hg X hP hD hS RET ls hl
  have hown : s.vm.findClass RX6 = some m.cls := hown
  have hl : lv_has ls 1 [(0, .ref h0)] := hl
  refine lv_aload_n hx hb dX6_init_0 rfl (lv_at hl 0 rfl) ?_
  refine W.objInit hx hb hown (hg _ wm_X6_3) (hg _ wi_objInit) (hg _ wco_objInit) rfl (by rw [hml]; exact hl.1) rfl dX6_init_1 (Nat.le_of_ble_eq_true rfl) (Nat.le_of_ble_eq_true rfl) ?_
  refine W.eq (g2 := F0 m 4 ls []) rfl ?_
  refine lv_aload_n hx hb dX6_init_4 rfl (lv_at hl 0 rfl) ?_
  refine lv_sipush (v := 256) hx hb dX6_init_5 (by decide) ?_
  refine va_newa (atype := .int) hx hb (hg _ war_int) rfl X.1 hP hD hS X.2.2.2 (a0 := (256, .inl (fun _ => 0))) (fun _ => rfl) (by decide) (by decide) (Nat.le_of_ble_eq_true rfl) (Nat.le_of_ble_eq_true rfl) (Nat.le_of_ble_eq_true rfl) dX6_init_8 (fun a1 cA H hK5 hP hD hS => ?_)
  refine W.widen (k := 1) (n := 256) (Nat.le_of_ble_eq_true rfl) (Nat.le_of_ble_eq_true rfl) ?_
  obtain rfl := ct_ca hK5 0 rfl rfl
  clear hK5
  have hP : va_P E.1 vwCl ([(h0, .inr (5, [.null, .null, .int 0])), (a1, .inl (E.2.1.1, 256, .inl (fun _ => 0)))]) H := hP
  have hD : va_D A ([(h0, .inr (5, [.null, .null, .int 0])), (a1, .inl (E.2.1.1, 256, .inl (fun _ => 0)))]) := hD
  refine va_putF (D := E.1) (ci := 5) (v := .ref a1) (ty := .array .int) (C := RX6) (T := TX6) (N := 3) hx hb hg in_X6 tyX6 tyX6_ok nmX6 hown X.1 hP hD hS 0 rfl rfl 0 (by decide) (hg _ wf_X6_11) (fun _ h9 => h9) rfl hin rfl (by decide +kernel) rfl rfl (Nat.le_of_ble_eq_true rfl) dX6_init_10 (fun H locs hP hD hS => ?_)
  have hP : va_P E.1 vwCl ([(h0, .inr (5, [.ref a1, .null, .int 0])), (a1, .inl (E.2.1.1, 256, .inl (fun _ => 0)))]) H := hP
  have hD : va_D A ([(h0, .inr (5, [.ref a1, .null, .int 0])), (a1, .inl (E.2.1.1, 256, .inl (fun _ => 0)))]) := hD
  refine lv_aload_n hx hb dX6_init_13 rfl (lv_at hl 0 rfl) ?_
  refine lv_sipush (v := 256) hx hb dX6_init_14 (by decide) ?_
  refine va_newa (atype := .boolean) hx hb (hg _ war_boolean) rfl X.1 hP hD hS X.2.2.2 (a0 := (256, .inl (fun _ => 0))) (fun _ => rfl) (by decide) (by decide) (Nat.le_of_ble_eq_true rfl) (Nat.le_of_ble_eq_true rfl) (Nat.le_of_ble_eq_true rfl) dX6_init_17 (fun a2 cA H hK5 hP hD hS => ?_)
  refine W.widen (k := 2) (n := 512) (Nat.le_of_ble_eq_true rfl) (Nat.le_of_ble_eq_true rfl) ?_
  obtain rfl := ct_ca hK5 1 rfl rfl
  clear hK5
  have hP : va_P E.1 vwCl ([(h0, .inr (5, [.ref a1, .null, .int 0])), (a1, .inl (E.2.1.1, 256, .inl (fun _ => 0))), (a2, .inl (E.2.1.2.1, 256, .inl (fun _ => 0)))]) H := hP
  have hD : va_D A ([(h0, .inr (5, [.ref a1, .null, .int 0])), (a1, .inl (E.2.1.1, 256, .inl (fun _ => 0))), (a2, .inl (E.2.1.2.1, 256, .inl (fun _ => 0)))]) := hD
  refine va_putF (D := E.1) (ci := 5) (v := .ref a2) (ty := .array .boolean) (C := RX6) (T := TX6) (N := 3) hx hb hg in_X6 tyX6 tyX6_ok nmX6 hown X.1 hP hD hS 0 rfl rfl 1 (by decide) (hg _ wf_X6_15) (fun _ h9 => h9) rfl hin rfl (by decide +kernel) rfl rfl (Nat.le_of_ble_eq_true rfl) dX6_init_19 (fun H locs hP hD hS => ?_)
  have hP : va_P E.1 vwCl ([(h0, .inr (5, [.ref a1, .ref a2, .int 0])), (a1, .inl (E.2.1.1, 256, .inl (fun _ => 0))), (a2, .inl (E.2.1.2.1, 256, .inl (fun _ => 0)))]) H := hP
  have hD : va_D A ([(h0, .inr (5, [.ref a1, .ref a2, .int 0])), (a1, .inl (E.2.1.1, 256, .inl (fun _ => 0))), (a2, .inl (E.2.1.2.1, 256, .inl (fun _ => 0)))]) := hD
  refine lv_aload_n hx hb dX6_init_22 rfl (lv_at hl 0 rfl) ?_
  refine lv_iconst (v := 0) hx hb dX6_init_23 (by decide) ?_
  refine va_put (D := E.1) (ci := 5) (v := .int 0) (ty := .int) (C := RX6) (T := TX6) (N := 3) hx hb hg in_X6 tyX6 tyX6_ok nmX6 hown X.1 hP hD hS 0 rfl rfl 2 (by decide) (hg _ wf_X6_19) (fun _ h9 => h9) rfl (by decide +kernel) rfl rfl (Nat.le_of_ble_eq_true rfl) dX6_init_24 (fun H locs hP hD hS => ?_)
  have hP : va_P E.1 vwCl ([(h0, .inr (5, [.ref a1, .ref a2, .int 0])), (a1, .inl (E.2.1.1, 256, .inl (fun _ => 0))), (a2, .inl (E.2.1.2.1, 256, .inl (fun _ => 0)))]) H := hP
  have hD : va_D A ([(h0, .inr (5, [.ref a1, .ref a2, .int 0])), (a1, .inl (E.2.1.1, 256, .inl (fun _ => 0))), (a2, .inl (E.2.1.2.1, 256, .inl (fun _ => 0)))]) := hD
  exact RET (qs [h0, a1, a2]) _ _ _ _ rfl hP hD hS dX6_init_27
theorem dX2_init_0 : decode cX2_init 0 = .ok (.aload_n 0, 1) := by decide +kernel
theorem dX2_init_1 : decode cX2_init 1 = .ok (.invokespecial 3, 3) := by decide +kernel
theorem dX2_init_4 : decode cX2_init 4 = .ok (.aload_n 0, 1) := by decide +kernel
theorem dX2_init_5 : decode cX2_init 5 = .ok (.bipush 31, 2) := by decide +kernel
theorem dX2_init_7 : decode cX2_init 7 = .ok (.newarray .int, 2) := by decide +kernel
theorem dX2_init_9 : decode cX2_init 9 = .ok (.putfield 11, 3) := by decide +kernel
theorem dX2_init_12 : decode cX2_init 12 = .ok (.aload_n 0, 1) := by decide +kernel
theorem dX2_init_13 : decode cX2_init 13 = .ok (.bipush 30, 2) := by decide +kernel
theorem dX2_init_15 : decode cX2_init 15 = .ok (.newarray .int, 2) := by decide +kernel
theorem dX2_init_17 : decode cX2_init 17 = .ok (.putfield 15, 3) := by decide +kernel
theorem dX2_init_20 : decode cX2_init 20 = .ok (.aload_n 0, 1) := by decide +kernel
theorem dX2_init_21 : decode cX2_init 21 = .ok (.bipush 30, 2) := by decide +kernel
theorem dX2_init_23 : decode cX2_init 23 = .ok (.newarray .int, 2) := by decide +kernel
theorem dX2_init_25 : decode cX2_init 25 = .ok (.putfield 18, 3) := by decide +kernel
theorem dX2_init_28 : decode cX2_init 28 = .ok (.aload_n 0, 1) := by decide +kernel
theorem dX2_init_29 : decode cX2_init 29 = .ok (.bipush 23, 2) := by decide +kernel
theorem dX2_init_31 : decode cX2_init 31 = .ok (.newarray .int, 2) := by decide +kernel
theorem dX2_init_33 : decode cX2_init 33 = .ok (.putfield 21, 3) := by decide +kernel
theorem dX2_init_36 : decode cX2_init 36 = .ok (.aload_n 0, 1) := by decide +kernel
theorem dX2_init_37 : decode cX2_init 37 = .ok (.bipush 23, 2) := by decide +kernel
theorem dX2_init_39 : decode cX2_init 39 = .ok (.newarray .int, 2) := by decide +kernel
theorem dX2_init_41 : decode cX2_init 41 = .ok (.putfield 24, 3) := by decide +kernel
theorem dX2_init_44 : decode cX2_init 44 = .ok (.aload_n 0, 1) := by decide +kernel
theorem dX2_init_45 : decode cX2_init 45 = .ok (.bipush 23, 2) := by decide +kernel
theorem dX2_init_47 : decode cX2_init 47 = .ok (.newarray .boolean, 2) := by decide +kernel
theorem dX2_init_49 : decode cX2_init 49 = .ok (.putfield 27, 3) := by decide +kernel
theorem dX2_init_52 : decode cX2_init 52 = .ok (.return_, 1) := by decide +kernel
set_option maxHeartbeats 4000000 in
set_option maxRecDepth 100000 in
theorem c_X2_init (l : Launch) (E : Ec) (h0 sz : Nat) : Met l yX2_init (wsM (.code yX2_init cX2_init 1 none)) ({ frames := 1, cells := 6, slots := 160, locals := 20 } : Room) (va_Pc [.ref h0] (ctP E [(h0, .inr (1, [.null, .null, .null, .null, .null, .null]))] sz)) (va_Qv (fun (u : Nat → Nat) => u 0 = h0) (fun u t => ctR E (va_A [(h0, .inr (1, [.null, .null, .null, .null, .null, .null]))] sz) (cw_X2 E u g0) t) (va_A [(h0, .inr (1, [.null, .null, .null, .null, .null, .null]))] sz)) 6 160 (va_A [(h0, .inr (1, [.null, .null, .null, .null, .null, .null]))] sz) := by
  refine ct_metC (σ := Nat → Nat) (by decide) rfl (Nat.le_of_ble_eq_true rfl) ?_
  intro p e s m ar below meth c A QM hx hb hml hown hin hg X hP hD hS RET ls hl
  have hown : s.vm.findClass RX2 = some m.cls := hown
  have hl : lv_has ls 1 [(0, .ref h0)] := hl
  refine lv_aload_n hx hb dX2_init_0 rfl (lv_at hl 0 rfl) ?_
  refine W.objInit hx hb hown (hg _ wm_X2_3) (hg _ wi_objInit) (hg _ wco_objInit) rfl (by rw [hml]; exact hl.1) rfl dX2_init_1 (Nat.le_of_ble_eq_true rfl) (Nat.le_of_ble_eq_true rfl) ?_
  refine W.eq (g2 := F0 m 4 ls []) rfl ?_
  refine lv_aload_n hx hb dX2_init_4 rfl (lv_at hl 0 rfl) ?_
  refine lv_bipush (v := 31) hx hb dX2_init_5 (by decide) ?_
  refine va_newa (atype := .int) hx hb (hg _ war_int) rfl X.1 hP hD hS X.2.2.2 (a0 := (31, .inl (fun _ => 0))) (fun _ => rfl) (by decide) (by decide) (Nat.le_of_ble_eq_true rfl) (Nat.le_of_ble_eq_true rfl) (Nat.le_of_ble_eq_true rfl) dX2_init_7 (fun a1 cA H hK5 hP hD hS => ?_)
  refine W.widen (k := 1) (n := 31) (Nat.le_of_ble_eq_true rfl) (Nat.le_of_ble_eq_true rfl) ?_
  obtain rfl := ct_ca hK5 0 rfl rfl
  clear hK5
  have hP : va_P E.1 vwCl ([(h0, .inr (1, [.null, .null, .null, .null, .null, .null])), (a1, .inl (E.2.1.1, 31, .inl (fun _ => 0)))]) H := hP
  have hD : va_D A ([(h0, .inr (1, [.null, .null, .null, .null, .null, .null])), (a1, .inl (E.2.1.1, 31, .inl (fun _ => 0)))]) := hD
  refine va_putF (D := E.1) (ci := 1) (v := .ref a1) (ty := .array .int) (C := RX2) (T := TX2) (N := 6) hx hb hg in_X2 tyX2 tyX2_ok nmX2 hown X.1 hP hD hS 0 rfl rfl 0 (by decide) (hg _ wf_X2_11) (fun _ h9 => h9) rfl hin rfl (by decide +kernel) rfl rfl (Nat.le_of_ble_eq_true rfl) dX2_init_9 (fun H locs hP hD hS => ?_)
  have hP : va_P E.1 vwCl ([(h0, .inr (1, [.ref a1, .null, .null, .null, .null, .null])), (a1, .inl (E.2.1.1, 31, .inl (fun _ => 0)))]) H := hP
  have hD : va_D A ([(h0, .inr (1, [.ref a1, .null, .null, .null, .null, .null])), (a1, .inl (E.2.1.1, 31, .inl (fun _ => 0)))]) := hD
  refine lv_aload_n hx hb dX2_init_12 rfl (lv_at hl 0 rfl) ?_
  refine lv_bipush (v := 30) hx hb dX2_init_13 (by decide) ?_
  refine va_newa (atype := .int) hx hb (hg _ war_int) rfl X.1 hP hD hS X.2.2.2 (a0 := (30, .inl (fun _ => 0))) (fun _ => rfl) (by decide) (by decide) (Nat.le_of_ble_eq_true rfl) (Nat.le_of_ble_eq_true rfl) (Nat.le_of_ble_eq_true rfl) dX2_init_15 (fun a2 cA H hK5 hP hD hS => ?_)
  refine W.widen (k := 2) (n := 61) (Nat.le_of_ble_eq_true rfl) (Nat.le_of_ble_eq_true rfl) ?_
  obtain rfl := ct_ca hK5 0 rfl rfl
  clear hK5
  have hP : va_P E.1 vwCl ([(h0, .inr (1, [.ref a1, .null, .null, .null, .null, .null])), (a1, .inl (E.2.1.1, 31, .inl (fun _ => 0))), (a2, .inl (E.2.1.1, 30, .inl (fun _ => 0)))]) H := hP
  have hD : va_D A ([(h0, .inr (1, [.ref a1, .null, .null, .null, .null, .null])), (a1, .inl (E.2.1.1, 31, .inl (fun _ => 0))), (a2, .inl (E.2.1.1, 30, .inl (fun _ => 0)))]) := hD
  refine va_putF (D := E.1) (ci := 1) (v := .ref a2) (ty := .array .int) (C := RX2) (T := TX2) (N := 6) hx hb hg in_X2 tyX2 tyX2_ok nmX2 hown X.1 hP hD hS 0 rfl rfl 1 (by decide) (hg _ wf_X2_15) (fun _ h9 => h9) rfl hin rfl (by decide +kernel) rfl rfl (Nat.le_of_ble_eq_true rfl) dX2_init_17 (fun H locs hP hD hS => ?_)
  have hP : va_P E.1 vwCl ([(h0, .inr (1, [.ref a1, .ref a2, .null, .null, .null, .null])), (a1, .inl (E.2.1.1, 31, .inl (fun _ => 0))), (a2, .inl (E.2.1.1, 30, .inl (fun _ => 0)))]) H := hP
  have hD : va_D A ([(h0, .inr (1, [.ref a1, .ref a2, .null, .null, .null, .null])), (a1, .inl (E.2.1.1, 31, .inl (fun _ => 0))), (a2, .inl (E.2.1.1, 30, .inl (fun _ => 0)))]) := hD
  refine lv_aload_n hx hb dX2_init_20 rfl (lv_at hl 0 rfl) ?_
  refine lv_bipush (v := 30) hx hb dX2_init_21 (by decide) ?_
  refine va_newa (atype := .int) hx hb (hg _ war_int) rfl X.1 hP hD hS X.2.2.2 (a0 := (30, .inl (fun _ => 0))) (fun _ => rfl) (by decide) (by decide) (Nat.le_of_ble_eq_true rfl) (Nat.le_of_ble_eq_true rfl) (Nat.le_of_ble_eq_true rfl) dX2_init_23 (fun a3 cA H hK5 hP hD hS => ?_)
  refine W.widen (k := 3) (n := 91) (Nat.le_of_ble_eq_true rfl) (Nat.le_of_ble_eq_true rfl) ?_
  obtain rfl := ct_ca hK5 0 rfl rfl
  clear hK5
  have hP : va_P E.1 vwCl ([(h0, .inr (1, [.ref a1, .ref a2, .null, .null, .null, .null])), (a1, .inl (E.2.1.1, 31, .inl (fun _ => 0))), (a2, .inl (E.2.1.1, 30, .inl (fun _ => 0))), (a3, .inl (E.2.1.1, 30, .inl (fun _ => 0)))]) H := hP
  have hD : va_D A ([(h0, .inr (1, [.ref a1, .ref a2, .null, .null, .null, .null])), (a1, .inl (E.2.1.1, 31, .inl (fun _ => 0))), (a2, .inl (E.2.1.1, 30, .inl (fun _ => 0))), (a3, .inl (E.2.1.1, 30, .inl (fun _ => 0)))]) := hD
  refine va_putF (D := E.1) (ci := 1) (v := .ref a3) (ty := .array .int) (C := RX2) (T := TX2) (N := 6) hx hb hg in_X2 tyX2 tyX2_ok nmX2 hown X.1 hP hD hS 0 rfl rfl 2 (by decide) (hg _ wf_X2_18) (fun _ h9 => h9) rfl hin rfl (by decide +kernel) rfl rfl (Nat.le_of_ble_eq_true rfl) dX2_init_25 (fun H locs hP hD hS => ?_)
  have hP : va_P E.1 vwCl ([(h0, .inr (1, [.ref a1, .ref a2, .ref a3, .null, .null, .null])), (a1, .inl (E.2.1.1, 31, .inl (fun _ => 0))), (a2, .inl (E.2.1.1, 30, .inl (fun _ => 0))), (a3, .inl (E.2.1.1, 30, .inl (fun _ => 0)))]) H := hP
  have hD : va_D A ([(h0, .inr (1, [.ref a1, .ref a2, .ref a3, .null, .null, .null])), (a1, .inl (E.2.1.1, 31, .inl (fun _ => 0))), (a2, .inl (E.2.1.1, 30, .inl (fun _ => 0))), (a3, .inl (E.2.1.1, 30, .inl (fun _ => 0)))]) := hD
  refine lv_aload_n hx hb dX2_init_28 rfl (lv_at hl 0 rfl) ?_
  refine lv_bipush (v := 23) hx hb dX2_init_29 (by decide) ?_
  refine va_newa (atype := .int) hx hb (hg _ war_int) rfl X.1 hP hD hS X.2.2.2 (a0 := (23, .inl (fun _ => 0))) (fun _ => rfl) (by decide) (by decide) (Nat.le_of_ble_eq_true rfl) (Nat.le_of_ble_eq_true rfl) (Nat.le_of_ble_eq_true rfl) dX2_init_31 (fun a4 cA H hK5 hP hD hS => ?_)
  refine W.widen (k := 4) (n := 114) (Nat.le_of_ble_eq_true rfl) (Nat.le_of_ble_eq_true rfl) ?_
  obtain rfl := ct_ca hK5 0 rfl rfl
  clear hK5
  have hP : va_P E.1 vwCl ([(h0, .inr (1, [.ref a1, .ref a2, .ref a3, .null, .null, .null])), (a1, .inl (E.2.1.1, 31, .inl (fun _ => 0))), (a2, .inl (E.2.1.1, 30, .inl (fun _ => 0))), (a3, .inl (E.2.1.1, 30, .inl (fun _ => 0))), (a4, .inl (E.2.1.1, 23, .inl (fun _ => 0)))]) H := hP
  have hD : va_D A ([(h0, .inr (1, [.ref a1, .ref a2, .ref a3, .null, .null, .null])), (a1, .inl (E.2.1.1, 31, .inl (fun _ => 0))), (a2, .inl (E.2.1.1, 30, .inl (fun _ => 0))), (a3, .inl (E.2.1.1, 30, .inl (fun _ => 0))), (a4, .inl (E.2.1.1, 23, .inl (fun _ => 0)))]) := hD
  refine va_putF (D := E.1) (ci := 1) (v := .ref a4) (ty := .array .int) (C := RX2) (T := TX2) (N := 6) hx hb hg in_X2 tyX2 tyX2_ok nmX2 hown X.1 hP hD hS 0 rfl rfl 3 (by decide) (hg _ wf_X2_21) (fun _ h9 => h9) rfl hin rfl (by decide +kernel) rfl rfl (Nat.le_of_ble_eq_true rfl) dX2_init_33 (fun H locs hP hD hS => ?_)
  have hP : va_P E.1 vwCl ([(h0, .inr (1, [.ref a1, .ref a2, .ref a3, .ref a4, .null, .null])), (a1, .inl (E.2.1.1, 31, .inl (fun _ => 0))), (a2, .inl (E.2.1.1, 30, .inl (fun _ => 0))), (a3, .inl (E.2.1.1, 30, .inl (fun _ => 0))), (a4, .inl (E.2.1.1, 23, .inl (fun _ => 0)))]) H := hP
  have hD : va_D A ([(h0, .inr (1, [.ref a1, .ref a2, .ref a3, .ref a4, .null, .null])), (a1, .inl (E.2.1.1, 31, .inl (fun _ => 0))), (a2, .inl (E.2.1.1, 30, .inl (fun _ => 0))), (a3, .inl (E.2.1.1, 30, .inl (fun _ => 0))), (a4, .inl (E.2.1.1, 23, .inl (fun _ => 0)))]) := hD
  refine lv_aload_n hx hb dX2_init_36 rfl (lv_at hl 0 rfl) ?_
  refine lv_bipush (v := 23) hx hb dX2_init_37 (by decide) ?_
  refine va_newa (atype := .int) hx hb (hg _ war_int) rfl X.1 hP hD hS X.2.2.2 (a0 := (23, .inl (fun _ => 0))) (fun _ => rfl) (by decide) (by decide) (Nat.le_of_ble_eq_true rfl) (Nat.le_of_ble_eq_true rfl) (Nat.le_of_ble_eq_true rfl) dX2_init_39 (fun a5 cA H hK5 hP hD hS => ?_)
  refine W.widen (k := 5) (n := 137) (Nat.le_of_ble_eq_true rfl) (Nat.le_of_ble_eq_true rfl) ?_
  obtain rfl := ct_ca hK5 0 rfl rfl
  clear hK5
  have hP : va_P E.1 vwCl ([(h0, .inr (1, [.ref a1, .ref a2, .ref a3, .ref a4, .null, .null])), (a1, .inl (E.2.1.1, 31, .inl (fun _ => 0))), (a2, .inl (E.2.1.1, 30, .inl (fun _ => 0))), (a3, .inl (E.2.1.1, 30, .inl (fun _ => 0))), (a4, .inl (E.2.1.1, 23, .inl (fun _ => 0))), (a5, .inl (E.2.1.1, 23, .inl (fun _ => 0)))]) H := hP
  have hD : va_D A ([(h0, .inr (1, [.ref a1, .ref a2, .ref a3, .ref a4, .null, .null])), (a1, .inl (E.2.1.1, 31, .inl (fun _ => 0))), (a2, .inl (E.2.1.1, 30, .inl (fun _ => 0))), (a3, .inl (E.2.1.1, 30, .inl (fun _ => 0))), (a4, .inl (E.2.1.1, 23, .inl (fun _ => 0))), (a5, .inl (E.2.1.1, 23, .inl (fun _ => 0)))]) := hD
  refine va_putF (D := E.1) (ci := 1) (v := .ref a5) (ty := .array .int) (C := RX2) (T := TX2) (N := 6) hx hb hg in_X2 tyX2 tyX2_ok nmX2 hown X.1 hP hD hS 0 rfl rfl 4 (by decide) (hg _ wf_X2_24) (fun _ h9 => h9) rfl hin rfl (by decide +kernel) rfl rfl (Nat.le_of_ble_eq_true rfl) dX2_init_41 (fun H locs hP hD hS => ?_)
  have hP : va_P E.1 vwCl ([(h0, .inr (1, [.ref a1, .ref a2, .ref a3, .ref a4, .ref a5, .null])), (a1, .inl (E.2.1.1, 31, .inl (fun _ => 0))), (a2, .inl (E.2.1.1, 30, .inl (fun _ => 0))), (a3, .inl (E.2.1.1, 30, .inl (fun _ => 0))), (a4, .inl (E.2.1.1, 23, .inl (fun _ => 0))), (a5, .inl (E.2.1.1, 23, .inl (fun _ => 0)))]) H := hP
  have hD : va_D A ([(h0, .inr (1, [.ref a1, .ref a2, .ref a3, .ref a4, .ref a5, .null])), (a1, .inl (E.2.1.1, 31, .inl (fun _ => 0))), (a2, .inl (E.2.1.1, 30, .inl (fun _ => 0))), (a3, .inl (E.2.1.1, 30, .inl (fun _ => 0))), (a4, .inl (E.2.1.1, 23, .inl (fun _ => 0))), (a5, .inl (E.2.1.1, 23, .inl (fun _ => 0)))]) := hD
  refine lv_aload_n hx hb dX2_init_44 rfl (lv_at hl 0 rfl) ?_
  refine lv_bipush (v := 23) hx hb dX2_init_45 (by decide) ?_
  refine va_newa (atype := .boolean) hx hb (hg _ war_boolean) rfl X.1 hP hD hS X.2.2.2 (a0 := (23, .inl (fun _ => 0))) (fun _ => rfl) (by decide) (by decide) (Nat.le_of_ble_eq_true rfl) (Nat.le_of_ble_eq_true rfl) (Nat.le_of_ble_eq_true rfl) dX2_init_47 (fun a6 cA H hK5 hP hD hS => ?_)
  refine W.widen (k := 6) (n := 160) (Nat.le_of_ble_eq_true rfl) (Nat.le_of_ble_eq_true rfl) ?_
  obtain rfl := ct_ca hK5 1 rfl rfl
  clear hK5
  have hP : va_P E.1 vwCl ([(h0, .inr (1, [.ref a1, .ref a2, .ref a3, .ref a4, .ref a5, .null])), (a1, .inl (E.2.1.1, 31, .inl (fun _ => 0))), (a2, .inl (E.2.1.1, 30, .inl (fun _ => 0))), (a3, .inl (E.2.1.1, 30, .inl (fun _ => 0))), (a4, .inl (E.2.1.1, 23, .inl (fun _ => 0))), (a5, .inl (E.2.1.1, 23, .inl (fun _ => 0))), (a6, .inl (E.2.1.2.1, 23, .inl (fun _ => 0)))]) H := hP
  have hD : va_D A ([(h0, .inr (1, [.ref a1, .ref a2, .ref a3, .ref a4, .ref a5, .null])), (a1, .inl (E.2.1.1, 31, .inl (fun _ => 0))), (a2, .inl (E.2.1.1, 30, .inl (fun _ => 0))), (a3, .inl (E.2.1.1, 30, .inl (fun _ => 0))), (a4, .inl (E.2.1.1, 23, .inl (fun _ => 0))), (a5, .inl (E.2.1.1, 23, .inl (fun _ => 0))), (a6, .inl (E.2.1.2.1, 23, .inl (fun _ => 0)))]) := hD
  refine va_putF (D := E.1) (ci := 1) (v := .ref a6) (ty := .array .boolean) (C := RX2) (T := TX2) (N := 6) hx hb hg in_X2 tyX2 tyX2_ok nmX2 hown X.1 hP hD hS 0 rfl rfl 5 (by decide) (hg _ wf_X2_27) (fun _ h9 => h9) rfl hin rfl (by decide +kernel) rfl rfl (Nat.le_of_ble_eq_true rfl) dX2_init_49 (fun H locs hP hD hS => ?_)
  have hP : va_P E.1 vwCl ([(h0, .inr (1, [.ref a1, .ref a2, .ref a3, .ref a4, .ref a5, .ref a6])), (a1, .inl (E.2.1.1, 31, .inl (fun _ => 0))), (a2, .inl (E.2.1.1, 30, .inl (fun _ => 0))), (a3, .inl (E.2.1.1, 30, .inl (fun _ => 0))), (a4, .inl (E.2.1.1, 23, .inl (fun _ => 0))), (a5, .inl (E.2.1.1, 23, .inl (fun _ => 0))), (a6, .inl (E.2.1.2.1, 23, .inl (fun _ => 0)))]) H := hP
  have hD : va_D A ([(h0, .inr (1, [.ref a1, .ref a2, .ref a3, .ref a4, .ref a5, .ref a6])), (a1, .inl (E.2.1.1, 31, .inl (fun _ => 0))), (a2, .inl (E.2.1.1, 30, .inl (fun _ => 0))), (a3, .inl (E.2.1.1, 30, .inl (fun _ => 0))), (a4, .inl (E.2.1.1, 23, .inl (fun _ => 0))), (a5, .inl (E.2.1.1, 23, .inl (fun _ => 0))), (a6, .inl (E.2.1.2.1, 23, .inl (fun _ => 0)))]) := hD
  exact RET (qs [h0, a1, a2, a3, a4, a5, a6]) _ _ _ _ rfl hP hD hS dX2_init_52
theorem dX10_init_0 : decode cX10_init 0 = .ok (.aload_n 0, 1) := by decide +kernel
theorem dX10_init_1 : decode cX10_init 1 = .ok (.invokespecial 3, 3) := by decide +kernel
theorem dX10_init_4 : decode cX10_init 4 = .ok (.aload_n 0, 1) := by decide +kernel
theorem dX10_init_5 : decode cX10_init 5 = .ok (.bipush 65, 2) := by decide +kernel
theorem dX10_init_7 : decode cX10_init 7 = .ok (.newarray .int, 2) := by decide +kernel
theorem dX10_init_9 : decode cX10_init 9 = .ok (.putfield 11, 3) := by decide +kernel
theorem dX10_init_12 : decode cX10_init 12 = .ok (.aload_n 0, 1) := by decide +kernel
theorem dX10_init_13 : decode cX10_init 13 = .ok (.bipush 65, 2) := by decide +kernel
theorem dX10_init_15 : decode cX10_init 15 = .ok (.newarray .int, 2) := by decide +kernel
theorem dX10_init_17 : decode cX10_init 17 = .ok (.putfield 15, 3) := by decide +kernel
theorem dX10_init_20 : decode cX10_init 20 = .ok (.aload_n 0, 1) := by decide +kernel
theorem dX10_init_21 : decode cX10_init 21 = .ok (.iconst 0, 1) := by decide +kernel
theorem dX10_init_22 : decode cX10_init 22 = .ok (.putfield 18, 3) := by decide +kernel
theorem dX10_init_25 : decode cX10_init 25 = .ok (.return_, 1) := by decide +kernel
set_option maxHeartbeats 4000000 in
set_option maxRecDepth 100000 in
theorem c_X10_init (l : Launch) (E : Ec) (h0 sz : Nat) : Met l yX10_init (wsM (.code yX10_init cX10_init 1 none)) ({ frames := 1, cells := 2, slots := 130, locals := 20 } : Room) (va_Pc [.ref h0] (ctP E [(h0, .inr (9, [.null, .null, .int 0]))] sz)) (va_Qv (fun (u : Nat → Nat) => u 0 = h0) (fun u t => ctR E (va_A [(h0, .inr (9, [.null, .null, .int 0]))] sz) (cw_X10 E u g0) t) (va_A [(h0, .inr (9, [.null, .null, .int 0]))] sz)) 2 130 (va_A [(h0, .inr (9, [.null, .null, .int 0]))] sz) := by
  refine ct_metC (σ := Nat → Nat) (by decide) rfl (Nat.le_of_ble_eq_true rfl) ?_
  intro p e s m ar below meth c A QM hx hb hml hown hin hg X hP hD hS RET ls hl
  have hown : s.vm.findClass RX10 = some m.cls := hown
  have hl : lv_has ls 1 [(0, .ref h0)] := hl
  refine lv_aload_n hx hb dX10_init_0 rfl (lv_at hl 0 rfl) ?_
  refine W.objInit hx hb hown (hg _ wm_X10_3) (hg _ wi_objInit) (hg _ wco_objInit) rfl (by rw [hml]; exact hl.1) rfl dX10_init_1 (Nat.le_of_ble_eq_true rfl) (Nat.le_of_ble_eq_true rfl) ?_
  refine W.eq (g2 := F0 m 4 ls []) rfl ?_
  refine lv_aload_n hx hb dX10_init_4 rfl (lv_at hl 0 rfl) ?_
  refine lv_bipush (v := 65) hx hb dX10_init_5 (by decide) ?_
  refine va_newa (atype := .int) hx hb (hg _ war_int) rfl X.1 hP hD hS X.2.2.2 (a0 := (65, .inl (fun _ => 0))) (fun _ => rfl) (by decide) (by decide) (Nat.le_of_ble_eq_true rfl) (Nat.le_of_ble_eq_true rfl) (Nat.le_of_ble_eq_true rfl) dX10_init_7 (fun a1 cA H hK5 hP hD hS => ?_)
  refine W.widen (k := 1) (n := 65) (Nat.le_of_ble_eq_true rfl) (Nat.le_of_ble_eq_true rfl) ?_
  obtain rfl := ct_ca hK5 0 rfl rfl
  clear hK5
  have hP : va_P E.1 vwCl ([(h0, .inr (9, [.null, .null, .int 0])), (a1, .inl (E.2.1.1, 65, .inl (fun _ => 0)))]) H := hP
  have hD : va_D A ([(h0, .inr (9, [.null, .null, .int 0])), (a1, .inl (E.2.1.1, 65, .inl (fun _ => 0)))]) := hD
  refine va_putF (D := E.1) (ci := 9) (v := .ref a1) (ty := .array .int) (C := RX10) (T := TX10) (N := 3) hx hb hg in_X10 tyX10 tyX10_ok nmX10 hown X.1 hP hD hS 0 rfl rfl 0 (by decide) (hg _ wf_X10_11) (fun _ h9 => h9) rfl hin rfl (by decide +kernel) rfl rfl (Nat.le_of_ble_eq_true rfl) dX10_init_9 (fun H locs hP hD hS => ?_)
  have hP : va_P E.1 vwCl ([(h0, .inr (9, [.ref a1, .null, .int 0])), (a1, .inl (E.2.1.1, 65, .inl (fun _ => 0)))]) H := hP
  have hD : va_D A ([(h0, .inr (9, [.ref a1, .null, .int 0])), (a1, .inl (E.2.1.1, 65, .inl (fun _ => 0)))]) := hD
  refine lv_aload_n hx hb dX10_init_12 rfl (lv_at hl 0 rfl) ?_
  refine lv_bipush (v := 65) hx hb dX10_init_13 (by decide) ?_
  refine va_newa (atype := .int) hx hb (hg _ war_int) rfl X.1 hP hD hS X.2.2.2 (a0 := (65, .inl (fun _ => 0))) (fun _ => rfl) (by decide) (by decide) (Nat.le_of_ble_eq_true rfl) (Nat.le_of_ble_eq_true rfl) (Nat.le_of_ble_eq_true rfl) dX10_init_15 (fun a2 cA H hK5 hP hD hS => ?_)
  refine W.widen (k := 2) (n := 130) (Nat.le_of_ble_eq_true rfl) (Nat.le_of_ble_eq_true rfl) ?_
  obtain rfl := ct_ca hK5 0 rfl rfl
  clear hK5
  have hP : va_P E.1 vwCl ([(h0, .inr (9, [.ref a1, .null, .int 0])), (a1, .inl (E.2.1.1, 65, .inl (fun _ => 0))), (a2, .inl (E.2.1.1, 65, .inl (fun _ => 0)))]) H := hP
  have hD : va_D A ([(h0, .inr (9, [.ref a1, .null, .int 0])), (a1, .inl (E.2.1.1, 65, .inl (fun _ => 0))), (a2, .inl (E.2.1.1, 65, .inl (fun _ => 0)))]) := hD
  refine va_putF (D := E.1) (ci := 9) (v := .ref a2) (ty := .array .int) (C := RX10) (T := TX10) (N := 3) hx hb hg in_X10 tyX10 tyX10_ok nmX10 hown X.1 hP hD hS 0 rfl rfl 1 (by decide) (hg _ wf_X10_15) (fun _ h9 => h9) rfl hin rfl (by decide +kernel) rfl rfl (Nat.le_of_ble_eq_true rfl) dX10_init_17 (fun H locs hP hD hS => ?_)
  have hP : va_P E.1 vwCl ([(h0, .inr (9, [.ref a1, .ref a2, .int 0])), (a1, .inl (E.2.1.1, 65, .inl (fun _ => 0))), (a2, .inl (E.2.1.1, 65, .inl (fun _ => 0)))]) H := hP
  have hD : va_D A ([(h0, .inr (9, [.ref a1, .ref a2, .int 0])), (a1, .inl (E.2.1.1, 65, .inl (fun _ => 0))), (a2, .inl (E.2.1.1, 65, .inl (fun _ => 0)))]) := hD
  refine lv_aload_n hx hb dX10_init_20 rfl (lv_at hl 0 rfl) ?_
  refine lv_iconst (v := 0) hx hb dX10_init_21 (by decide) ?_
  refine va_put (D := E.1) (ci := 9) (v := .int 0) (ty := .int) (C := RX10) (T := TX10) (N := 3) hx hb hg in_X10 tyX10 tyX10_ok nmX10 hown X.1 hP hD hS 0 rfl rfl 2 (by decide) (hg _ wf_X10_18) (fun _ h9 => h9) rfl (by decide +kernel) rfl rfl (Nat.le_of_ble_eq_true rfl) dX10_init_22 (fun H locs hP hD hS => ?_)
  have hP : va_P E.1 vwCl ([(h0, .inr (9, [.ref a1, .ref a2, .int 0])), (a1, .inl (E.2.1.1, 65, .inl (fun _ => 0))), (a2, .inl (E.2.1.1, 65, .inl (fun _ => 0)))]) H := hP
  have hD : va_D A ([(h0, .inr (9, [.ref a1, .ref a2, .int 0])), (a1, .inl (E.2.1.1, 65, .inl (fun _ => 0))), (a2, .inl (E.2.1.1, 65, .inl (fun _ => 0)))]) := hD
  exact RET (qs [h0, a1, a2]) _ _ _ _ rfl hP hD hS dX10_init_25
theorem dX4_init_0 : decode cX4_init 0 = .ok (.aload_n 0, 1) := by decide +kernel
theorem dX4_init_1 : decode cX4_init 1 = .ok (.invokespecial 3, 3) := by decide +kernel
theorem dX4_init_4 : decode cX4_init 4 = .ok (.aload_n 0, 1) := by decide +kernel
theorem dX4_init_5 : decode cX4_init 5 = .ok (.new 9, 3) := by decide +kernel
theorem dX4_init_8 : decode cX4_init 8 = .ok (.dup, 1) := by decide +kernel
theorem dX4_init_9 : decode cX4_init 9 = .ok (.invokespecial 11, 3) := by decide +kernel
theorem dX4_init_12 : decode cX4_init 12 = .ok (.putfield 12, 3) := by decide +kernel
theorem dX4_init_15 : decode cX4_init 15 = .ok (.return_, 1) := by decide +kernel
set_option maxHeartbeats 4000000 in
set_option maxRecDepth 100000 in
theorem c_X4_init (l : Launch) (E : Ec) (h0 sz : Nat) : Met l yX4_init (wsM (.code yX4_init cX4_init 1 none)) ({ frames := 2, cells := 2, slots := 244, locals := 40 } : Room) (va_Pc [.ref h0] (ctP E [(h0, .inr (3, [.null]))] sz)) (va_Qv (fun (u : (Nat → Nat) × (Nat → Nat)) => u.1 0 = h0) (fun u t => ctR E (va_A [(h0, .inr (3, [.null]))] sz) (cw_X4 E u.1 (u.2 0) ++ (cw_X9 E u.2 g0)) t) (va_A [(h0, .inr (3, [.null]))] sz)) 2 244 (va_A [(h0, .inr (3, [.null]))] sz) := by
  refine ct_metC (σ := (Nat → Nat) × (Nat → Nat)) (by decide) rfl (Nat.le_of_ble_eq_true rfl) ?_
  intro p e s m ar below meth c A QM hx hb hml hown hin hg X hP hD hS RET ls hl
  have hown : s.vm.findClass RX4 = some m.cls := hown
  have hl : lv_has ls 1 [(0, .ref h0)] := hl
  refine lv_aload_n hx hb dX4_init_0 rfl (lv_at hl 0 rfl) ?_
  refine W.objInit hx hb hown (hg _ wm_X4_3) (hg _ wi_objInit) (hg _ wco_objInit) rfl (by rw [hml]; exact hl.1) rfl dX4_init_1 (Nat.le_of_ble_eq_true rfl) (Nat.le_of_ble_eq_true rfl) ?_
  refine W.eq (g2 := F0 m 4 ls []) rfl ?_
  refine lv_aload_n hx hb dX4_init_4 rfl (lv_at hl 0 rfl) ?_
  refine va_new (ci := 8) (fs := [.null, .int 0, .int 0, .int 0]) (C := RX9) (T := TX9) (N := 4) hx hb hg in_X9 tyX9 tyX9_ok hown (hg _ wcl_X4_9) (hg _ wins_X9) (hg _ wini_X9) X.1 hP hD hS X.2.2.2 rfl (fun j hj => by rcases (show j = 0 ∨ j = 1 ∨ j = 2 ∨ j = 3 by omega) with rfl | rfl | rfl | rfl <;> rfl) (Nat.le_of_ble_eq_true rfl) (Nat.le_of_ble_eq_true rfl) dX4_init_5 (fun n1 H hP hD hS => ?_)
  refine W.widen (k := 1) (n := 4) (Nat.le_of_ble_eq_true rfl) (Nat.le_of_ble_eq_true rfl) ?_
  refine lv_dup hx hb dX4_init_8 rfl ?_
  have hP : va_P E.1 vwCl (([(h0, .inr (3, [.null]))]) ++ [(n1, .inr (8, [.null, .int 0, .int 0, .int 0]))]) H := hP
  have hD : va_D A (([(h0, .inr (3, [.null]))]) ++ [(n1, .inr (8, [.null, .int 0, .int 0, .int 0]))]) := hD
  refine ct_c X hP hD hS (va_runI (As := []) (rest := [.ref n1, .ref h0]) ⟨hx, hb, hml, hown, hg⟩ (c_X9_init l E n1 H.size) (cwI 0 hg (gw wco_X9_init) rfl rfl rfl (hg _ wini_X9) (hg _ wm_X4_11) (hg _ wi_X9_init) rfl (by decide +kernel) ⟨Nat.le_of_ble_eq_true rfl, Nat.le_of_ble_eq_true rfl⟩) ⟨ct_blind, ct_preC X hP hD hS _⟩ rfl rfl hl.1 rfl (lv_room (Nat.le_of_ble_eq_true rfl)) dX4_init_9 ⟨Nat.le_of_ble_eq_true rfl, Nat.le_of_ble_eq_true rfl⟩) (fun u2 H locs hq hP1 hD1 hS1 => ?_)
  refine W.widen (k := 2) (n := 244) (Nat.le_of_ble_eq_true rfl) (Nat.le_of_ble_eq_true rfl) ?_
  subst hq
  have hP := hP1; have hD := hD1; have hS := hS1
  have hP : va_P E.1 vwCl (([(h0, .inr (3, [.null]))]) ++ (cw_X9 E u2 g0)) H := hP
  have hD : va_D A (([(h0, .inr (3, [.null]))]) ++ (cw_X9 E u2 g0)) := hD
  refine va_putF (D := E.1) (ci := 3) (v := .ref (u2 0)) (ty := .object "DraughtWebs$Text") (C := RX4) (T := TX4) (N := 1) hx hb hg in_X4 tyX4 tyX4_ok nmX4 hown X.1 hP hD hS 0 rfl rfl 0 (by decide) (hg _ wf_X4_12) (fun _ h9 => h9) rfl hin rfl (by decide +kernel) rfl rfl (Nat.le_of_ble_eq_true rfl) dX4_init_12 (fun H locs hP hD hS => ?_)
  have hP : va_P E.1 vwCl (([(h0, .inr (3, [.ref (u2 0)]))]) ++ (cw_X9 E u2 g0)) H := hP
  have hD : va_D A (([(h0, .inr (3, [.ref (u2 0)]))]) ++ (cw_X9 E u2 g0)) := hD
  exact RET ((qs [h0]), u2) _ _ _ _ rfl hP hD hS dX4_init_15
theorem dX0_init_0 : decode cX0_init 0 = .ok (.aload_n 0, 1) := by decide +kernel
theorem dX0_init_1 : decode cX0_init 1 = .ok (.invokespecial 3, 3) := by decide +kernel
theorem dX0_init_4 : decode cX0_init 4 = .ok (.aload_n 0, 1) := by decide +kernel
theorem dX0_init_5 : decode cX0_init 5 = .ok (.new 9, 3) := by decide +kernel
theorem dX0_init_8 : decode cX0_init 8 = .ok (.dup, 1) := by decide +kernel
theorem dX0_init_9 : decode cX0_init 9 = .ok (.invokespecial 11, 3) := by decide +kernel
theorem dX0_init_12 : decode cX0_init 12 = .ok (.putfield 12, 3) := by decide +kernel
theorem dX0_init_15 : decode cX0_init 15 = .ok (.return_, 1) := by decide +kernel
set_option maxHeartbeats 4000000 in
set_option maxRecDepth 100000 in
theorem c_X0_init (l : Launch) (E : Ec) (h0 sz : Nat) : Met l yX0_init (wsM (.code yX0_init cX0_init 1 none)) ({ frames := 2, cells := 2, slots := 244, locals := 40 } : Room) (va_Pc [.ref h0] (ctP E [(h0, .inr (0, [.null]))] sz)) (va_Qv (fun (u : (Nat → Nat) × (Nat → Nat)) => u.1 0 = h0) (fun u t => ctR E (va_A [(h0, .inr (0, [.null]))] sz) (cw_X0 E u.1 (u.2 0) ++ (cw_X9 E u.2 g0)) t) (va_A [(h0, .inr (0, [.null]))] sz)) 2 244 (va_A [(h0, .inr (0, [.null]))] sz) := by
  refine ct_metC (σ := (Nat → Nat) × (Nat → Nat)) (by decide) rfl (Nat.le_of_ble_eq_true rfl) ?_
  intro p e s m ar below meth c A QM hx hb hml hown hin hg X hP hD hS RET ls hl
  have hown : s.vm.findClass RX0 = some m.cls := hown
  have hl : lv_has ls 1 [(0, .ref h0)] := hl
  refine lv_aload_n hx hb dX0_init_0 rfl (lv_at hl 0 rfl) ?_
  refine W.objInit hx hb hown (hg _ wm_X0_3) (hg _ wi_objInit) (hg _ wco_objInit) rfl (by rw [hml]; exact hl.1) rfl dX0_init_1 (Nat.le_of_ble_eq_true rfl) (Nat.le_of_ble_eq_true rfl) ?_
  refine W.eq (g2 := F0 m 4 ls []) rfl ?_
  refine lv_aload_n hx hb dX0_init_4 rfl (lv_at hl 0 rfl) ?_
  refine va_new (ci := 8) (fs := [.null, .int 0, .int 0, .int 0]) (C := RX9) (T := TX9) (N := 4) hx hb hg in_X9 tyX9 tyX9_ok hown (hg _ wcl_X0_9) (hg _ wins_X9) (hg _ wini_X9) X.1 hP hD hS X.2.2.2 rfl (fun j hj => by rcases (show j = 0 ∨ j = 1 ∨ j = 2 ∨ j = 3 by omega) with rfl | rfl | rfl | rfl <;> rfl) (Nat.le_of_ble_eq_true rfl) (Nat.le_of_ble_eq_true rfl) dX0_init_5 (fun n1 H hP hD hS => ?_)
  refine W.widen (k := 1) (n := 4) (Nat.le_of_ble_eq_true rfl) (Nat.le_of_ble_eq_true rfl) ?_
  refine lv_dup hx hb dX0_init_8 rfl ?_
  have hP : va_P E.1 vwCl (([(h0, .inr (0, [.null]))]) ++ [(n1, .inr (8, [.null, .int 0, .int 0, .int 0]))]) H := hP
  have hD : va_D A (([(h0, .inr (0, [.null]))]) ++ [(n1, .inr (8, [.null, .int 0, .int 0, .int 0]))]) := hD
  refine ct_c X hP hD hS (va_runI (As := []) (rest := [.ref n1, .ref h0]) ⟨hx, hb, hml, hown, hg⟩ (c_X9_init l E n1 H.size) (cwI 0 hg (gw wco_X9_init) rfl rfl rfl (hg _ wini_X9) (hg _ wm_X0_11) (hg _ wi_X9_init) rfl (by decide +kernel) ⟨Nat.le_of_ble_eq_true rfl, Nat.le_of_ble_eq_true rfl⟩) ⟨ct_blind, ct_preC X hP hD hS _⟩ rfl rfl hl.1 rfl (lv_room (Nat.le_of_ble_eq_true rfl)) dX0_init_9 ⟨Nat.le_of_ble_eq_true rfl, Nat.le_of_ble_eq_true rfl⟩) (fun u2 H locs hq hP1 hD1 hS1 => ?_)
  refine W.widen (k := 2) (n := 244) (Nat.le_of_ble_eq_true rfl) (Nat.le_of_ble_eq_true rfl) ?_
  subst hq
  have hP := hP1; have hD := hD1; have hS := hS1
  have hP : va_P E.1 vwCl (([(h0, .inr (0, [.null]))]) ++ (cw_X9 E u2 g0)) H := hP
  have hD : va_D A (([(h0, .inr (0, [.null]))]) ++ (cw_X9 E u2 g0)) := hD
  refine va_putF (D := E.1) (ci := 0) (v := .ref (u2 0)) (ty := .object "DraughtWebs$Text") (C := RX0) (T := TX0) (N := 1) hx hb hg in_X0 tyX0 tyX0_ok nmX0 hown X.1 hP hD hS 0 rfl rfl 0 (by decide) (hg _ wf_X0_12) (fun _ h9 => h9) rfl hin rfl (by decide +kernel) rfl rfl (Nat.le_of_ble_eq_true rfl) dX0_init_12 (fun H locs hP hD hS => ?_)
  have hP : va_P E.1 vwCl (([(h0, .inr (0, [.ref (u2 0)]))]) ++ (cw_X9 E u2 g0)) H := hP
  have hD : va_D A (([(h0, .inr (0, [.ref (u2 0)]))]) ++ (cw_X9 E u2 g0)) := hD
  exact RET ((qs [h0]), u2) _ _ _ _ rfl hP hD hS dX0_init_15
theorem dX5_init_0 : decode cX5_init 0 = .ok (.aload_n 0, 1) := by decide +kernel
theorem dX5_init_1 : decode cX5_init 1 = .ok (.invokespecial 3, 3) := by decide +kernel
theorem dX5_init_4 : decode cX5_init 4 = .ok (.aload_n 0, 1) := by decide +kernel
theorem dX5_init_5 : decode cX5_init 5 = .ok (.new 9, 3) := by decide +kernel
theorem dX5_init_8 : decode cX5_init 8 = .ok (.dup, 1) := by decide +kernel
theorem dX5_init_9 : decode cX5_init 9 = .ok (.invokespecial 11, 3) := by decide +kernel
theorem dX5_init_12 : decode cX5_init 12 = .ok (.putfield 12, 3) := by decide +kernel
theorem dX5_init_15 : decode cX5_init 15 = .ok (.aload_n 0, 1) := by decide +kernel
theorem dX5_init_16 : decode cX5_init 16 = .ok (.bipush 64, 2) := by decide +kernel
theorem dX5_init_18 : decode cX5_init 18 = .ok (.newarray .int, 2) := by decide +kernel
theorem dX5_init_20 : decode cX5_init 20 = .ok (.putfield 18, 3) := by decide +kernel
theorem dX5_init_23 : decode cX5_init 23 = .ok (.aload_n 0, 1) := by decide +kernel
theorem dX5_init_24 : decode cX5_init 24 = .ok (.iconst 0, 1) := by decide +kernel
theorem dX5_init_25 : decode cX5_init 25 = .ok (.putfield 22, 3) := by decide +kernel
theorem dX5_init_28 : decode cX5_init 28 = .ok (.return_, 1) := by decide +kernel
set_option maxHeartbeats 4000000 in
set_option maxRecDepth 100000 in
theorem c_X5_init (l : Launch) (E : Ec) (h0 sz : Nat) : Met l yX5_init (wsM (.code yX5_init cX5_init 1 none)) ({ frames := 2, cells := 3, slots := 308, locals := 40 } : Room) (va_Pc [.ref h0] (ctP E [(h0, .inr (4, [.null, .null, .int 0]))] sz)) (va_Qv (fun (u : (Nat → Nat) × (Nat → Nat)) => u.1 0 = h0) (fun u t => ctR E (va_A [(h0, .inr (4, [.null, .null, .int 0]))] sz) (cw_X5 E u.1 (u.2 0) g0 ++ (cw_X9 E u.2 g0)) t) (va_A [(h0, .inr (4, [.null, .null, .int 0]))] sz)) 3 308 (va_A [(h0, .inr (4, [.null, .null, .int 0]))] sz) := by
  refine ct_metC (σ := (Nat → Nat) × (Nat → Nat)) (by decide) rfl (Nat.le_of_ble_eq_true rfl) ?_
  intro p e s m ar below meth c A QM hx hb hml hown hin hg X hP hD hS RET ls hl
  have hown : s.vm.findClass RX5 = some m.cls := hown
  have hl : lv_has ls 1 [(0, .ref h0)] := hl
  refine lv_aload_n hx hb dX5_init_0 rfl (lv_at hl 0 rfl) ?_
  refine W.objInit hx hb hown (hg _ wm_X5_3) (hg _ wi_objInit) (hg _ wco_objInit) rfl (by rw [hml]; exact hl.1) rfl dX5_init_1 (Nat.le_of_ble_eq_true rfl) (Nat.le_of_ble_eq_true rfl) ?_
  refine W.eq (g2 := F0 m 4 ls []) rfl ?_
  refine lv_aload_n hx hb dX5_init_4 rfl (lv_at hl 0 rfl) ?_
  refine va_new (ci := 8) (fs := [.null, .int 0, .int 0, .int 0]) (C := RX9) (T := TX9) (N := 4) hx hb hg in_X9 tyX9 tyX9_ok hown (hg _ wcl_X5_9) (hg _ wins_X9) (hg _ wini_X9) X.1 hP hD hS X.2.2.2 rfl (fun j hj => by rcases (show j = 0 ∨ j = 1 ∨ j = 2 ∨ j = 3 by omega) with rfl | rfl | rfl | rfl <;> rfl) (Nat.le_of_ble_eq_true rfl) (Nat.le_of_ble_eq_true rfl) dX5_init_5 (fun n1 H hP hD hS => ?_)
  refine W.widen (k := 1) (n := 4) (Nat.le_of_ble_eq_true rfl) (Nat.le_of_ble_eq_true rfl) ?_
  refine lv_dup hx hb dX5_init_8 rfl ?_
  have hP : va_P E.1 vwCl (([(h0, .inr (4, [.null, .null, .int 0]))]) ++ [(n1, .inr (8, [.null, .int 0, .int 0, .int 0]))]) H := hP
  have hD : va_D A (([(h0, .inr (4, [.null, .null, .int 0]))]) ++ [(n1, .inr (8, [.null, .int 0, .int 0, .int 0]))]) := hD
  refine ct_c X hP hD hS (va_runI (As := []) (rest := [.ref n1, .ref h0]) ⟨hx, hb, hml, hown, hg⟩ (c_X9_init l E n1 H.size) (cwI 0 hg (gw wco_X9_init) rfl rfl rfl (hg _ wini_X9) (hg _ wm_X5_11) (hg _ wi_X9_init) rfl (by decide +kernel) ⟨Nat.le_of_ble_eq_true rfl, Nat.le_of_ble_eq_true rfl⟩) ⟨ct_blind, ct_preC X hP hD hS _⟩ rfl rfl hl.1 rfl (lv_room (Nat.le_of_ble_eq_true rfl)) dX5_init_9 ⟨Nat.le_of_ble_eq_true rfl, Nat.le_of_ble_eq_true rfl⟩) (fun u2 H locs hq hP1 hD1 hS1 => ?_)
  refine W.widen (k := 2) (n := 244) (Nat.le_of_ble_eq_true rfl) (Nat.le_of_ble_eq_true rfl) ?_
  subst hq
  have hP := hP1; have hD := hD1; have hS := hS1
  have hP : va_P E.1 vwCl (([(h0, .inr (4, [.null, .null, .int 0]))]) ++ (cw_X9 E u2 g0)) H := hP
  have hD : va_D A (([(h0, .inr (4, [.null, .null, .int 0]))]) ++ (cw_X9 E u2 g0)) := hD
  refine va_putF (D := E.1) (ci := 4) (v := .ref (u2 0)) (ty := .object "DraughtWebs$Text") (C := RX5) (T := TX5) (N := 3) hx hb hg in_X5 tyX5 tyX5_ok nmX5 hown X.1 hP hD hS 0 rfl rfl 0 (by decide) (hg _ wf_X5_12) (fun _ h9 => h9) rfl hin rfl (by decide +kernel) rfl rfl (Nat.le_of_ble_eq_true rfl) dX5_init_12 (fun H locs hP hD hS => ?_)
  have hP : va_P E.1 vwCl (([(h0, .inr (4, [.ref (u2 0), .null, .int 0]))]) ++ (cw_X9 E u2 g0)) H := hP
  have hD : va_D A (([(h0, .inr (4, [.ref (u2 0), .null, .int 0]))]) ++ (cw_X9 E u2 g0)) := hD
  refine lv_aload_n hx hb dX5_init_15 rfl (lv_at hl 0 rfl) ?_
  refine lv_bipush (v := 64) hx hb dX5_init_16 (by decide) ?_
  refine va_newa (atype := .int) hx hb (hg _ war_int) rfl X.1 hP hD hS X.2.2.2 (a0 := (64, .inl (fun _ => 0))) (fun _ => rfl) (by decide) (by decide) (Nat.le_of_ble_eq_true rfl) (Nat.le_of_ble_eq_true rfl) (Nat.le_of_ble_eq_true rfl) dX5_init_18 (fun a3 cA H hK5 hP hD hS => ?_)
  refine W.widen (k := 3) (n := 308) (Nat.le_of_ble_eq_true rfl) (Nat.le_of_ble_eq_true rfl) ?_
  obtain rfl := ct_ca hK5 0 rfl rfl
  clear hK5
  have hP : va_P E.1 vwCl ((([(h0, .inr (4, [.ref (u2 0), .null, .int 0]))]) ++ (cw_X9 E u2 g0)) ++ [(a3, .inl (E.2.1.1, 64, .inl (fun _ => 0)))]) H := hP
  have hD : va_D A ((([(h0, .inr (4, [.ref (u2 0), .null, .int 0]))]) ++ (cw_X9 E u2 g0)) ++ [(a3, .inl (E.2.1.1, 64, .inl (fun _ => 0)))]) := hD
  refine va_putF (D := E.1) (ci := 4) (v := .ref a3) (ty := .array .int) (C := RX5) (T := TX5) (N := 3) hx hb hg in_X5 tyX5 tyX5_ok nmX5 hown X.1 hP hD hS 0 rfl rfl 1 (by decide) (hg _ wf_X5_18) (fun _ h9 => h9) rfl hin rfl (by decide +kernel) rfl rfl (Nat.le_of_ble_eq_true rfl) dX5_init_20 (fun H locs hP hD hS => ?_)
  have hP : va_P E.1 vwCl ((([(h0, .inr (4, [.ref (u2 0), .ref a3, .int 0]))]) ++ (cw_X9 E u2 g0)) ++ [(a3, .inl (E.2.1.1, 64, .inl (fun _ => 0)))]) H := hP
  have hD : va_D A ((([(h0, .inr (4, [.ref (u2 0), .ref a3, .int 0]))]) ++ (cw_X9 E u2 g0)) ++ [(a3, .inl (E.2.1.1, 64, .inl (fun _ => 0)))]) := hD
  refine lv_aload_n hx hb dX5_init_23 rfl (lv_at hl 0 rfl) ?_
  refine lv_iconst (v := 0) hx hb dX5_init_24 (by decide) ?_
  refine va_put (D := E.1) (ci := 4) (v := .int 0) (ty := .int) (C := RX5) (T := TX5) (N := 3) hx hb hg in_X5 tyX5 tyX5_ok nmX5 hown X.1 hP hD hS 0 rfl rfl 2 (by decide) (hg _ wf_X5_22) (fun _ h9 => h9) rfl (by decide +kernel) rfl rfl (Nat.le_of_ble_eq_true rfl) dX5_init_25 (fun H locs hP hD hS => ?_)
  have hP : va_P E.1 vwCl ((([(h0, .inr (4, [.ref (u2 0), .ref a3, .int 0]))]) ++ (cw_X9 E u2 g0)) ++ [(a3, .inl (E.2.1.1, 64, .inl (fun _ => 0)))]) H := hP
  have hD : va_D A ((([(h0, .inr (4, [.ref (u2 0), .ref a3, .int 0]))]) ++ (cw_X9 E u2 g0)) ++ [(a3, .inl (E.2.1.1, 64, .inl (fun _ => 0)))]) := hD
  have hP := hP.sub (ws' := cw_X5 E ((qs [h0, a3]), u2).1 (((qs [h0, a3]), u2).2 0) g0 ++ (cw_X9 E ((qs [h0, a3]), u2).2 g0)) [0, 3, 1, 2] rfl
  have hD := hD.sub (ws' := cw_X5 E ((qs [h0, a3]), u2).1 (((qs [h0, a3]), u2).2 0) g0 ++ (cw_X9 E ((qs [h0, a3]), u2).2 g0)) [0, 3, 1, 2] (by decide) rfl
  exact RET ((qs [h0, a3]), u2) _ _ _ _ rfl hP hD hS dX5_init_28
