section CT2
variable {p : Program} {l : Launch} {e : Env} {R : Room} {s : State} {m : MethodId} {args : Array Value} {below : List Frame} {meth : Method} {c : Code} {H : Heap} {locs : List Loc} {cells slots : Nat} {Q : State → Prop} {pc : Nat} {ls : Array Slot} {rest st0 : List Value}
theorem ct_freeA {E : Ec} {A : Nat → Prop} {s : State} {H : Heap} {locs : List Loc} {ws : va_W} (X : ctX E A s) (hD : va_D A ws) (hS : va_S A s.heap H locs) : ∀ q, va_A ws H.size q → A q := by
  rintro q (⟨k, e, hk⟩ | h)
  · exact hD.2 k (q, e) hk
  · exact X.2.2.2 q (Nat.le_trans hS.1 h)
theorem ct_preA {E : Ec} {A : Nat → Prop} {s : State} {H : Heap} {locs : List Loc} {ws : va_W} (X : ctX E A s) (hP : va_P E.1 vwCl ws H) (hD : va_D A ws) (hS : va_S A s.heap H locs) (av : List Value) : ∀ U : State, U.heap = H → s.WarmedH U.vm → va_Pc av (ctP E ws H.size) av.toArray U := by
  intro U hU hW
  have hF := ct_freeA X hD hS
  obtain ⟨hK, hN, hT, hA⟩ := X
  refine ⟨rfl, by rw [hU], by rw [hU]; exact hP, va_K.moved hW.alike hK, hD.weaken (fun _ _ _ _ => trivial), hN.warm hW, ?_⟩
  rw [hU]
  exact hT.to (fun a h1 h2 => hS.2.1 a h1 h2) hW.alike hF
theorem ct_nilP {E : Ec} {H : Heap} : va_P E.1 vwCl [] H := fun k q h => by simp at h
theorem ct_nilD {A : Nat → Prop} : va_D A [] := ⟨fun i j p q h => by simp at h, fun k q h => by simp at h⟩
theorem ct_preN {E : Ec} {A : Nat → Prop} {s : State} {H : Heap} {locs : List Loc} (X : ctX E A s) (hS : va_S A s.heap H locs) (av : List Value) : ∀ U : State, U.heap = H → s.WarmedH U.vm → va_Pc av (ctP E [] H.size) av.toArray U :=
  ct_preA X ct_nilP ct_nilD hS av
theorem ct_same : ∀ (isC : List Nat) (wc ws : va_W), isC.map (fun i => ws[i]?) = wc.map some → (isC.zip wc).foldl (fun a p => a.set p.1 p.2) ws = ws := by
  intro isC
  induction isC with
  | nil => intro wc ws _; rfl
  | cons i isC ih =>
    intro wc ws h
    cases wc with
    | nil => rfl
    | cons w wc =>
      simp only [List.map_cons, List.cons.injEq] at h
      have hs : ws.set i w = ws := by
        obtain ⟨hi, hv⟩ := List.getElem?_eq_some_iff.mp h.1
        rw [← hv]
        exact List.set_getElem_self hi
      show (isC.zip wc).foldl _ (ws.set i w) = ws
      rw [hs]
      exact ih wc ws h.2
theorem ct_iA {E : Ec} {A : Nat → Prop} {ws w1 : va_W} {r : Int32} {a : Array Value} (X : ctX E A s) (hP : va_P E.1 vwCl ws H) (hD : va_D A ws) (hS : va_S A s.heap H locs)
    (hr : va_Run p l e R s m args below meth c H locs cells slots 0 0 (F0 m pc ls st0) rest (ctI E ws w1 H.size r a) (va_A ws H.size))
    (kk : ∀ (H1 : Heap) (locs1 : List Loc), va_P E.1 vwCl w1 H1 → va_D A w1 → va_S A s.heap H1 locs1 → W p l e R s m args below meth c H1 locs1 cells slots Q (F0 m (pc + 3) ls (.int r :: rest))) :
    W p l e R s m args below meth c H locs cells slots Q (F0 m pc ls st0) := by
  have hF := ct_freeA X hD hS
  refine va_calli hr hS (fun q _ h => hF q h) hF (fun r2 u t H1 locs1 ht hvm hw2 hB hz1 hk1 hS1 => ?_)
  obtain ⟨hP1, -, hD1⟩ := hB
  rw [ht] at hP1
  rw [hw2]
  exact kk H1 locs1 hP1 (hD1.weaken (fun _ _ _ h => hF _ h)) hS1
theorem ct_iR {E : Ec} {A : Nat → Prop} {ws wc : va_W} {r : Int32} {a : Array Value} (X : ctX E A s) (hP : va_P E.1 vwCl ws H) (hD : va_D A ws) (hS : va_S A s.heap H locs) (isC : List Nat) (hC : isC.map (fun i => ws[i]?) = wc.map some)
    (hr : va_Run p l e R s m args below meth c H locs cells slots 0 0 (F0 m pc ls st0) rest (ctI E wc wc H.size r a) (va_A wc H.size))
    (kk : ∀ (H1 : Heap) (locs1 : List Loc), va_P E.1 vwCl ws H1 → va_D A ws → va_S A s.heap H1 locs1 → W p l e R s m args below meth c H1 locs1 cells slots Q (F0 m (pc + 3) ls (.int r :: rest))) :
    W p l e R s m args below meth c H locs cells slots Q (F0 m pc ls st0) := ct_i X hP hD hS isC hr hC rfl (ct_same isC wc ws hC) kk
theorem ct_iN {E : Ec} {A : Nat → Prop} {ws : va_W} {r : Int32} {a : Array Value} (X : ctX E A s) (hP : va_P E.1 vwCl ws H) (hD : va_D A ws) (hS : va_S A s.heap H locs)
    (hr : va_Run p l e R s m args below meth c H locs cells slots 0 0 (F0 m pc ls st0) rest (ctI E [] [] H.size r a) (va_A [] H.size))
    (kk : ∀ (H1 : Heap) (locs1 : List Loc), va_P E.1 vwCl ws H1 → va_D A ws → va_S A s.heap H1 locs1 → W p l e R s m args below meth c H1 locs1 cells slots Q (F0 m (pc + 3) ls (.int r :: rest))) :
    W p l e R s m args below meth c H locs cells slots Q (F0 m pc ls st0) := ct_iR X hP hD hS [] rfl hr kk
theorem ct_lA {E : Ec} {A : Nat → Prop} {ws w1 : va_W} {r : Int64} {a : Array Value} (X : ctX E A s) (hP : va_P E.1 vwCl ws H) (hD : va_D A ws) (hS : va_S A s.heap H locs)
    (hr : va_Run p l e R s m args below meth c H locs cells slots 0 0 (F0 m pc ls st0) rest (ctL E ws w1 H.size r a) (va_A ws H.size))
    (kk : ∀ (H1 : Heap) (locs1 : List Loc), va_P E.1 vwCl w1 H1 → va_D A w1 → va_S A s.heap H1 locs1 → W p l e R s m args below meth c H1 locs1 cells slots Q (F0 m (pc + 3) ls (.long r :: rest))) :
    W p l e R s m args below meth c H locs cells slots Q (F0 m pc ls st0) := by
  have hF := ct_freeA X hD hS
  refine va_calll hr hS (fun q _ h => hF q h) hF (fun r2 u t H1 locs1 ht hvm hw2 hB hz1 hk1 hS1 => ?_)
  obtain ⟨hP1, -, hD1⟩ := hB
  rw [ht] at hP1
  rw [hw2]
  exact kk H1 locs1 hP1 (hD1.weaken (fun _ _ _ h => hF _ h)) hS1
theorem ct_lR {E : Ec} {A : Nat → Prop} {ws wc : va_W} {r : Int64} {a : Array Value} (X : ctX E A s) (hP : va_P E.1 vwCl ws H) (hD : va_D A ws) (hS : va_S A s.heap H locs) (isC : List Nat) (hC : isC.map (fun i => ws[i]?) = wc.map some)
    (hr : va_Run p l e R s m args below meth c H locs cells slots 0 0 (F0 m pc ls st0) rest (ctL E wc wc H.size r a) (va_A wc H.size))
    (kk : ∀ (H1 : Heap) (locs1 : List Loc), va_P E.1 vwCl ws H1 → va_D A ws → va_S A s.heap H1 locs1 → W p l e R s m args below meth c H1 locs1 cells slots Q (F0 m (pc + 3) ls (.long r :: rest))) :
    W p l e R s m args below meth c H locs cells slots Q (F0 m pc ls st0) := ct_l X hP hD hS isC hr hC rfl (ct_same isC wc ws hC) kk
theorem ct_lN {E : Ec} {A : Nat → Prop} {ws : va_W} {r : Int64} {a : Array Value} (X : ctX E A s) (hP : va_P E.1 vwCl ws H) (hD : va_D A ws) (hS : va_S A s.heap H locs)
    (hr : va_Run p l e R s m args below meth c H locs cells slots 0 0 (F0 m pc ls st0) rest (ctL E [] [] H.size r a) (va_A [] H.size))
    (kk : ∀ (H1 : Heap) (locs1 : List Loc), va_P E.1 vwCl ws H1 → va_D A ws → va_S A s.heap H1 locs1 → W p l e R s m args below meth c H1 locs1 cells slots Q (F0 m (pc + 3) ls (.long r :: rest))) :
    W p l e R s m args below meth c H locs cells slots Q (F0 m pc ls st0) := ct_lR X hP hD hS [] rfl hr kk
theorem ct_vA {E : Ec} {A : Nat → Prop} {ws w1 : va_W} {a : Array Value} (X : ctX E A s) (hP : va_P E.1 vwCl ws H) (hD : va_D A ws) (hS : va_S A s.heap H locs)
    (hr : va_Run p l e R s m args below meth c H locs cells slots 0 0 (F0 m pc ls st0) rest (ctV E ws w1 H.size a) (va_A ws H.size))
    (kk : ∀ (H1 : Heap) (locs1 : List Loc), va_P E.1 vwCl w1 H1 → va_D A w1 → va_S A s.heap H1 locs1 → W p l e R s m args below meth c H1 locs1 cells slots Q (F0 m (pc + 3) ls rest)) :
    W p l e R s m args below meth c H locs cells slots Q (F0 m pc ls st0) := by
  have hF := ct_freeA X hD hS
  refine va_callv hr hS (fun q _ h => hF q h) hF (fun u t H1 locs1 ht hvm hw2 hB hz1 hk1 hS1 => ?_)
  obtain ⟨hP1, -, hD1⟩ := hB
  rw [ht] at hP1
  exact kk H1 locs1 hP1 (hD1.weaken (fun _ _ _ h => hF _ h)) hS1
theorem ct_vR {E : Ec} {A : Nat → Prop} {ws wc : va_W} {a : Array Value} (X : ctX E A s) (hP : va_P E.1 vwCl ws H) (hD : va_D A ws) (hS : va_S A s.heap H locs) (isC : List Nat) (hC : isC.map (fun i => ws[i]?) = wc.map some)
    (hr : va_Run p l e R s m args below meth c H locs cells slots 0 0 (F0 m pc ls st0) rest (ctV E wc wc H.size a) (va_A wc H.size))
    (kk : ∀ (H1 : Heap) (locs1 : List Loc), va_P E.1 vwCl ws H1 → va_D A ws → va_S A s.heap H1 locs1 → W p l e R s m args below meth c H1 locs1 cells slots Q (F0 m (pc + 3) ls rest)) :
    W p l e R s m args below meth c H locs cells slots Q (F0 m pc ls st0) := ct_v X hP hD hS isC hr hC rfl (ct_same isC wc ws hC) kk
theorem ct_vN {E : Ec} {A : Nat → Prop} {ws : va_W} {a : Array Value} (X : ctX E A s) (hP : va_P E.1 vwCl ws H) (hD : va_D A ws) (hS : va_S A s.heap H locs)
    (hr : va_Run p l e R s m args below meth c H locs cells slots 0 0 (F0 m pc ls st0) rest (ctV E [] [] H.size a) (va_A [] H.size))
    (kk : ∀ (H1 : Heap) (locs1 : List Loc), va_P E.1 vwCl ws H1 → va_D A ws → va_S A s.heap H1 locs1 → W p l e R s m args below meth c H1 locs1 cells slots Q (F0 m (pc + 3) ls rest)) :
    W p l e R s m args below meth c H locs cells slots Q (F0 m pc ls st0) := ct_vR X hP hD hS [] rfl hr kk
end CT2
