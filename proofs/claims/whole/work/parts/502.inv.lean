/-! the invariant between the class's groups and the reference -/
theorem sI_1 (S : Gr) (k j : Nat) (x : Int32) : (sI S k x).1 j = if j = k then x else S.1 j := rfl
theorem sI_2 (S : Gr) (k : Nat) (x : Int32) : (sI S k x).2 = S.2 := rfl
theorem sA_1 (S : Gr) (k i : Nat) (x : Int32) : (sA S k i x).1 = S.1 := rfl
theorem sA_2 (S : Gr) (k i j : Nat) (x : Int32) : (sA S k i x).2 j = if j = k then upd (S.2 k) i x else S.2 j := rfl
theorem sR_1 (S : Gr) (k : Nat) (f : Nat → Int32) : (sR S k f).1 = S.1 := rfl
theorem sR_2 (S : Gr) (k j : Nat) (f : Nat → Int32) : (sR S k f).2 j = if j = k then f else S.2 j := rfl
theorem up_e {α : Type} (f : Nat → α) (k j : Nat) (v : α) : va_up f k v j = if j = k then v else f j := rfl
theorem upd_e (f : Nat → Int32) (k j : Nat) (v : Int32) : upd f k v j = if j = k then v else f j := rfl
/-- the bit p of a set of webs or fleets -/
def tw (w : Int32) (p : Nat) : Prop := ((w >>> (zI p &&& 31)) &&& 1) = 1
def tapeOK (sz : Int32) (bs : Nat → Int32) (td : Int32) (tp : Nat → Int32) : Prop :=
  (∃ k : Nat, k ≤ 260 ∧ sz = zI k ∧ td = zI k) ∧ ∀ j : Nat, j < 260 → ∃ v : Int, 0 ≤ v ∧ v < 256 ∧ bs j = zI v ∧ tp j &&& 255 = zI v
/-- webs, fleets, hour, drawn, tensions, places, courses: class; then the reference's webs, fleets and its row -/
def seaDyn (w f h d : Int32) (te fx fy co : Nat → Int32) (w' f' : Int32) (now : Nat → Int32) : Prop :=
  w = w' ∧ f = f' ∧ (∃ a : Int, 0 ≤ a ∧ a < 256 ∧ w' = zI a) ∧ (∃ a : Int, 0 ≤ a ∧ a < 256 ∧ f' = zI a) ∧
  (∃ a : Int, 0 ≤ a ∧ a ≤ 9999 ∧ h = zI a ∧ now 80 = zI a) ∧ (∃ a : Int, 0 ≤ a ∧ a < 65536 ∧ d = zI a ∧ now 81 = zI a) ∧
  (∀ p : Nat, p < 8 → tw w' p → ∀ s : Nat, s < 8 → ∃ t : Int, 0 ≤ t ∧ t ≤ 99 ∧ te (8 * p + s) = zI t ∧ now (8 * p + s) = zI t) ∧
  (∀ g : Nat, g < 8 → tw f' g → ∃ x y c : Int, 0 ≤ x ∧ x < 24 ∧ 0 ≤ y ∧ y < 16 ∧ 0 ≤ c ∧ c ≤ 8 ∧ fx g = zI x ∧ fy g = zI y ∧ now (64 + g) = zI (24 * y + x) ∧ co g = zI c ∧ now (72 + g) = zI (if c = 8 then -1 else c))
def seaFix (wx wy fo : Nat → Int32) (w' f' : Int32) (webAt forceOf : Nat → Int32) : Prop :=
  (∀ p : Nat, p < 8 → tw w' p → ∃ x y : Int, 0 ≤ x ∧ x < 24 ∧ 0 ≤ y ∧ y < 16 ∧ wx p = zI x ∧ wy p = zI y ∧ webAt p = zI (24 * y + x)) ∧
  (∀ g : Nat, g < 8 → tw f' g → ∃ v : Int, 0 ≤ v ∧ v ≤ 99 ∧ fo g = zI v ∧ forceOf g = zI v)
def keptOK (any : Int32) (w f h d : Int32) (te fx fy co : Nat → Int32) (isK w' f' : Int32) (kept : Nat → Int32) : Prop :=
  any = isK ∧ (isK = 0 ∨ (isK = 1 ∧ seaDyn w f h d te fx fy co w' f' kept))
/-- the signs of the class by the numbers of the reference -/
def sgOf (o : Nat) : Int := ([110, 108, 43, 45, 42, 47, 37, 60, 62, 61, 33, 38, 124] : List Int).getD o 0
/-- one code: class's sign and value, reference's code; sh: how far the class's places lie on -/
def irel (sg vl code : Int32) (sh : Int) : Prop := ∃ (o : Nat) (v : Int), o ≤ 12 ∧ 0 ≤ v ∧ v ≤ 99999 ∧ sg = zI (sgOf o) ∧ code = zI (1048576 * o + v) ∧ vl = zI (if o = 11 ∨ o = 12 then v + sh else v) ∧ (o = 1 → v < 10) ∧ (2 ≤ o ∧ o ≤ 10 → v = 0)
/-- a typing of codes a to b: the operands that wait, 100: a truth value -/
def ityp (codes : Nat → Int32) (ty : Nat → Nat) (a b : Nat) : Prop := ∀ k : Nat, a ≤ k → k < b → ∃ (o : Nat) (v : Int), o ≤ 12 ∧ codes k = zI (1048576 * o + v) ∧ 0 ≤ v ∧ v ≤ 99999 ∧
  (o ≤ 1 → ty k < 31 ∧ ty (k + 1) = ty k + 1) ∧ (2 ≤ o ∧ o ≤ 6 → 2 ≤ ty k ∧ ty k ≤ 31 ∧ ty (k + 1) + 1 = ty k) ∧ (7 ≤ o ∧ o ≤ 9 → ty k = 2 ∧ ty (k + 1) = 100) ∧ (o = 10 → ty k = 100 ∧ ty (k + 1) = 100) ∧
  (11 ≤ o → ty k = 100 ∧ ty (k + 1) = 0 ∧ (k : Int) < v ∧ v ≤ b ∧ ty v.toNat = 100)
/-- a piece of codes: reference a to b, class from c on, behind it a stop; e: what is left in the end -/
def piece (sg vl codes : Nat → Int32) (a b c e : Nat) : Prop := a ≤ b ∧ (∀ j : Nat, j < b - a → irel (sg (c + j)) (vl (c + j)) (codes (a + j)) ((c : Int) - a)) ∧ sg (c + (b - a)) = 46 ∧ ∃ ty : Nat → Nat, ty a = 0 ∧ ty b = e ∧ ityp codes ty a b
def lawOK (rc : Int32) (kd ws cs : Nat → Int32) (sc : Int32) (sg vl : Nat → Int32) (cl : Int32) (codes co fr ha to' : Nat → Int32) : Prop :=
  ∃ (n m : Nat), n ≤ 16 ∧ rc = zI n ∧ cl = zI n ∧ m ≤ 240 ∧ sc = zI m ∧ ∀ q : Nat, q < n → ∃ (L A B D W S : Nat), (L = 116 ∨ L = 109 ∨ L = 120) ∧ kd q = zI L ∧ co q = zI L ∧ fr q = zI A ∧ ha q = zI B ∧ to' q = zI D ∧ D ≤ 240 ∧ ws q = zI W ∧ cs q = zI S ∧
    (L ≠ 120 → piece sg vl codes A B W 1 ∧ W + (B - A) < m) ∧ piece sg vl codes B D S 100 ∧ S + (D - B) < m
def Inv (C : Nat → Gr) (M : Gr) : Prop :=
  tapeOK ((C 1).1 1) ((C 1).2 0) (M.1 8) (M.2 7) ∧
  seaDyn ((C 13).1 0) ((C 13).1 1) ((C 13).1 9) ((C 13).1 10) ((C 13).2 4) ((C 13).2 5) ((C 13).2 6) ((C 13).2 8) (M.1 5) (M.1 6) (M.2 0) ∧
  seaFix ((C 13).2 2) ((C 13).2 3) ((C 13).2 7) (M.1 5) (M.1 6) (M.2 3) (M.2 4) ∧
  keptOK ((C 0).1 12) ((C 15).1 0) ((C 15).1 1) ((C 15).1 9) ((C 15).1 10) ((C 15).2 4) ((C 15).2 5) ((C 15).2 6) ((C 15).2 8) (M.1 54) (M.1 55) (M.1 56) (M.2 2) ∧
  lawOK ((C 11).1 0) ((C 11).2 1) ((C 11).2 2) ((C 11).2 3) ((C 11).1 4) ((C 11).2 5) ((C 11).2 6) (M.1 17) (M.2 24) (M.2 25) (M.2 26) (M.2 27) (M.2 28)
theorem tw_0 (p : Nat) : ¬ tw 0 p := by
  unfold tw
  rw [Int32.zero_shiftRight]
  decide
theorem Inv_ini : Inv Cini Mini := by
  refine ⟨⟨⟨0, by omega, rfl, rfl⟩, fun j _ => ⟨0, by omega, by omega, rfl, ?_⟩⟩, ⟨rfl, rfl, ⟨0, by omega, by omega, rfl⟩, ⟨0, by omega, by omega, rfl⟩, ⟨0, by omega, by omega, rfl, rfl⟩, ⟨1, by omega, by omega, rfl, rfl⟩, fun p _ h => absurd h (tw_0 p), fun p _ h => absurd h (tw_0 p)⟩, ⟨fun p _ h => absurd h (tw_0 p), fun p _ h => absurd h (tw_0 p)⟩, ⟨rfl, Or.inl rfl⟩, ⟨0, 0, by omega, rfl, rfl, by omega, rfl, fun q h => absurd h (by omega)⟩⟩
  show (0 : Int32) &&& 255 = zI 0
  decide
