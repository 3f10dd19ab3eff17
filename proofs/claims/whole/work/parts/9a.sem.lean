/-! LAYER 2: THE CALLS, 27: what a text's code says -/
def rop (o : Nat) : Nat := [0, 1, 5, 9, 4, 2, 3, 6, 7, 8, 10, 11].getD o 0
def xq (t : Nat × Nat) : List (Nat × Nat) := if t.1 = 2 then [(0, t.2), (5, 0)] else [(rop t.1, t.2)]
def xp : List (Nat × Nat) → List (Nat × Nat)
  | [] => []
  | t :: r => xq t ++ xp r
theorem xp_app : ∀ (A B : List (Nat × Nat)), xp (A ++ B) = xp A ++ xp B
  | [], B => rfl
  | t :: r, B => by
    show xq t ++ xp (r ++ B) = (xq t ++ xp r) ++ xp B
    rw [xp_app r B, List.append_assoc]
theorem xp_len : ∀ A : List (Nat × Nat), A.length ≤ (xp A).length
  | [] => Nat.le_refl _
  | t :: r => by
    show r.length + 1 ≤ (xq t ++ xp r).length
    have := xp_len r
    rw [List.length_append]
    unfold xq
    split
    · show _ ≤ 2 + _; omega
    · show _ ≤ 1 + _; omega
def evC (a : Nat → Int32) : List (Nat × Nat) → List Int32 → Option (List Int32)
  | [], st => some st
  | t :: r, st => (sC2 (nI t.1) (nI t.2) a st).bind (evC a r)
def evR (a : Nat → Int32) : List (Nat × Nat) → List Int32 → Option (List Int32)
  | [], st => some st
  | t :: r, st => (sR a (nI t.1) (nI t.2) st).bind (evR a r)
theorem evC_app {a : Nat → Int32} : ∀ (A B : List (Nat × Nat)) (st : List Int32), evC a (A ++ B) st = (evC a A st).bind (evC a B)
  | [], B, st => rfl
  | t :: r, B, st => by
    show (sC2 (nI t.1) (nI t.2) a st).bind (evC a (r ++ B)) = ((sC2 (nI t.1) (nI t.2) a st).bind (evC a r)).bind (evC a B)
    cases sC2 (nI t.1) (nI t.2) a st with
    | none => rfl
    | some s => exact evC_app r B s
theorem evR_app {a : Nat → Int32} : ∀ (A B : List (Nat × Nat)) (st : List Int32), evR a (A ++ B) st = (evR a A st).bind (evR a B)
  | [], B, st => rfl
  | t :: r, B, st => by
    show (sR a (nI t.1) (nI t.2) st).bind (evR a (r ++ B)) = ((sR a (nI t.1) (nI t.2) st).bind (evR a r)).bind (evR a B)
    cases sR a (nI t.1) (nI t.2) st with
    | none => rfl
    | some s => exact evR_app r B s
/-- a stretch that puts one value on the stack -/
def QS (L : List (Nat × Nat)) (d : Nat) (b : Bool) : Prop := ∀ (a : Nat → Int32) (st : List Int32), st.length + d ≤ 32 → ∃ v, evC a L st = some (v :: st) ∧ evR a (xp L) st = some (v :: st) ∧ (b = true → v = nI 0 ∨ v = nI 1)
theorem QS.mono {L : List (Nat × Nat)} {d d' : Nat} {b : Bool} (h : QS L d b) (hd : d ≤ d') : QS L d' b := fun a st hs => h a st (by omega)
theorem QS.weak {L : List (Nat × Nat)} {d : Nat} {b : Bool} (h : QS L d b) : QS L d false := fun a st hs => by
  obtain ⟨v, h1, h2, h3⟩ := h a st hs
  exact ⟨v, h1, h2, fun h => by cases h⟩
theorem QS.num (x : Nat) : QS [(0, x)] 1 false := fun a st hs => by
  refine ⟨nI x, ?_, rfl, fun h => by cases h⟩
  show (sC2 (nI 0) (nI x) a st).bind (evC a []) = _
  unfold sC2
  rw [if_pos (by decide), if_pos (by omega)]; rfl
theorem QS.ask (k : Nat) (hk : k < 9) : QS [(1, k)] 1 false := fun a st hs => by
  refine ⟨a k, ?_, ?_, fun h => by cases h⟩
  · show (sC2 (nI 1) (nI k) a st).bind (evC a []) = _
    unfold sC2
    rw [if_neg (by decide), if_pos (by decide), nI_t (by omega), if_pos (by omega)]; rfl
  · show (sR a (nI 1) (nI k) st).bind (evR a []) = _
    unfold sR
    rw [if_neg (by decide), if_pos (by decide), nI_t (by omega), if_pos (by omega)]; rfl
theorem QS.part {L : List (Nat × Nat)} {d : Nat} {b : Bool} (h : QS L d b) (n : Nat) (h1 : 1 ≤ n) (h2 : n < 10000) : QS (L ++ [(2, n)]) d false := fun a st hs => by
  obtain ⟨v, e1, e2, e3⟩ := h a st hs
  have n0 : ¬ (nI n).toInt = 0 := by rw [nI_t (by omega)]; omega
  refine ⟨v / nI n, ?_, ?_, fun h => by cases h⟩
  · rw [evC_app, e1]
    show (sC2 (nI 2) (nI n) a (v :: st)).bind (evC a []) = _
    unfold sC2
    rw [if_neg (by decide), if_neg (by decide)]
    show (if (nI 2).toInt = 2 then (if (nI n).toInt = 0 then none else some (v / nI n :: st)) else _).bind (evC a []) = _
    rw [if_pos (by decide), if_neg n0]; rfl
  · rw [xp_app, evR_app, e2]
    show (sR a (nI 5) (nI 0) (nI n :: v :: st)).bind (evR a []) = _
    unfold sR
    rw [if_neg (by decide), if_neg (by decide)]
    show (if (nI 5).toInt = 9 then _ else (bR (nI 5) v (nI n)).bind (fun z => some (z :: st))).bind (evR a []) = _
    rw [if_neg (by decide)]
    have q : bR (nI 5) v (nI n) = some (v / nI n) := by
      unfold bR
      rw [if_neg (by decide), if_neg (by decide), if_neg (by decide), if_pos (by decide)]
      unfold q_div
      rw [if_neg (fun e => n0 (by rw [e]; rfl))]
    rw [q]; rfl
theorem QS.two {A B : List (Nat × Nat)} {d1 d2 : Nat} {b1 b2 b : Bool} (o : Nat) (ho : 4 ≤ o ∧ o < 12) (hA : QS A d1 b1) (hB : QS B d2 b2) (hop : ∀ x y, (b1 = true → x = nI 0 ∨ x = nI 1) → (b2 = true → y = nI 0 ∨ y = nI 1) → bR (nI (rop o)) x y = some (bC (nI o) x y) ∧ (b = true → bC (nI o) x y = nI 0 ∨ bC (nI o) x y = nI 1)) : QS (A ++ B ++ [(o, 0)]) (max d1 (d2 + 1)) b := fun a st hs => by
  obtain ⟨x, x1, x2, x3⟩ := hA a st (by omega)
  obtain ⟨y, y1, y2, y3⟩ := hB a (x :: st) (by show st.length + 1 + d2 ≤ 32; omega)
  obtain ⟨p1, p2⟩ := hop x y x3 y3
  refine ⟨bC (nI o) x y, ?_, ?_, p2⟩
  · rw [evC_app, evC_app, x1]
    show (evC a B (x :: st)).bind (evC a [(o, 0)]) = _
    rw [y1]
    show (sC2 (nI o) (nI 0) a (y :: x :: st)).bind (evC a []) = _
    unfold sC2
    rw [if_neg (by rw [nI_t (by omega)]; omega), if_neg (by rw [nI_t (by omega)]; omega)]
    show (if (nI o).toInt = 2 then _ else if (nI o).toInt = 3 then _ else some (bC (nI o) x y :: st)).bind (evC a []) = _
    rw [if_neg (by rw [nI_t (by omega)]; omega), if_neg (by rw [nI_t (by omega)]; omega)]; rfl
  · have hx : xp [(o, 0)] = [(rop o, 0)] := by
      show xq (o, 0) ++ [] = _
      unfold xq
      rw [if_neg (by show ¬ o = 2; omega)]; rfl
    have hr : rop o ≠ 0 ∧ rop o ≠ 1 ∧ rop o ≠ 9 ∧ rop o < 12 := by
      have : ∀ o, o < 12 → (4 ≤ o → rop o ≠ 0 ∧ rop o ≠ 1 ∧ rop o ≠ 9 ∧ rop o < 12) := by decide
      exact this o ho.2 ho.1
    rw [xp_app, xp_app, evR_app, evR_app, x2]
    show (evR a (xp B) (x :: st)).bind (evR a (xp [(o, 0)])) = _
    rw [y2, hx]
    show (sR a (nI (rop o)) (nI 0) (y :: x :: st)).bind (evR a []) = _
    unfold sR
    rw [if_neg (by rw [nI_t (by omega)]; omega), if_neg (by rw [nI_t (by omega)]; omega)]
    show (if (nI (rop o)).toInt = 9 then _ else (bR (nI (rop o)) x y).bind (fun z => some (z :: st))).bind (evR a []) = _
    rw [if_neg (by rw [nI_t (by omega)]; omega), p1]; rfl
theorem op_num (o : Nat) (ho : 4 ≤ o ∧ o < 10) (x y : Int32) : bR (nI (rop o)) x y = some (bC (nI o) x y) ∧ (decide (7 ≤ o) = true → bC (nI o) x y = nI 0 ∨ bC (nI o) x y = nI 1) := by
  have h : o = 4 ∨ o = 5 ∨ o = 6 ∨ o = 7 ∨ o = 8 ∨ o = 9 := by omega
  rcases h with rfl | rfl | rfl | rfl | rfl | rfl
  · exact ⟨rfl, fun h => by cases h⟩
  · exact ⟨rfl, fun h => by cases h⟩
  · exact ⟨rfl, fun h => by cases h⟩
  · have e1 : bC (nI 7) x y = if y.toInt ≤ x.toInt then nI 0 else nI 1 := rfl
    have e2 : bR (nI (rop 7)) x y = if y.toInt ≤ x.toInt then some (nI 0) else some (nI 1) := rfl
    rw [e1, e2]
    split
    · exact ⟨rfl, fun _ => Or.inl rfl⟩
    · exact ⟨rfl, fun _ => Or.inr rfl⟩
  · have e1 : bC (nI 8) x y = if x.toInt = y.toInt then nI 1 else nI 0 := rfl
    have e2 : bR (nI (rop 8)) x y = if x.toInt = y.toInt then some (nI 1) else some (nI 0) := rfl
    rw [e1, e2]
    split
    · exact ⟨rfl, fun _ => Or.inr rfl⟩
    · exact ⟨rfl, fun _ => Or.inl rfl⟩
  · have e1 : bC (nI 9) x y = if x.toInt ≤ y.toInt then nI 0 else nI 1 := rfl
    have e2 : bR (nI (rop 9)) x y = if x.toInt ≤ y.toInt then some (nI 0) else some (nI 1) := rfl
    rw [e1, e2]
    split
    · exact ⟨rfl, fun _ => Or.inl rfl⟩
    · exact ⟨rfl, fun _ => Or.inr rfl⟩
theorem op_log (o : Nat) (ho : o = 10 ∨ o = 11) (x y : Int32) (hx : x = nI 0 ∨ x = nI 1) (hy : y = nI 0 ∨ y = nI 1) : bR (nI (rop o)) x y = some (bC (nI o) x y) ∧ (bC (nI o) x y = nI 0 ∨ bC (nI o) x y = nI 1) := by
  rcases ho with rfl | rfl <;> rcases hx with rfl | rfl <;> rcases hy with rfl | rfl <;> decide
theorem QS.bin {A B : List (Nat × Nat)} {d1 d2 : Nat} {b1 b2 : Bool} (o : Nat) (ho : 4 ≤ o ∧ o < 10) (hA : QS A d1 b1) (hB : QS B d2 b2) : QS (A ++ B ++ [(o, 0)]) (max d1 (d2 + 1)) (decide (7 ≤ o)) := QS.two o (by omega) hA hB (fun x y _ _ => op_num o ho x y)
theorem QS.lg {A B : List (Nat × Nat)} {d1 d2 : Nat} (o : Nat) (ho : o = 10 ∨ o = 11) (hA : QS A d1 true) (hB : QS B d2 true) : QS (A ++ B ++ [(o, 0)]) (max d1 (d2 + 1)) true := QS.two o (by omega) hA hB (fun x y hx hy => ⟨(op_log o ho x y (hx rfl) (hy rfl)).1, fun _ => (op_log o ho x y (hx rfl) (hy rfl)).2⟩)
theorem QS.no {L : List (Nat × Nat)} {d : Nat} (h : QS L d true) : QS (L ++ [(3, 0)]) d true := fun a st hs => by
  obtain ⟨v, e1, e2, e3⟩ := h a st hs
  refine ⟨nI 1 - v, ?_, ?_, fun _ => ?_⟩
  · rw [evC_app, e1]
    show (sC2 (nI 3) (nI 0) a (v :: st)).bind (evC a []) = _
    unfold sC2
    rw [if_neg (by decide), if_neg (by decide)]
    show (if (nI 3).toInt = 2 then _ else if (nI 3).toInt = 3 then some ((if v.toInt = 0 then nI 1 else nI 0) :: st) else _).bind (evC a []) = _
    rw [if_neg (by decide), if_pos (by decide)]
    rcases e3 rfl with e | e <;> rw [e] <;> rfl
  · rw [xp_app, evR_app, e2]
    show (sR a (nI 9) (nI 0) (v :: st)).bind (evR a []) = _
    unfold sR
    rw [if_neg (by decide), if_neg (by decide)]
    show (if (nI 9).toInt = 9 then some ((nI 1 - v) :: st) else _).bind (evR a []) = _
    rw [if_pos (by decide)]; rfl
  · rcases e3 rfl with e | e <;> rw [e] <;> decide
/-! the code as it lies in the rows -/
def eI (t : Nat × Nat) : Int32 := (nI t.2 <<< (nI 4 &&& nI 31)) ||| nI t.1
theorem eI_n {x o : Nat} (hx : x < 10000) (ho : o < 16) : eI (o, x) = nI (16 * x + o) := by
  unfold eI
  show (nI x <<< (nI 4 &&& nI 31)) ||| nI o = _
  rw [pk_shlN (nI 4 &&& nI 31) 4 (by decide) (by omega)]
  apply Int32.toBitVec_inj.mp
  apply BitVec.eq_of_toNat_eq
  rw [Int32.toBitVec_or, BitVec.toNat_or, pk_tn (by omega), pk_tn (by omega), pk_tn (by omega)]
  have := Nat.two_pow_add_eq_or_of_lt (show o < 2 ^ 4 by omega) x
  rw [Nat.mul_comm x (2 ^ 4)]
  omega
theorem eI_f {x o : Nat} (hx : x < 10000) (ho : o < 16) : eI (o, x) &&& nI 15 = nI o ∧ eI (o, x) >>> (nI 4 &&& nI 31) = nI x := by
  rw [eI_n hx ho]
  refine ⟨?_, ?_⟩
  · rw [pk_andN (by omega) 4 (by decide), show (16 * x + o) % 2 ^ 4 = o by omega]
  · rw [pk_shrN (by omega) (nI 4 &&& nI 31) 4 (by decide), show (16 * x + o) / 2 ^ 4 = x by omega]
def okI (t : Nat × Nat) : Prop := t.1 < 12 ∧ t.2 < 10000
theorem mC_ev {c a : Nat → Int32} : ∀ (L : List (Nat × Nat)) (i : Nat) (st : List Int32), (∀ t, t ∈ L → okI t) → (∀ j, j < L.length → c (i + j) = eI (L.getD j (0, 0))) → mC c a i L.length st = evC a L st
  | [], i, st, _, _ => rfl
  | t :: r, i, st, ho, h => by
    have h0 := h 0 (by show 0 < r.length + 1; omega)
    have ok := ho t (List.mem_cons_self)
    have f := eI_f (o := t.1) (x := t.2) ok.2 (by have := ok.1; omega)
    have h0' : c i = eI (t.1, t.2) := h0
    show (sC a (c i) st).bind (mC c a (i + 1) r.length) = (sC2 (nI t.1) (nI t.2) a st).bind (evC a r)
    unfold sC
    rw [h0', f.1, f.2]
    cases sC2 (nI t.1) (nI t.2) a st with
    | none => rfl
    | some s => exact mC_ev r (i + 1) s (fun t ht => ho t (List.mem_cons_of_mem _ ht)) (fun j hj => by
        have := h (j + 1) (by show j + 1 < r.length + 1; omega)
        rw [show i + 1 + j = i + (j + 1) by omega]; exact this)
theorem mR_ev {op ar a : Nat → Int32} : ∀ (L : List (Nat × Nat)) (i : Nat) (st : List Int32), (∀ j, j < L.length → op (i + j) = nI (L.getD j (0, 0)).1 ∧ ar (i + j) = nI (L.getD j (0, 0)).2) → mR op ar a i L.length st = evR a L st
  | [], i, st, _ => rfl
  | t :: r, i, st, h => by
    have h0 := h 0 (by show 0 < r.length + 1; omega)
    have h1 : op i = nI t.1 := h0.1
    have h2 : ar i = nI t.2 := h0.2
    show (sR a (op i) (ar i) st).bind (mR op ar a (i + 1) r.length) = (sR a (nI t.1) (nI t.2) st).bind (evR a r)
    rw [h1, h2]
    cases sR a (nI t.1) (nI t.2) st with
    | none => rfl
    | some s => exact mR_ev r (i + 1) s (fun j hj => by
        have := h (j + 1) (by show j + 1 < r.length + 1; omega)
        rw [show i + 1 + j = i + (j + 1) by omega]; exact this)
theorem QS.sg {c op ar : Nat → Int32} {L : List (Nat × Nat)} {d i i2 : Nat} {b : Bool} (h : QS L d b) (ho : ∀ t, t ∈ L → okI t) (hc : ∀ j, j < L.length → c (i + j) = eI (L.getD j (0, 0))) (hr : ∀ j, j < (xp L).length → op (i2 + j) = nI ((xp L).getD j (0, 0)).1 ∧ ar (i2 + j) = nI ((xp L).getD j (0, 0)).2) : Sg c op ar i L.length i2 (xp L).length d b := fun a st hs => by
  obtain ⟨v, h1, h2, h3⟩ := h a st hs
  exact ⟨v, by rw [mC_ev L i st ho hc]; exact h1, by rw [mR_ev (xp L) i2 st hr]; exact h2, h3⟩
