/-! LAYER 2, THE RELATION of the class's cells and the reference's rows -/
abbrev qX : Type := Nat → Nat → Int32
/-- a slot of the reference's row 'now': where it stands in a commune -/
def cC (j : Nat) : Nat := if j < 5 then 0 else if j < 10 then 2 else if j < 15 then 3 else if j < 20 then 1 else if j < 34 then 4 else if j < 48 then 5 else if j < 62 then 6 else if j < 76 then 7 else 8
def cS (j : Nat) : Nat := if j = 0 then 0 else if j = 1 then 1 else if j = 2 then 10 else if j = 3 then 6 else if j = 4 then 8 else if j < 10 then j - 5 else if j < 15 then j - 10 else if j < 20 then j - 15 else if j < 34 then j - 20 else if j < 48 then j - 34 else if j < 62 then j - 48 else if j < 76 then j - 62 else j - 76
/-- a commune (cells k .. k + 9) is the row f, with the fields g -/
def RC (k : Nat) (X : qX) (f g : Nat → Int32) : Prop :=
  (∀ j, j < 86 → X (k + cC j) (cS j) = f j) ∧ (∀ i : Nat, i < 50 → (i : Int) < 5 * (g 7).toInt → X (k + 9) i = f (86 + i) + nI 5) ∧
  X k 2 = g 8 ∧ X k 3 = g 9 ∧ X k 4 = g 10 + nI 9 ∧ X k 5 = g 11 + nI 4 ∧ X k 7 = g 6 ∧ X k 9 = g 7
def bLo (j : Nat) : Int := if j = 1 then -2147483648 else if 86 ≤ j then -5 else 0
def bHi (j : Nat) : Int := if j = 0 then 20000 else if j = 1 then 2147483647 else if j = 2 then 150 else if j = 3 then 1023 else if j = 4 then 14 else if j < 10 then 9999 else if j < 15 then 100 else if j < 20 then 999 else if j < 34 then 4 else if j < 48 then 9 else if j < 62 then 99 else if j < 76 then 99 else if j < 86 then 20 else 4
/-- the bounds of a row's numbers -/
def BC (f g : Nat → Int32) : Prop :=
  (∀ j, j < 136 → bLo j ≤ (f j).toInt ∧ (f j).toInt ≤ bHi j) ∧ (∀ t : Nat, (t : Int) < (f 4).toInt → (f (20 + t)).toInt < (g 6).toInt) ∧
  (∀ p : Nat, (g 6).toInt ≤ p → p < 5 → f (5 + p) = nI 0 ∧ f (10 + p) = nI 0) ∧ (∀ i : Nat, 5 * (g 7).toInt ≤ i → i < 50 → f (86 + i) = nI 0)
def BG (g : Nat → Int32) : Prop := (0 ≤ (g 6).toInt ∧ (g 6).toInt ≤ 5) ∧ (0 ≤ (g 7).toInt ∧ (g 7).toInt ≤ 10) ∧ (0 ≤ (g 8).toInt ∧ (g 8).toInt ≤ 1000) ∧ (0 ≤ (g 9).toInt ∧ (g 9).toInt ≤ 1000) ∧
  (-8 ≤ (g 10).toInt ∧ (g 10).toInt ≤ 90) ∧ (-3 ≤ (g 11).toInt ∧ (g 11).toInt ≤ 48)
theorem cC_in : ∀ i, i < 86 → ∀ j, j < 86 → cC i = cC j → cS i = cS j → i = j := by decide +kernel
theorem cC_inj {i j : Nat} (hi : i < 86) (hj : j < 86) (h1 : cC i = cC j) (h2 : cS i = cS j) : i = j := cC_in i hi j hj h1 h2
theorem cC_lt : ∀ j, j < 86 → cC j < 9 := by decide +kernel
theorem cC_0 : ∀ j, j < 86 → cC j = 0 → cS j = 0 ∨ cS j = 1 ∨ cS j = 10 ∨ cS j = 6 ∨ cS j = 8 := by decide +kernel
theorem RC.at {k : Nat} {X : qX} {f g : Nat → Int32} (h : RC k X f g) {c s : Nat} (j : Nat) (hj : j < 86) (hc : cC j = c) (hs : cS j = s) : X (k + c) s = f j := by
  subst hc; subst hs; exact h.1 j hj
section
variable {k : Nat} {X : qX} {f g : Nat → Int32}
theorem RC.week (h : RC k X f g) : X k 0 = f 0 := h.1 0 (by omega)
theorem RC.state (h : RC k X f g) : X k 1 = f 1 := h.1 1 (by omega)
theorem RC.lines (h : RC k X f g) : X k 10 = f 2 := h.1 2 (by omega)
theorem RC.fences (h : RC k X f g) : X k 6 = f 3 := h.1 3 (by omega)
theorem RC.trees (h : RC k X f g) : X k 8 = f 4 := h.1 4 (by omega)
theorem RC.votes (h : RC k X f g) {p : Nat} (hp : p < 5) : X (k + 2) p = f (5 + p) := h.at _ (by omega) (by unfold cC; simp (disch := omega) only [if_pos, if_neg]) (by unfold cS; simp (disch := omega) only [if_pos, if_neg]; omega)
theorem RC.seats (h : RC k X f g) {p : Nat} (hp : p < 5) : X (k + 3) p = f (10 + p) := h.at _ (by omega) (by unfold cC; simp (disch := omega) only [if_pos, if_neg]) (by unfold cS; simp (disch := omega) only [if_pos, if_neg]; omega)
theorem RC.store (h : RC k X f g) {p : Nat} (hp : p < 5) : X (k + 1) p = f (15 + p) := h.at _ (by omega) (by unfold cC; simp (disch := omega) only [if_pos, if_neg]) (by unfold cS; simp (disch := omega) only [if_pos, if_neg]; omega)
theorem RC.tparty (h : RC k X f g) {t : Nat} (ht : t < 14) : X (k + 4) t = f (20 + t) := h.at _ (by omega) (by unfold cC; simp (disch := omega) only [if_pos, if_neg]) (by unfold cS; simp (disch := omega) only [if_pos, if_neg]; omega)
theorem RC.tplace (h : RC k X f g) {t : Nat} (ht : t < 14) : X (k + 5) t = f (34 + t) := h.at _ (by omega) (by unfold cC; simp (disch := omega) only [if_pos, if_neg]) (by unfold cS; simp (disch := omega) only [if_pos, if_neg]; omega)
theorem RC.tage (h : RC k X f g) {t : Nat} (ht : t < 14) : X (k + 6) t = f (48 + t) := h.at _ (by omega) (by unfold cC; simp (disch := omega) only [if_pos, if_neg]) (by unfold cS; simp (disch := omega) only [if_pos, if_neg]; omega)
theorem RC.hang (h : RC k X f g) {t : Nat} (ht : t < 14) : X (k + 7) t = f (62 + t) := h.at _ (by omega) (by unfold cC; simp (disch := omega) only [if_pos, if_neg]) (by unfold cS; simp (disch := omega) only [if_pos, if_neg]; omega)
theorem RC.hunger (h : RC k X f g) {e : Nat} (he : e < 10) : X (k + 8) e = f (76 + e) := h.at _ (by omega) (by unfold cC; simp (disch := omega) only [if_pos, if_neg]) (by unfold cS; simp (disch := omega) only [if_pos, if_neg]; omega)
theorem RC.taste (h : RC k X f g) {i : Nat} (hi : i < 50) (he : (i : Int) < 5 * (g 7).toInt) : X (k + 9) i = f (86 + i) + nI 5 := h.2.1 i hi he
theorem RC.bad (h : RC k X f g) : X k 2 = g 8 := h.2.2.1
theorem RC.wasps (h : RC k X f g) : X k 3 = g 9 := h.2.2.2.1
theorem RC.chairs (h : RC k X f g) : X k 4 = g 10 + nI 9 := h.2.2.2.2.1
theorem RC.every (h : RC k X f g) : X k 5 = g 11 + nI 4 := h.2.2.2.2.2.1
theorem RC.parties (h : RC k X f g) : X k 7 = g 6 := h.2.2.2.2.2.2.1
theorem RC.eaters (h : RC k X f g) : X k 9 = g 7 := h.2.2.2.2.2.2.2
/-- only the commune's own cells count -/
theorem RC.fr {X' : qX} (h : RC k X f g) (hx : ∀ c, k ≤ c → c < k + 10 → X' c = X c) : RC k X' f g := by
  refine ⟨fun j hj => ?_, fun i hi he => ?_, ?_, ?_, ?_, ?_, ?_, ?_⟩
  · have := cC_lt j hj
    rw [hx _ (by omega) (by omega)]; exact h.1 j hj
  · rw [hx _ (by omega) (by omega)]; exact h.2.1 i hi he
  · rw [hx _ (by omega) (by omega)]; exact h.bad
  · rw [hx _ (by omega) (by omega)]; exact h.wasps
  · rw [hx _ (by omega) (by omega)]; exact h.chairs
  · rw [hx _ (by omega) (by omega)]; exact h.every
  · rw [hx _ (by omega) (by omega)]; exact h.parties
  · rw [hx _ (by omega) (by omega)]; exact h.eaters
theorem RC.gr {g' : Nat → Int32} (h : RC k X f g) (h6 : g' 6 = g 6) (h7 : g' 7 = g 7) (h8 : g' 8 = g 8) (h9 : g' 9 = g 9) (h10 : g' 10 = g 10) (h11 : g' 11 = g 11) : RC k X f g' := by
  unfold RC; rw [h6, h7, h8, h9, h10, h11]; exact h
theorem RC.rw {f' : Nat → Int32} (h : RC k X f g) (hf : ∀ j, j < 136 → f' j = f j) : RC k X f' g := by
  refine ⟨fun j hj => ?_, fun i hi he => ?_, h.2.2⟩
  · rw [hf j (by omega)]; exact h.1 j hj
  · rw [hf _ (by omega)]; exact h.2.1 i hi he
/-- both are changed at one slot -/
theorem RC.up {X' : qX} {f' : Nat → Int32} {v : Int32} {c s : Nat} (h : RC k X f g) (j : Nat) (hj : j < 86) (hc : cC j = c) (hs : cS j = s)
    (hX : ∀ a, X' a = if a = k + c then upd (X (k + c)) s v else X a) (hf : ∀ i, i < 136 → f' i = if i = j then v else f i) : RC k X' f' g := by
  subst hc; subst hs
  have hlt := cC_lt j hj
  have hs0 : ∀ s, s = 2 ∨ s = 3 ∨ s = 4 ∨ s = 5 ∨ s = 7 ∨ s = 9 → X' k s = X k s := by
    intro s hs
    rw [hX]
    split
    · rename_i e
      have e0 : cC j = 0 := by omega
      have := cC_0 j hj e0
      rw [upd_g, if_neg (by omega), e0]; rfl
    · rfl
  refine ⟨fun i hi => ?_, fun i hi he => ?_, ?_, ?_, ?_, ?_, ?_, ?_⟩
  · rw [hX, hf i (by omega)]
    split
    · rename_i e
      rw [upd_g]
      by_cases hij : i = j
      · subst hij; rw [if_pos rfl, if_pos rfl]
      · rw [if_neg hij, if_neg (fun e2 => hij (cC_inj hi hj (by omega) e2)), ← h.1 i hi]
        rw [show cC i = cC j by omega]
    · rename_i e
      rw [if_neg (fun e2 => e (by rw [e2])), h.1 i hi]
  · rw [hX, if_neg (by omega), hf _ (by omega), if_neg (by omega)]; exact h.2.1 i hi he
  · rw [hs0 _ (by omega)]; exact h.bad
  · rw [hs0 _ (by omega)]; exact h.wasps
  · rw [hs0 _ (by omega)]; exact h.chairs
  · rw [hs0 _ (by omega)]; exact h.every
  · rw [hs0 _ (by omega)]; exact h.parties
  · rw [hs0 _ (by omega)]; exact h.eaters
theorem RC.upTaste {X' : qX} {f' : Nat → Int32} {v w : Int32} {s : Nat} (h : RC k X f g) (hs : s < 50) (hv : w = v + nI 5)
    (hX : ∀ a, X' a = if a = k + 9 then upd (X (k + 9)) s w else X a) (hf : ∀ i, i < 136 → f' i = if i = 86 + s then v else f i) : RC k X' f' g := by
  have h0 : X' k = X k := by rw [hX, if_neg (by omega)]
  refine ⟨fun i hi => ?_, fun i hi he => ?_, ?_, ?_, ?_, ?_, ?_, ?_⟩
  · have := cC_lt i hi
    rw [hX, if_neg (by omega), hf i (by omega), if_neg (by omega)]; exact h.1 i hi
  · rw [hX, if_pos rfl, hf _ (by omega), upd_g]
    split
    · rw [if_pos (by omega), hv]
    · rw [if_neg (by omega)]; exact h.2.1 i hi he
  all_goals rw [h0]
  · exact h.bad
  · exact h.wasps
  · exact h.chairs
  · exact h.every
  · exact h.parties
  · exact h.eaters
theorem BC.rw {f' : Nat → Int32} (h : BC f g) (hf : ∀ j, j < 136 → f' j = f j) : BC f' g := by
  refine ⟨fun j hj => ?_, fun t ht => ?_, fun p hp h5 => ?_, fun i hi h50 => ?_⟩
  · rw [hf j hj]; exact h.1 j hj
  · rw [hf 4 (by omega)] at ht
    have := h.1 4 (by omega)
    have hb : bHi 4 = 14 := rfl
    rw [hf _ (by omega)]; exact h.2.1 t ht
  · rw [hf _ (by omega), hf _ (by omega)]; exact h.2.2.1 p hp h5
  · rw [hf _ (by omega)]; exact h.2.2.2 i hi h50
theorem BC.gr {g' : Nat → Int32} (h : BC f g) (h6 : g' 6 = g 6) (h7 : g' 7 = g 7) : BC f g' := by
  unfold BC; rw [h6, h7]; exact h
/-- a slot that is changed within its bounds -/
theorem BC.up {f' : Nat → Int32} {v : Int32} (h : BC f g) (hG : BG g) (j : Nat) (hj : j < 136) (hv : bLo j ≤ v.toInt ∧ v.toInt ≤ bHi j)
    (hf : ∀ i, i < 136 → f' i = if i = j then v else f i)
    (h4 : j ≠ 4) (ht : 20 ≤ j → j < 34 → v.toInt < (g 6).toInt) (hp : 5 ≤ j → j < 10 → (g 6).toInt ≤ ((j - 5 : Nat) : Int) → v = nI 0) (hq : 10 ≤ j → j < 15 → (g 6).toInt ≤ ((j - 10 : Nat) : Int) → v = nI 0) (ha : 86 ≤ j → 5 * (g 7).toInt ≤ ((j - 86 : Nat) : Int) → v = nI 0) : BC f' g := by
  have hb : bHi 4 = 14 := rfl
  have h40 := h.1 4 (by omega)
  refine ⟨fun i hi => ?_, fun t h1 => ?_, fun p h1 h5 => ?_, fun i h1 h50 => ?_⟩
  · rw [hf i hi]; split
    · rename_i e; rw [e]; exact hv
    · exact h.1 i hi
  · rw [hf 4 (by omega), if_neg (fun e => h4 e.symm)] at h1
    rw [hf _ (by omega)]; split
    · exact ht (by omega) (by omega)
    · exact h.2.1 t h1
  · rw [hf _ (by omega), hf _ (by omega)]
    refine ⟨?_, ?_⟩
    · split
      · exact hp (by omega) (by omega) (by omega)
      · exact (h.2.2.1 p h1 h5).1
    · split
      · exact hq (by omega) (by omega) (by omega)
      · exact (h.2.2.1 p h1 h5).2
  · rw [hf _ (by omega)]; split
    · exact ha (by omega) (by omega)
    · exact h.2.2.2 i h1 h50
end
