/-! LAYER 2: THE CALLS, 23: words -/
def wCh (k : Nat) : Nat := wdL.getD k 0
def wS (w : Nat) : Nat := [1, 6, 11, 17, 22, 25, 29, 33, 38, 44, 50, 54, 62, 69, 75, 79, 85, 91, 94, 97, 103, 106, 112, 117, 122, 129].getD w 0
def wN (w : Nat) : Nat := [4, 4, 5, 4, 2, 3, 3, 4, 5, 5, 3, 7, 6, 5, 3, 5, 5, 2, 2, 5, 2, 5, 4, 4, 6, 0].getD w 0
def wT (w : Nat) : Bool := decide (wS (w + 1) = wS w + wN w + 1) && (decide (wCh (wS w + wN w) = 32) && (decide (1 ≤ wS w) && (decide (wS w + wN w ≤ 128) && decide (wN w ≤ 7))))
theorem w_t : ∀ w, w < 25 → wT w = true := by decide +kernel
theorem w_f {w : Nat} (hw : w < 25) : wS (w + 1) = wS w + wN w + 1 ∧ wCh (wS w + wN w) = 32 ∧ 1 ≤ wS w ∧ wS w + wN w ≤ 128 ∧ wN w ≤ 7 := by
  have h := w_t w hw
  unfold wT at h
  rw [Bool.and_eq_true, Bool.and_eq_true, Bool.and_eq_true, Bool.and_eq_true, decide_eq_true_eq, decide_eq_true_eq, decide_eq_true_eq, decide_eq_true_eq, decide_eq_true_eq] at h
  exact h
def wU (w j : Nat) : Bool := if j < wN w then !decide (wCh (wS w + j) = 32) else true
theorem wu_t : ∀ w, w < 25 → ∀ j, j < 7 → wU w j = true := by decide +kernel
theorem w_n {w j : Nat} (hw : w < 25) (hj : j < wN w) : wCh (wS w + j) ≠ 32 := by
  have h := wu_t w hw j (by have := (w_f hw).2.2.2.2; omega)
  unfold wU at h
  rw [if_pos hj] at h
  intro e
  rw [decide_eq_true e] at h
  cases h
theorem wch_t : ∀ k, k < 129 → wCh k < 256 := by decide +kernel
def sO (si : Nat) : Nat := if si = 0 then 1 else if si = 1 then 85 else 94
def sA (si : Nat) : Nat := if si = 0 then 0 else if si = 1 then 16 else 18
def sE (si : Nat) : Nat := if si = 0 then 16 else if si = 1 then 18 else 25
def chT (si j : Nat) : Bool := if j < q_slen.getD si 0 then decide (q_chv si j = nI (wCh (sO si + j))) else true
theorem ch_t : ∀ si, si < 3 → ∀ j, j < 84 → chT si j = true := by decide +kernel
theorem si_t : ∀ si, si < 3 → q_slen.getD si 0 + sO si = wS (sE si) ∧ sO si = wS (sA si) ∧ q_slen.getD si 0 ≤ 84 ∧ sA si ≤ sE si ∧ sE si ≤ 25 := by decide +kernel
theorem sch_n {si k : Nat} (hs : si < 3) (h1 : sO si ≤ k) (h2 : k < wS (sE si)) : q_sch si (nI (k - sO si)) = some (nI (wCh k)) := by
  obtain ⟨t1, t2, t3, t4, t5⟩ := si_t si hs
  have h := ch_t si hs (k - sO si) (by omega)
  unfold chT at h
  rw [if_pos (by omega)] at h
  have h' := of_decide_eq_true h
  unfold q_sch
  rw [nI_t (by omega), if_pos (by omega)]
  show some (q_chv si (k - sO si)) = _
  rw [h', show sO si + (k - sO si) = k by omega]
/-- the bytes from i on are the characters from k on, all ahead of e -/
def lkL (z : Nat → Int) (e : Nat) : Nat → Nat → Nat → Bool
  | _, _, 0 => true
  | i, k, l + 1 => (decide (i < e) && decide (z i = (wCh k : Int))) && lkL z e (i + 1) (k + 1) l
def mB (z : Nat → Int) (q e w : Nat) : Bool := lkL z e q (wS w) (wN w) && decide (q + wN w = e)
def fI (z : Nat → Int) (q e : Nat) : Nat → Nat → Option Nat
  | 0, _ => none
  | n + 1, w => if mB z q e w = true then some w else fI z q e n (w + 1)
def wo (K1 : Int32 → qS → qR) (K0 : qS → qR) (u : qS) (a : Nat) : Option Nat → qR
  | none => K0 u
  | some w => K1 (nI (w - a)) u
section
variable {N : Nat} {z : Nat → Int} {u v : qS}
theorem chars_it {si q e : Nat} {num : Int32} {K1 : Int32 → qS → qR} {K0 : qS → qR} (hs : si < 3) (hT : TP N z) (h : TC N z u) (he : e ≤ N) : ∀ (l i k : Nat) (lk : Bool) (g : Nat), sO si ≤ k → k + l ≤ wS (sE si) → (∀ j, j < l → wCh (k + j) ≠ 32) → i + l < 1000 →
    q_it4 (m_X8_word_L12 67 si (nI q) (nI e) K1 K0) (l + g) num (nI i) (bI lk) (nI (k - sO si)) u = q_it4 (m_X8_word_L12 67 si (nI q) (nI e) K1 K0) g num (nI (i + l)) (bI (lk && lkL z e i k l)) (nI (k + l - sO si)) u
  | 0, i, k, lk, g, h1, h2, h3, h4 => by
    rw [Nat.zero_add]
    unfold lkL
    rw [Bool.and_true]; rfl
  | l + 1, i, k, lk, g, h1, h2, h3, h4 => by
    obtain ⟨t1, t2, t3, t4, t5⟩ := si_t si hs
    have hN := hT.1
    have ih := fun lk => chars_it (q := q) (num := num) (K1 := K1) (K0 := K0) hs hT h he l (i + 1) (k + 1) lk g (by omega) (by omega) (fun j hj => by rw [show k + 1 + j = k + (j + 1) by omega]; exact h3 (j + 1) (by omega)) (by omega)
    have hc := h3 0 (by omega)
    rw [Nat.add_zero] at hc
    have h129 : wS (sE si) ≤ 129 := by
      have hsi : si = 0 ∨ si = 1 ∨ si = 2 := by omega
      rcases hsi with rfl | rfl | rfl <;> decide
    have hw := wch_t k (by omega)
    rw [show l + 1 + g = (l + g) + 1 by omega]
    show m_X8_word_L12 _ _ _ _ _ _ (q_it4 (m_X8_word_L12 67 si (nI q) (nI e) K1 K0) (l + g)) _ _ _ _ _ = _
    have s1 : q_sch si (nI (k - sO si)) = some (nI (wCh k)) := sch_n hs h1 (by omega)
    have s2 : (q_sln si).toInt = ((q_slen.getD si 0 : Nat) : Int) := (q_slen_ok si hs).1
    generalize q_it4 (m_X8_word_L12 67 si (nI q) (nI e) K1 K0) (l + g) = self at ih ⊢
    generalize q_it4 (m_X8_word_L12 67 si (nI q) (nI e) K1 K0) g = self2 at ih ⊢
    unfold m_X8_word_L12 lkL
    simp only [lit_n]
    rw [s2, if_neg (by rw [nI_t (by omega)]; omega), s1, Option.bind_some, q_jn, if_neg (by rw [nI_t (by omega), nI_t (by omega)]; omega), q_jn, q_jn, nI_add, nI_add, show k - sO si + 1 = k + 1 - sO si by omega]
    have fin : ∀ b2 : Bool, b2 = (lk && (decide (i < e) && decide (z i = (wCh k : Int)))) → self num (nI (i + 1)) (bI b2) (nI (k + 1 - sO si)) u = self2 num (nI (i + (l + 1))) (bI (lk && (decide (i < e) && decide (z i = (wCh k : Int)) && lkL z e (i + 1) (k + 1) l))) (nI (k + (l + 1) - sO si)) u := fun b2 hb => by
      rw [ih b2, hb, Bool.and_assoc, show i + 1 + l = i + (l + 1) by omega, show k + 1 + l = k + (l + 1) by omega]
    cases lk with
    | false =>
      rw [if_pos bI_0]
      exact fin false rfl
    | true =>
      rw [if_neg bI_1]
      by_cases e1 : i < e
      · have hzi := hT.2.1 i (by omega)
        rw [if_neg (by rw [nI_t (by omega), nI_t (by omega)]; omega), ald_n (by omega) (by omega), Option.bind_some, show 67 + 1 = 68 from rfl, h.2 i (by omega), nI_t (show wCh k < _ by omega)]
        by_cases e2 : z i = (wCh k : Int)
        · rw [if_pos e2]
          exact fin true (by rw [decide_eq_true e1, decide_eq_true e2]; rfl)
        · rw [if_neg e2]
          exact fin false (by rw [decide_eq_false e2, Bool.and_false, Bool.and_false])
      · rw [if_pos (by rw [nI_t (by omega), nI_t (by omega)]; omega)]
        exact fin false (by rw [decide_eq_false e1, Bool.false_and, Bool.and_false])
theorem wordC_it {si q e : Nat} {K1 : Int32 → qS → qR} {K0 : qS → qR} (hs : si < 3) (hT : TP N z) (h : TC N z u) (hq : q < e) (he : e ≤ N) : ∀ (n w f : Nat), w + n = sE si → sA si ≤ w → wS (sE si) - wS w < f → q_it4 (m_X8_word_L12 67 si (nI q) (nI e) K1 K0) f (nI (w - sA si)) (nI q) (nI 1) (nI (wS w - sO si)) u = wo K1 K0 u (sA si) (fI z q e n w)
  | 0, w, f, hw, ha, hf => by
    obtain ⟨t1, t2, t3, t4, t5⟩ := si_t si hs
    have e0 : w = sE si := by omega
    subst e0
    cases f with
    | zero => omega
    | succ f =>
      show m_X8_word_L12 _ _ _ _ _ _ _ _ _ _ _ _ = _
      unfold m_X8_word_L12
      rw [(q_slen_ok si hs).1, if_pos (by rw [nI_t (by omega)]; omega)]; rfl
  | n + 1, w, f, hw, ha, hf => by
    obtain ⟨t1, t2, t3, t4, t5⟩ := si_t si hs
    have hN := hT.1
    obtain ⟨g1, g2, g3, g4, g5⟩ := w_f (show w < 25 by omega)
    have mono : ∀ a b, a ≤ b → b ≤ 25 → wS a ≤ wS b := by
      intro a b hab hb
      induction b with
      | zero => have : a = 0 := by omega
                subst this; exact Nat.le_refl _
      | succ b ih =>
        by_cases e1 : a = b + 1
        · subst e1; exact Nat.le_refl _
        · have := ih (by omega) (by omega)
          have := (w_f (show b < 25 by omega)).1
          omega
    have m1 := mono (w + 1) (sE si) (by omega) (by omega)
    have m2 := mono (sA si) w ha (by omega)
    have ih := wordC_it (K1 := K1) (K0 := K0) hs hT h hq he n (w + 1) (f - (wN w + 1)) (by omega) (by omega) (by omega)
    have cs := chars_it (q := q) (num := nI (w - sA si)) (K1 := K1) (K0 := K0) hs hT h he (wN w) q (wS w) true (f - (wN w + 1) + 1) (by omega) (by omega) (fun j hj => w_n (by omega) hj) (by omega)
    rw [show wN w + (f - (wN w + 1) + 1) = f by omega, Bool.true_and] at cs
    refine Eq.trans cs ?_
    show m_X8_word_L12 _ _ _ _ _ _ (q_it4 (m_X8_word_L12 67 si (nI q) (nI e) K1 K0) (f - (wN w + 1))) _ _ _ _ _ = _
    have s1 : q_sch si (nI (wS w + wN w - sO si)) = some (nI 32) := by
      rw [sch_n hs (by omega) (by omega), g2]
    have h129 : wS (sE si) ≤ 129 := by
      have hsi : si = 0 ∨ si = 1 ∨ si = 2 := by omega
      rcases hsi with rfl | rfl | rfl <;> decide
    generalize q_it4 (m_X8_word_L12 67 si (nI q) (nI e) K1 K0) (f - (wN w + 1)) = self at ih ⊢
    unfold m_X8_word_L12 fI mB
    simp only [lit_n]
    rw [(q_slen_ok si hs).1, if_neg (by rw [nI_t (by omega)]; omega), s1, Option.bind_some, q_jn, if_pos rfl, q_jn, nI_add, nI_add, show wS w + wN w - sO si + 1 = wS (w + 1) - sO si by omega, show w - sA si + 1 = w + 1 - sA si by omega]
    cases lkL z e q (wS w) (wN w) with
    | false =>
      rw [if_pos bI_0, Bool.false_and, if_neg (by decide)]; exact ih
    | true =>
      rw [if_neg bI_1, Bool.true_and, nI_t (by omega), nI_t (by omega)]
      by_cases e1 : q + wN w = e
      · rw [if_pos (by omega), decide_eq_true e1, if_pos rfl]; rfl
      · rw [if_neg (by omega), decide_eq_false e1, if_neg (by decide)]; exact ih
/-- the class's number of a word -/
def wC (z : Nat → Int) (si q e : Nat) : Nat := match fI z q e (sE si - sA si) (sA si) with
  | none => 2
  | some w => 256 + (w - sA si)
theorem word_c {si q e : Nat} (hs : si < 3) (hT : TP N z) (h : TC N z u) (hq : q < e) (he : e ≤ N) : m_X8_word 67 si (nI q) (nI e) u = some (nI (wC z si q e), u) := by
  obtain ⟨t1, t2, t3, t4, t5⟩ := si_t si hs
  have := wordC_it (K1 := fun x4 u_9 => some (nI 256 + x4, u_9)) (K0 := fun u_10 => some (nI 2, u_10)) hs hT h hq he (sE si - sA si) (sA si) q_F (by omega) (Nat.le_refl _) (by rw [q_F_eq]; omega)
  rw [show sA si - sA si = 0 by omega, show wS (sA si) - sO si = 0 by omega] at this
  unfold m_X8_word
  simp only [lit_n]
  rw [this]
  unfold wC
  cases fI z q e (sE si - sA si) (sA si) with
  | none => rfl
  | some w => show some (nI 256 + nI (w - sA si), u) = _; rw [nI_add]
end
