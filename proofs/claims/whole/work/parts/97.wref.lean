/-! LAYER 2: THE CALLS, 24: words in the reference -/
def mmF (z : Nat → Int) (e q s : Nat) : Nat → Nat → Nat
  | 0, i => i
  | n + 1, i => if (decide (q + i < e) && decide (z (q + i) = (wCh (s + i) : Int))) = true then mmF z e q s n (i + 1) else i
theorem mm_p {z : Nat → Int} {e q s : Nat} : ∀ n i, mmF z e q s n i ≤ i + n ∧ (mmF z e q s n i = i + n ↔ lkL z e (q + i) (s + i) n = true)
  | 0, i => ⟨Nat.le_refl _, ⟨fun _ => rfl, fun _ => rfl⟩⟩
  | n + 1, i => by
    have ih := mm_p (z := z) (e := e) (q := q) (s := s) n (i + 1)
    unfold mmF lkL
    cases hb : (decide (q + i < e) && decide (z (q + i) = (wCh (s + i) : Int))) with
    | true =>
      rw [if_pos rfl, Bool.true_and]
      refine ⟨by omega, ?_⟩
      rw [show i + (n + 1) = i + 1 + n by omega]
      exact ih.2
    | false =>
      rw [if_neg (by decide), Bool.false_and]
      exact ⟨by omega, ⟨fun h => by omega, fun h => by cases h⟩⟩
theorem lkL_get {z : Nat → Int} {e : Nat} : ∀ l i k, lkL z e i k l = true → ∀ j, j < l → z (i + j) = (wCh (k + j) : Int)
  | 0, i, k, h, j, hj => by omega
  | l + 1, i, k, h, j, hj => by
    unfold lkL at h
    rw [Bool.and_eq_true, Bool.and_eq_true, decide_eq_true_eq, decide_eq_true_eq] at h
    by_cases e : j = 0
    · subst e; exact h.1.2
    · have := lkL_get l (i + 1) (k + 1) h.2 (j - 1) (by omega)
      rw [show i + 1 + (j - 1) = i + j by omega, show k + 1 + (j - 1) = k + j by omega] at this
      exact this
def dfT (w w' : Nat) : Bool := decide (w = w') || (!decide (wN w = wN w') || (List.range 7).any (fun j => decide (j < wN w) && !decide (wCh (wS w + j) = wCh (wS w' + j))))
set_option maxRecDepth 100000 in
theorem df_t : ∀ w, w < 25 → ∀ w', w' < 25 → dfT w w' = true := by decide +kernel
theorem mB_u {z : Nat → Int} {q e w w' : Nat} (hw : w < 25) (hw' : w' < 25) (h : mB z q e w = true) (h' : mB z q e w' = true) : w = w' := by
  have d := df_t w hw w' hw'
  unfold mB at h h'
  rw [Bool.and_eq_true, decide_eq_true_eq] at h h'
  unfold dfT at d
  rw [Bool.or_eq_true, Bool.or_eq_true, decide_eq_true_eq] at d
  rcases d with d | d | d
  · exact d
  · rw [decide_eq_true (show wN w = wN w' by omega)] at d; cases d
  · rw [List.any_eq_true] at d
    obtain ⟨j, j1, j2⟩ := d
    rw [Bool.and_eq_true, decide_eq_true_eq] at j2
    have a1 := lkL_get _ _ _ h.1 j j2.1
    have a2 := lkL_get _ _ _ h'.1 j (by omega)
    rw [decide_eq_true (show wCh (wS w + j) = wCh (wS w' + j) by omega)] at j2
    cases j2.2
theorem fI_s {z : Nat → Int} {q e : Nat} : ∀ n w r, fI z q e n w = some r → w ≤ r ∧ r < w + n ∧ mB z q e r = true
  | 0, w, r, h => by cases h
  | n + 1, w, r, h => by
    unfold fI at h
    split at h
    · rename_i hm
      have := Option.some.inj h
      subst this
      exact ⟨by omega, by omega, hm⟩
    · have := fI_s n (w + 1) r h
      exact ⟨by omega, by omega, this.2.2⟩
theorem fI_n {z : Nat → Int} {q e : Nat} : ∀ n w, fI z q e n w = none → ∀ r, w ≤ r → r < w + n → mB z q e r = false
  | 0, w, h, r, h1, h2 => by omega
  | n + 1, w, h, r, h1, h2 => by
    unfold fI at h
    split at h
    · cases h
    · rename_i hm
      by_cases e : r = w
      · subst e
        cases hh : mB z q _ r with
        | true => exact absurd hh hm
        | false => rfl
      · exact fI_n n (w + 1) h r (by omega) (by omega)
def kc (si : Nat) : Option Nat → Nat
  | none => 2
  | some w => if sA si ≤ w ∧ w < sE si then 256 + (w - sA si) else 2
theorem wC_kc {z : Nat → Int} {si q e : Nat} (hs : si < 3) : wC z si q e = kc si (fI z q e 25 0) := by
  obtain ⟨t1, t2, t3, t4, t5⟩ := si_t si hs
  unfold wC
  cases h1 : fI z q e (sE si - sA si) (sA si) with
  | none =>
    have n1 := fI_n _ _ h1
    cases h2 : fI z q e 25 0 with
    | none => rfl
    | some r =>
      obtain ⟨s1, s2, s3⟩ := fI_s _ _ _ h2
      show 2 = (if sA si ≤ r ∧ r < sE si then 256 + (r - sA si) else 2)
      rw [if_neg (fun hh => by have := n1 r (by omega) (by omega); rw [this] at s3; cases s3)]
  | some w =>
    obtain ⟨s1, s2, s3⟩ := fI_s _ _ _ h1
    cases h2 : fI z q e 25 0 with
    | none =>
      have := fI_n _ _ h2 w (by omega) (by omega)
      rw [this] at s3; cases s3
    | some r =>
      obtain ⟨r1, r2, r3⟩ := fI_s _ _ _ h2
      have : w = r := mB_u (by omega) (by omega) s3 r3
      subst this
      show 256 + (w - sA si) = (if sA si ≤ w ∧ w < sE si then 256 + (w - sA si) else 2)
      rw [if_pos (by omega)]
theorem dI_p : ∀ w, dI w + nI 1 = nI w
  | 0 => by decide
  | w + 1 => by show nI w + nI 1 = _; rw [nI_add]
def wo0 (K1 : Int32 → qS → qR) (K0 : qS → qR) (u : qS) : Option Nat → qR
  | none => K0 u
  | some w => K1 (nI w) u
section
variable {N : Nat} {z : Nat → Int} {v : qS}
theorem matR_it {q e w : Nat} {y3 : Int32} {K : Int32 → qS → qR} (hT : TP N z) (h : TV N z v) (hW : ∀ i, i < 129 → v.1 169 i = nI (wCh i)) (hq : q < e) (he : e ≤ N) (hl : ∀ p, q ≤ p → p < e → zL (z p) = true) (hw : w < 25) : ∀ n i f, i + n = wN w → n < f → q_it1 (m_X11_wordAt_L20 (nI q) (nI e) y3 (nI (wS w - 1)) K) f (nI i) v = K (nI (mmF z e q (wS w) n i)) v
  | n, i, 0, hi, hf => by omega
  | 0, i, f + 1, hi, hf => by
    obtain ⟨g1, g2, g3, g4, g5⟩ := w_f hw
    have hN := hT.1
    show m_X11_wordAt_L20 _ _ _ _ _ _ _ _ = _
    unfold m_X11_wordAt_L20
    simp only [lit_n]
    rw [nI_add, nI_add, nI_add, show wS w - 1 + 1 + i = wS w + i by omega]
    by_cases e1 : q + i < e
    · have hzl := hl (q + i) (by omega) e1
      have hz := hT.2.1 (q + i) (by omega)
      rw [if_neg (by rw [nI_t (by omega), nI_t (by omega)]; omega), ald_n (by omega) (by omega), Option.bind_some, ald_n (by omega) (by omega), Option.bind_some, hW _ (by omega), h.2 _ (by omega), show wS w + i = wS w + wN w by omega, g2, nI_t (by omega), if_neg (by
        intro e2
        rw [← e2] at hzl
        exact absurd hzl (by decide))]
      rfl
    · rw [if_pos (by rw [nI_t (by omega), nI_t (by omega)]; omega)]; rfl
  | n + 1, i, f + 1, hi, hf => by
    obtain ⟨g1, g2, g3, g4, g5⟩ := w_f hw
    have hN := hT.1
    have ih := matR_it (y3 := y3) (K := K) hT h hW hq he hl hw n (i + 1) f (by omega) (by omega)
    show m_X11_wordAt_L20 _ _ _ _ _ (q_it1 (m_X11_wordAt_L20 (nI q) (nI e) y3 (nI (wS w - 1)) K) f) _ _ = _
    generalize q_it1 (m_X11_wordAt_L20 (nI q) (nI e) y3 (nI (wS w - 1)) K) f = self at ih ⊢
    unfold m_X11_wordAt_L20 mmF
    simp only [lit_n]
    rw [nI_add, nI_add, nI_add, nI_add, show wS w - 1 + 1 + i = wS w + i by omega]
    by_cases e1 : q + i < e
    · have hc := wch_t (wS w + i) (by omega)
      rw [if_neg (by rw [nI_t (by omega), nI_t (by omega)]; omega), ald_n (by omega) (by omega), Option.bind_some, ald_n (by omega) (by omega), Option.bind_some, hW _ (by omega), h.2 _ (by omega), nI_t (by omega), decide_eq_true e1, Bool.true_and]
      by_cases e2 : z (q + i) = (wCh (wS w + i) : Int)
      · rw [if_pos e2.symm, decide_eq_true e2, if_pos rfl, q_let_s]; exact ih
      · rw [if_neg (fun h => e2 h.symm), decide_eq_false e2, if_neg (by decide)]
    · rw [if_pos (by rw [nI_t (by omega), nI_t (by omega)]; omega), decide_eq_false e1, Bool.false_and, if_neg (by decide)]
theorem skpR_it {x1 x2 x3 : Int32} {w : Nat} {K : Int32 → qS → qR} (hW : ∀ i, i < 129 → v.1 169 i = nI (wCh i)) (hw : w < 25) : ∀ n j f, j + n = wN w → n < f → q_it1 (m_X11_wordAt_L94 x1 x2 x3 K) f (nI (wS w + j)) v = K (nI (wS w + wN w)) v
  | n, j, 0, hj, hf => by omega
  | 0, j, f + 1, hj, hf => by
    obtain ⟨g1, g2, g3, g4, g5⟩ := w_f hw
    show m_X11_wordAt_L94 _ _ _ _ _ _ _ = _
    unfold m_X11_wordAt_L94
    simp only [lit_n]
    rw [ald_n (by omega) (by omega), Option.bind_some, hW _ (by omega), show wS w + j = wS w + wN w by omega, g2, if_pos rfl]
  | n + 1, j, f + 1, hj, hf => by
    obtain ⟨g1, g2, g3, g4, g5⟩ := w_f hw
    have hc := wch_t (wS w + j) (by omega)
    have hn := w_n hw (show j < wN w by omega)
    have ih := skpR_it (x1 := x1) (x2 := x2) (x3 := x3) (K := K) hW hw n (j + 1) f (by omega) (by omega)
    show m_X11_wordAt_L94 _ _ _ _ (q_it1 (m_X11_wordAt_L94 x1 x2 x3 K) f) _ _ = _
    generalize q_it1 (m_X11_wordAt_L94 x1 x2 x3 K) f = self at ih ⊢
    unfold m_X11_wordAt_L94
    simp only [lit_n]
    rw [ald_n (by omega) (by omega), Option.bind_some, hW _ (by omega), if_neg (by rw [nI_t (by omega), nI_t (by omega)]; omega), q_let_s, nI_add, show wS w + j + 1 = wS w + (j + 1) by omega]; exact ih
theorem wordR_it {q e : Nat} {K1 : Int32 → qS → qR} {K0 : qS → qR} (hT : TP N z) (h : TV N z v) (hW : ∀ i, i < 129 → v.1 169 i = nI (wCh i)) (hq : q < e) (he : e ≤ N) (hl : ∀ p, q ≤ p → p < e → zL (z p) = true) : ∀ n w f, w + n = 25 → n < f → q_it2 (m_X11_wordAt_L5 (nI q) (nI e) K1 K0) f (dI w) (nI (wS w - 1)) v = wo0 K1 K0 v (fI z q e n w)
  | n, w, 0, hw, hf => by omega
  | 0, w, f + 1, hw, hf => by
    have e0 : w = 25 := by omega
    subst e0
    show m_X11_wordAt_L5 _ _ _ _ _ _ _ _ = _
    unfold m_X11_wordAt_L5
    rw [if_pos (by decide)]; rfl
  | n + 1, w, f + 1, hw, hf => by
    have hw25 : w < 25 := by omega
    obtain ⟨g1, g2, g3, g4, g5⟩ := w_f hw25
    have hN := hT.1
    have ih := wordR_it (K1 := K1) (K0 := K0) hT h hW hq he hl n (w + 1) f (by omega) (by omega)
    have mt := fun K => matR_it (y3 := nI w) (K := K) hT h hW hq he hl hw25 (wN w) 0 q_F (by omega) (by rw [q_F_eq]; omega)
    have sk := fun K => skpR_it (v := v) (x1 := nI q) (x2 := nI e) (x3 := nI w) (K := K) hW hw25 (wN w) 0 q_F (by omega) (by rw [q_F_eq]; omega)
    obtain ⟨m1, m2⟩ := mm_p (z := z) (e := e) (q := q) (s := wS w) (wN w) 0
    rw [Nat.zero_add] at m1 m2
    rw [Nat.add_zero, Nat.add_zero] at m2
    rw [Nat.add_zero] at sk
    generalize mmF z e q (wS w) (wN w) 0 = r at mt m1 m2
    show m_X11_wordAt_L5 _ _ _ _ (q_it2 (m_X11_wordAt_L5 (nI q) (nI e) K1 K0) f) _ _ _ = _
    generalize q_it2 (m_X11_wordAt_L5 (nI q) (nI e) K1 K0) f = self at ih ⊢
    unfold m_X11_wordAt_L5 fI mB
    simp only [lit_n]
    rw [if_neg (by rw [nI_t (by omega), nI_t (by omega)]; omega), dI_p, q_let_s, mt, q_jn, nI_add, nI_add, nI_add, show wS w - 1 + 1 = wS w by omega]
    dsimp only
    rw [q_let_s]
    have cont : (q_it1 (m_X11_wordAt_L94 (nI q) (nI e) (nI w) fun x4_4 u_5 => self (nI w) x4_4 u_5) q_F (nI (wS w)) v) = wo0 K1 K0 v (fI z q e n (w + 1)) := by
      rw [sk, show wS w + wN w = wS (w + 1) - 1 by omega]; exact ih
    by_cases e1 : r = wN w
    · have e2 := m2.mp e1
      subst e1
      rw [e2, Bool.true_and, nI_t (by omega), nI_t (by omega)]
      by_cases e3 : q + wN w = e
      · rw [if_pos (by omega), ald_n (by omega) (by omega), Option.bind_some, hW _ (by omega), g2, if_pos rfl, decide_eq_true e3, if_pos rfl]; rfl
      · rw [if_neg (by omega), decide_eq_false e3, if_neg (by decide)]; exact cont
    · have e2 : lkL z e q (wS w) (wN w) = false := by
        cases hh : lkL z e q (wS w) (wN w) with
        | true => exact absurd (m2.mpr hh) e1
        | false => rfl
      rw [e2, Bool.false_and, if_neg (show ¬ false = true by decide)]
      by_cases e3 : (nI (q + r)).toInt = (nI e).toInt
      · have hc := wch_t (wS w + r) (by omega)
        have hn := w_n hw25 (show r < wN w by omega)
        rw [if_pos e3, ald_n (by omega) (by omega), Option.bind_some, hW _ (by omega), if_neg (by rw [nI_t (by omega), nI_t (by omega)]; omega)]; exact cont
      · rw [if_neg e3]; exact cont
theorem word_r {q e : Nat} (hT : TP N z) (h : TV N z v) (hW : ∀ i, i < 129 → v.1 169 i = nI (wCh i)) (hq : q < e) (he : e ≤ N) (hl : ∀ p, q ≤ p → p < e → zL (z p) = true) : m_X11_wordAt (nI q) (nI e) v = some (enc (fI z q e 25 0), v) := by
  have := wordR_it (K1 := fun x3 u_6 => some (x3, u_6)) (K0 := fun u_7 => some (mI, u_7)) hT h hW hq he hl 25 0 q_F (by omega) (by rw [q_F_eq]; omega)
  rw [show wS 0 - 1 = 0 from rfl, show dI 0 = mI from rfl] at this
  unfold m_X11_wordAt
  simp only [lit_n, mI_lit]
  rw [this]
  cases fI z q e 25 0 <;> rfl
end
