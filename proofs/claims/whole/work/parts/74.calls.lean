/-! LAYER 2: THE CALLS, 1: what is told -/
def SIM (M N : qS → qR) : Prop := ∀ x y, Rel x y → ∃ r x2 y2, M x = some (r, x2) ∧ N y = some (r, y2) ∧ Rel x2 y2
theorem Rel.told {x y : qS} {v : Int32} (h : Rel x y) : Rel x (q_up y 163 0 v) :=
  h.th (fun _ _ _ _ => rfl) rfl (fun _ _ => rfl) (fun c h1 _ _ _ _ => by rw [q_up_1, if_neg h1]) (fun j h1 _ => by rw [q_up_1, if_pos rfl, upd_g, if_neg h1])
theorem RPn.mono {c : Nat} {X Z : qX} {g g2 : Nat → Int32} (h : RPn c X Z g) (h6 : (g 6).toInt ≤ (g2 6).toInt) (h7 : (g 7).toInt ≤ (g2 7).toInt) : RPn c X Z g2 := by
  obtain ⟨N, n1, n2, n3, n4⟩ := h
  refine ⟨N, n1, n2, n3, fun i hi => ?_⟩
  obtain ⟨d, q, o, d1, d2, d3, d4, d5, d6, d7, d8, e1, e2, e3, e4⟩ := n4 i hi
  exact ⟨d, q, o, d1, d2, d3, d4, d5, d6, d7, d8, e1, fun h => by have := e2 h; omega, fun h => by have := e3 h; omega, e4⟩
theorem RCo.mono {c : Nat} {X Z : qX} {g g2 : Nat → Int32} (h : RCo c X Z g) (h6 : (g 6).toInt ≤ (g2 6).toInt) : RCo c X Z g2 := by
  obtain ⟨N, n1, n2, n3, n4⟩ := h
  refine ⟨N, n1, n2, n3, fun i hi => ?_⟩
  obtain ⟨p, q, d1, d2⟩ := n4 i hi
  exact ⟨p, q, by omega, d2⟩
/-- the commune was told something, and nothing is kept -/
theorem Rel.set {x y x2 y2 : qS} (h : Rel x y) (hx : ∀ c, c ≠ 0 → (c < 2 ∨ 12 ≤ c) → x2.1 c = x.1 c) (h03 : x2.1 0 3 = x.1 0 3) (h05 : x2.1 0 5 = nI 0) (h06 : x2.1 0 6 = x.1 0 6) (hy : ∀ c, c ≠ 163 → c ≠ 164 → y2.1 c = y.1 c) (hj : ∀ j, j ≠ 0 → j ≠ 3 → (j < 6 ∨ 11 < j) → y2.1 163 j = y.1 163 j) (h3 : y2.1 163 3 = nI 0)
    (hC : RC 2 x2.1 (y2.1 164) (y2.1 163)) (hB : BC (y2.1 164) (y2.1 163)) (hw : (y2.1 164 0).toInt ≤ 9999) (hG : BG (y2.1 163)) (h6 : (y.1 163 6).toInt ≤ (y2.1 163 6).toInt) (h7 : (y.1 163 7).toInt ≤ (y2.1 163 7).toInt) : Rel x2 y2 := by
  obtain ⟨⟨r1, r2, r3, r4, r5, r6, r7, r8, r9⟩, h2, h3', h4, h5⟩ := h
  obtain ⟨m, q, k1, k2, k3, k4, k5, k6⟩ := h2
  refine ⟨⟨hC, hB, hw, hG, ?_, ?_, ?_, ?_, ?_⟩, KR.no k2 h05 (by rw [h06]; exact k5) h3, ?_, ?_, ?_⟩
  · exact r5.fr (fun c a b => hx c (by omega) (by omega)) (fun c a b => hy c (by omega) (by omega))
  · exact r6.fr (fun c a b => hx c (by omega) (by omega)) (hy 178 (by omega) (by omega)) (hj 36 (by omega) (by omega) (by omega))
  · exact (r7.fr (g2 := y.1 163) (fun c a b => hx c (by omega) (by omega)) (hy 179 (by omega) (by omega)) (hj 38 (by omega) (by omega) (by omega)) rfl rfl).mono h6 h7
  · exact (r8.fr (g2 := y.1 163) (fun c a b => hx c (by omega) (by omega)) (hy 184 (by omega) (by omega)) (hj 48 (by omega) (by omega) (by omega)) rfl).mono h6
  · rw [hx 32 (by omega) (by omega), hy 167 (by omega) (by omega)]; exact r9
  · exact h3'.fr (by rw [hx 67 (by omega) (by omega)]) (hx 68 (by omega) (by omega)) (hx 66 (by omega) (by omega)) (hj 14 (by omega) (by omega) (by omega)) (hj 34 (by omega) (by omega) (by omega)) (hj 35 (by omega) (by omega) (by omega)) (hy 168 (by omega) (by omega))
  · exact h4.fr (by rw [hx 88 (by omega) (by omega)]) (by rw [hx 90 (by omega) (by omega)]) (hj 5 (by omega) (by omega) (by omega)) (hy 169 (by omega) (by omega))
  · exact h5.fr h03 (fun c a b _ _ => hx c (by omega) (by omega)) (hj 53 (by omega) (by omega) (by omega)) (hy 187 (by omega) (by omega))
theorem RC.fld {k s : Nat} {X X2 : qX} {f g g2 : Nat → Int32} {v : Int32} (h : RC k X f g) (hs : s = 2 ∨ s = 3 ∨ s = 4 ∨ s = 5 ∨ s = 7) (hX : ∀ a, X2 a = if a = k then upd (X k) s v else X a) (h7 : g2 7 = g 7) (e2 : X2 k 2 = g2 8) (e3 : X2 k 3 = g2 9) (e4 : X2 k 4 = g2 10 + nI 9) (e5 : X2 k 5 = g2 11 + nI 4) (e7 : X2 k 7 = g2 6) : RC k X2 f g2 := by
  refine ⟨fun j hj => ?_, fun i hi he => ?_, e2, e3, e4, e5, e7, ?_⟩
  · rw [hX]
    split
    · rename_i e
      have e0 : cC j = 0 := by omega
      have := cC_0 j hj e0
      have hh := h.1 j hj
      rw [e0] at hh
      rw [upd_g, if_neg (by omega)]; exact hh
    · exact h.1 j hj
  · rw [hX, if_neg (by omega)]; rw [h7] at he; exact h.2.1 i hi he
  · rw [hX, if_pos rfl, upd_g, if_neg (by omega), h7]; exact h.eaters
theorem BC.mono {f g g2 : Nat → Int32} (h : BC f g) (h6 : (g 6).toInt ≤ (g2 6).toInt) (h7 : (g 7).toInt ≤ (g2 7).toInt) : BC f g2 := by
  refine ⟨h.1, fun t ht => by have := h.2.1 t ht; omega, fun p hp h5 => h.2.2.1 p (by omega) h5, fun i hi h50 => h.2.2.2 i (by omega) h50⟩
/-! guards -/
theorem within_b (x : Int32) (a b : Nat) (ha : a < 2147483648) (hb : b < 2147483648) : (∃ n : Nat, a ≤ n ∧ n ≤ b ∧ x = nI n ∧ (∀ u, m_X10_isWithin x (nI a) (nI b) u = some (nI 1, u)) ∧ ∀ v, m_X11_isIn x (nI a) (nI b) v = some (nI 1, v)) ∨ ((∀ u, m_X10_isWithin x (nI a) (nI b) u = some (nI 0, u)) ∧ ∀ v, m_X11_isIn x (nI a) (nI b) v = some (nI 0, v)) := by
  unfold m_X10_isWithin m_X11_isIn
  simp only [lit_n, nI_t ha, nI_t hb]
  by_cases h1 : x.toInt < (a : Int)
  · exact Or.inr ⟨fun u => by rw [if_pos h1], fun v => by rw [if_pos h1]⟩
  · by_cases h2 : (b : Int) < x.toInt
    · exact Or.inr ⟨fun u => by rw [if_neg h1, if_pos h2], fun v => by rw [if_neg h1, if_pos h2]⟩
    · obtain ⟨n, n1, n2, n3⟩ := nI_ex (x := x) (b := b) (by omega) (by omega) hb
      exact Or.inl ⟨n, by omega, n1, n2, fun u => by rw [if_neg h1, if_neg h2], fun v => by rw [if_neg h1, if_neg h2]⟩
theorem party_b {k P : Nat} (p : Int32) {x y : qS} (h7 : x.1 k 7 = nI P) (h6 : y.1 163 6 = nI P) (hP : P ≤ 5) : (∃ q : Nat, q < P ∧ p = nI q ∧ m_X0_isParty k p x = some (nI 1, x) ∧ m_X11_isParty p y = some (nI 1, y)) ∨ (m_X0_isParty k p x = some (nI 0, x) ∧ m_X11_isParty p y = some (nI 0, y)) := by
  unfold m_X0_isParty m_X11_isParty
  simp only [lit_n, h7, h6, nI_t (show P < 2147483648 by omega)]
  by_cases h1 : p.toInt < 0
  · exact Or.inr ⟨by rw [if_pos h1], by rw [if_pos h1]⟩
  · by_cases h2 : (P : Int) ≤ p.toInt
    · exact Or.inr ⟨by rw [if_neg h1, if_pos h2], by rw [if_neg h1, if_pos h2]⟩
    · obtain ⟨n, n1, n2, n3⟩ := nI_ex (x := p) (b := P) (by omega) (by omega) (by omega)
      exact Or.inl ⟨n, by omega, n2, by rw [if_neg h1, if_neg h2], by rw [if_neg h1, if_neg h2]⟩
theorem eater_b {k E : Nat} (e : Int32) {x y : qS} (h9 : x.1 k 9 = nI E) (h7 : y.1 163 7 = nI E) (hE : E ≤ 10) : (∃ q : Nat, q < E ∧ e = nI q ∧ m_X0_isEater k e x = some (nI 1, x) ∧ m_X11_isEater e y = some (nI 1, y)) ∨ (m_X0_isEater k e x = some (nI 0, x) ∧ m_X11_isEater e y = some (nI 0, y)) := by
  unfold m_X0_isEater m_X11_isEater
  simp only [lit_n, h9, h7, nI_t (show E < 2147483648 by omega)]
  by_cases h1 : e.toInt < 0
  · exact Or.inr ⟨by rw [if_pos h1], by rw [if_pos h1]⟩
  · by_cases h2 : (E : Int) ≤ e.toInt
    · exact Or.inr ⟨by rw [if_neg h1, if_pos h2], by rw [if_neg h1, if_pos h2]⟩
    · obtain ⟨n, n1, n2, n3⟩ := nI_ex (x := e) (b := E) (by omega) (by omega) (by omega)
      exact Or.inl ⟨n, by omega, n2, by rw [if_neg h1, if_neg h2], by rw [if_neg h1, if_neg h2]⟩
theorem tree_b {k T : Nat} (t : Int32) {x y : qS} (h8 : x.1 k 8 = nI T) (h4 : y.1 164 4 = nI T) (hT : T ≤ 14) : (∃ q : Nat, q < T ∧ t = nI q ∧ m_X0_isTree k t x = some (nI 1, x) ∧ m_X11_isTree t y = some (nI 1, y)) ∨ (m_X0_isTree k t x = some (nI 0, x) ∧ m_X11_isTree t y = some (nI 0, y)) := by
  have a4 : q_ald y 164 136 (nI 4) = some (nI T) := by rw [ald_n (by omega) (by omega), h4]
  unfold m_X0_isTree m_X11_isTree
  simp only [lit_n, h8, a4, Option.bind_some, nI_t (show T < 2147483648 by omega)]
  by_cases h1 : t.toInt < 0
  · exact Or.inr ⟨by rw [if_pos h1], by rw [if_pos h1]⟩
  · by_cases h2 : (T : Int) ≤ t.toInt
    · exact Or.inr ⟨by rw [if_neg h1, if_pos h2], by rw [if_neg h1, if_pos h2]⟩
    · obtain ⟨n, n1, n2, n3⟩ := nI_ex (x := t) (b := T) (by omega) (by omega) (by omega)
      exact Or.inl ⟨n, by omega, n2, by rw [if_neg h1, if_neg h2], by rw [if_neg h1, if_neg h2]⟩
theorem place_b (p : Int32) : (∃ q : Nat, q < 10 ∧ p = nI q ∧ (∀ u, m_X10_isPlace p u = some (nI 1, u)) ∧ ∀ v, m_X11_isPlace p v = some (nI 1, v)) ∨ ((∀ u, m_X10_isPlace p u = some (nI 0, u)) ∧ ∀ v, m_X11_isPlace p v = some (nI 0, v)) := by
  unfold m_X10_isPlace m_X11_isPlace
  simp only [lit_n, nI_t (show 10 < 2147483648 by omega)]
  by_cases h1 : p.toInt < 0
  · exact Or.inr ⟨fun u => by rw [if_pos h1], fun v => by rw [if_pos h1]⟩
  · by_cases h2 : ((10 : Nat) : Int) ≤ p.toInt
    · exact Or.inr ⟨fun u => by rw [if_neg h1, if_pos h2], fun v => by rw [if_neg h1, if_pos h2]⟩
    · obtain ⟨n, n1, n2, n3⟩ := nI_ex (x := p) (b := 10) (by omega) (by omega) (by omega)
      exact Or.inl ⟨n, by omega, n2, fun u => by rw [if_neg h1, if_neg h2], fun v => by rw [if_neg h1, if_neg h2]⟩
theorem z10 : (nI 1).toInt = 0 ↔ False := by decide
theorem z00 : (nI 0).toInt = 0 ↔ True := by decide
theorem Rel.C {x y : qS} (h : Rel x y) : RC 2 x.1 (y.1 164) (y.1 163) := h.1.1
theorem Rel.B {x y : qS} (h : Rel x y) : BC (y.1 164) (y.1 163) := h.1.2.1
theorem Rel.G {x y : qS} (h : Rel x y) : BG (y.1 163) := h.1.2.2.2.1
theorem Rel.w {x y : qS} (h : Rel x y) : (y.1 164 0).toInt ≤ 9999 := h.1.2.2.1
/-! state -/
theorem sim_state (a : Int32) : SIM (m_X10_state a) (m_X11_state a) := fun x y h => by
  have y1 : q_ald (q_up y 163 0 (nI 0)) 164 136 (nI 1) = some (y.1 164 1) := ald_n (by omega) (by omega)
  have y2 : q_ast (q_up y 163 0 (nI 0)) 164 136 (nI 1) a = some (q_up (q_up y 163 0 (nI 0)) 164 1 a) := ast_n (by omega) (by omega)
  refine ⟨y.1 164 1, q_up (q_up x 2 1 a) 0 5 (nI 0), q_up (q_up (q_up y 163 0 (nI 0)) 164 1 a) 163 3 (nI 0), ?_, ?_, ?_⟩
  · unfold m_X10_state m_X10_forget
    simp only [lit_n, q_let, q_bd_some, h.C.state]
  · unfold m_X11_state
    simp only [lit_n, q_let, y1, y2, Option.bind_some]
  · have e4 : ∀ i, i < 136 → (q_up (q_up (q_up y 163 0 (nI 0)) 164 1 a) 163 3 (nI 0)).1 164 i = if i = 1 then a else y.1 164 i := fun i _ => rfl
    have eg : ∀ j, j ≠ 0 → j ≠ 3 → (q_up (q_up (q_up y 163 0 (nI 0)) 164 1 a) 163 3 (nI 0)).1 163 j = y.1 163 j := fun j h1 h2 => by
      rw [q_up_1, if_pos rfl, upd_g, if_neg h2]; show upd (y.1 163) 0 (nI 0) j = _; rw [upd_g, if_neg h1]
    refine h.set (fun c h1 h2 => ?_) rfl rfl rfl (fun c h1 h2 => ?_) (fun j h1 h2 _ => eg j h1 h2) rfl ?_ ?_ ?_ ?_ ?_ ?_
    · rw [q_up_1, if_neg h1, q_up_1, if_neg (by omega)]
    · rw [q_up_1, if_neg h1, q_up_1, if_neg h2, q_up_1, if_neg h1]
    · exact ((h.C.up 1 (c := 0) (s := 1) (by omega) rfl rfl (X' := (q_up x 2 1 a).1) (v := a) (fun c => q_up_1) e4).fr (fun c a1 a2 => by rw [q_up_1, if_neg (by omega)])).gr (eg 6 (by omega) (by omega)) (eg 7 (by omega) (by omega)) (eg 8 (by omega) (by omega)) (eg 9 (by omega) (by omega)) (eg 10 (by omega) (by omega)) (eg 11 (by omega) (by omega))
    · exact (h.B.up h.G 1 (by omega) (by have := i32_rng a; have h1 : bLo 1 = -2147483648 := rfl; have h2 : bHi 1 = 2147483647 := rfl; omega) e4 (by omega) (by omega) (by omega) (by omega) (by omega)).gr (eg 6 (by omega) (by omega)) (eg 7 (by omega) (by omega))
    · exact h.w
    · exact h.G.mv (fun j hj => eg j (by omega) (by omega))
    · rw [eg 6 (by omega) (by omega)]; omega
    · rw [eg 7 (by omega) (by omega)]; omega
