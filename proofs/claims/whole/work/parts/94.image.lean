/-! LAYER 2: THE CALLS, 21: image -/
def CD (u0 u : qS) (k k1 : Nat) (D : Nat → Prop) : Prop := (∀ d, (∀ o, D o → d ≠ k + o) → u.1 d = u0.1 d) ∧ (∀ o s, D o → (o = 11 → s = 0 ∨ s = 6) → s < szo o → u.1 (k + o) s = u0.1 (k1 + o) s)
section
variable {u0 u : qS} {k k1 : Nat} {D D' : Nat → Prop}
theorem CD.src (h : CD u0 u k k1 D) (hd : k + 32 ≤ k1 ∨ k1 + 32 ≤ k) (hD : ∀ o, D o → o < 32) {m : Nat} (hm : m < 32) : u.1 (k1 + m) = u0.1 (k1 + m) := h.1 _ (fun o ho => by have := hD o ho; omega)
theorem CD.st (h : CD u0 u k k1 D) (hd : k + 32 ≤ k1 ∨ k1 + 32 ≤ k) (hD : ∀ o, D o → o < 32) (m n : Nat) (hm : m < 32) (hn : szo m = n) (hD' : ∀ o, D' o ↔ o = m ∨ D o) : CD u0 (q_st u (k + m) (q_cp (u.1 (k1 + m)) (u.1 (k + m)) n)) k k1 D' := by
  refine ⟨fun d h1 => ?_, fun o s h1 h2 h3 => ?_⟩
  · rw [q_st_g, if_neg (h1 m ((hD' m).mpr (Or.inl rfl)))]; exact h.1 d (fun o ho => h1 o ((hD' o).mpr (Or.inr ho)))
  · rw [q_st_g]
    by_cases e : o = m
    · subst e
      rw [if_pos rfl, q_cp_g, if_pos (by omega), h.src hd hD hm]
    · rw [if_neg (by omega)]
      rcases (hD' o).mp h1 with h4 | h4
      · exact absurd h4 e
      · exact h.2 o s h4 h2 h3
theorem CD.up (h : CD u0 u k k1 D) (hd : k + 32 ≤ k1 ∨ k1 + 32 ≤ k) (hD : ∀ o, D o → o < 32) (m : Nat) (hm : m < 32) (hn : szo m = 1) (hm11 : m ≠ 11) (hD' : ∀ o, D' o ↔ o = m ∨ D o) : CD u0 (q_up u (k + m) 0 (u.1 (k1 + m) 0)) k k1 D' := by
  refine ⟨fun d h1 => ?_, fun o s h1 h2 h3 => ?_⟩
  · rw [q_up_1, if_neg (h1 m ((hD' m).mpr (Or.inl rfl)))]; exact h.1 d (fun o ho => h1 o ((hD' o).mpr (Or.inr ho)))
  · rw [q_up_1]
    by_cases e : o = m
    · subst e
      rw [if_pos rfl, upd_g, if_pos (by omega), h.src hd hD hm, show s = 0 by omega]
    · rw [if_neg (by omega)]
      rcases (hD' o).mp h1 with h4 | h4
      · exact absurd h4 e
      · exact h.2 o s h4 h2 h3
theorem CD.la (h : CD u0 u k k1 D) (hd : k + 32 ≤ k1 ∨ k1 + 32 ≤ k) (hD : ∀ o, D o → o < 32) (v : Int32) (hD' : ∀ o, D' o ↔ o = 11 ∨ D o) : CD u0 (q_up (q_up (q_up u (k + 11) 0 (u.1 (k1 + 11) 0)) (k + 11) 5 v) (k + 11) 6 (u.1 (k1 + 11) 6)) k k1 D' := by
  refine ⟨fun d h1 => ?_, fun o s h1 h2 h3 => ?_⟩
  · have e := h1 11 ((hD' 11).mpr (Or.inl rfl))
    rw [q_up_1, if_neg e, q_up_1, if_neg e, q_up_1, if_neg e]; exact h.1 d (fun o ho => h1 o ((hD' o).mpr (Or.inr ho)))
  · by_cases e : o = 11
    · subst e
      rw [q_up_1, if_pos rfl, upd_g, h.src hd hD (by omega)]
      rcases h2 rfl with e1 | e1
      · subst e1
        rw [if_neg (by omega), q_up_1, if_pos rfl, upd_g, if_neg (by omega), q_up_1, if_pos rfl, upd_g, if_pos rfl]
      · subst e1
        rw [if_pos rfl]
    · rw [q_up_1, if_neg (by omega), q_up_1, if_neg (by omega), q_up_1, if_neg (by omega)]
      rcases (hD' o).mp h1 with h4 | h4
      · exact absurd h4 e
      · exact h.2 o s h4 h2 h3
end
def dF (n : Nat) (o : Nat) : Prop := 1 ≤ o ∧ o < n ∧ o ≠ 16 ∧ o ≠ 17 ∧ o ≠ 30
theorem whole_cp {u : qS} {k k1 : Nat} (hd : k + 32 ≤ k1 ∨ k1 + 32 ≤ k) (h6 : u.1 (k1 + 11) 6 = nI 0 ∨ u.1 (k1 + 11) 6 = nI 1) : ∃ u2, m_X9_copyFrom k k1 u = some (nI 0, u2) ∧ CD u u2 k k1 (dF 32) := by
  obtain ⟨x1, c1, c2⟩ := copy_c (u := u) (k := k + 1) (k1 := k1 + 1) (by omega)
  have b1 : CD u x1 k k1 (dF 11) := by
    refine ⟨fun d h1 => ?_, fun o s h1 h2 h3 => ?_⟩
    · refine c2.1 d ?_
      by_cases e : d < k + 1 ∨ k + 1 + 10 ≤ d
      · exact e
      · exact absurd (show d = k + (d - k) by omega) (h1 (d - k) ⟨by omega, by omega, by omega, by omega, by omega⟩)
    · have := h1.1
      have := h1.2.1
      have := c2.2.1 (o - 1) s (by omega) (by rw [show o - 1 + 1 = o by omega]; exact h3)
      rw [show k + 1 + (o - 1) = k + o by omega, show k1 + 1 + (o - 1) = k1 + o by omega] at this
      exact this
  have L : ∀ (n : Nat) (o : Nat), n ≤ 32 → dF n o → o < 32 := fun n o hn h => by have := h.2.1; omega
  have e2 : ∃ u2, m_X2_copyFrom (k + 11) (k1 + 11) x1 = some (nI 0, u2) ∧ CD u u2 k k1 (dF 16) := by
    have d1 := b1.la (D' := dF 12) hd (fun o h => L 11 o (by omega) h) (x1.1 (k1 + 11) 5) (fun o => by unfold dF; omega)
    have s6 : x1.1 (k1 + 11) 6 = nI 0 ∨ x1.1 (k1 + 11) 6 = nI 1 := by rw [b1.src hd (fun o h => L 11 o (by omega) h) (by omega)]; exact h6
    have d2 := d1.st (D' := dF 13) hd (fun o h => L 12 o (by omega) h) 12 16 (by omega) rfl (fun o => by unfold dF; omega)
    have d3 := d2.st (D' := dF 14) hd (fun o h => L 13 o (by omega) h) 13 17 (by omega) rfl (fun o => by unfold dF; omega)
    have d4 := d3.st (D' := dF 15) hd (fun o h => L 14 o (by omega) h) 14 16 (by omega) rfl (fun o => by unfold dF; omega)
    have d5 := d4.st (D' := dF 16) hd (fun o h => L 15 o (by omega) h) 15 400 (by omega) rfl (fun o => by unfold dF; omega)
    refine ⟨_, ?_, d5⟩
    unfold m_X2_copyFrom
    have g : ∀ (w : qS) (j : Nat) (v : Int32), (q_up w (k + 11) j v).1 (k1 + 11) = w.1 (k1 + 11) := fun w j v => by rw [q_up_1, if_neg (by omega)]
    rw [q_let_s, q_let_s, g, g]
    have bz : ∀ M, q_bz (x1.1 (k1 + 11) 6) M = M := fun M => by
      rcases s6 with e | e
      · rw [e]; exact bz_0
      · rw [e]; exact bz_1
    rw [bz, q_let_s, q_let_s, q_let_s, q_let_s, q_let_s]
    rfl
  obtain ⟨x2, e2, b2⟩ := e2
  have e3 : ∃ u2, m_X4_copyFrom (k + 18) (k1 + 18) x2 = some (nI 0, u2) ∧ CD u u2 k k1 (dF 22) := by
    have d1 := b2.up (D' := dF 19) hd (fun o h => L 16 o (by omega) h) 18 (by omega) rfl (by omega) (fun o => by unfold dF; omega)
    have d2 := d1.st (D' := fun o => o = 21 ∨ dF 19 o) hd (fun o h => L 19 o (by omega) h) 21 10 (by omega) rfl (fun o => Iff.rfl)
    have d3 := d2.st (D' := fun o => o = 21 ∨ dF 20 o) hd (fun o h => by rcases h with h | h; omega; exact L 19 o (by omega) h) 19 10 (by omega) rfl (fun o => by unfold dF; omega)
    have d4 := d3.st (D' := dF 22) hd (fun o h => by rcases h with h | h; omega; exact L 20 o (by omega) h) 20 80 (by omega) rfl (fun o => by unfold dF; omega)
    refine ⟨_, ?_, d4⟩
    unfold m_X4_copyFrom
    rw [q_let_s, q_let_s, q_let_s, q_let_s]
    rfl
  obtain ⟨x3, e3, b3⟩ := e3
  have e4 : ∃ u2, m_X5_copyFrom (k + 22) (k1 + 22) x3 = some (nI 0, u2) ∧ CD u u2 k k1 (dF 27) := by
    have d1 := b3.up (D' := dF 23) hd (fun o h => L 22 o (by omega) h) 22 (by omega) rfl (by omega) (fun o => by unfold dF; omega)
    have d2 := d1.st (D' := dF 24) hd (fun o h => L 23 o (by omega) h) 23 16 (by omega) rfl (fun o => by unfold dF; omega)
    have d3 := d2.st (D' := dF 25) hd (fun o h => L 24 o (by omega) h) 24 16 (by omega) rfl (fun o => by unfold dF; omega)
    have d4 := d3.st (D' := dF 26) hd (fun o h => L 25 o (by omega) h) 25 16 (by omega) rfl (fun o => by unfold dF; omega)
    have d5 := d4.st (D' := dF 27) hd (fun o h => L 26 o (by omega) h) 26 16 (by omega) rfl (fun o => by unfold dF; omega)
    refine ⟨_, ?_, d5⟩
    unfold m_X5_copyFrom
    rw [q_let_s, q_let_s, q_let_s, q_let_s, q_let_s]
    rfl
  obtain ⟨x4, e4, b4⟩ := e4
  have e5 : ∃ u2, m_X1_copyFrom (k + 27) (k1 + 27) x4 = some (nI 0, u2) ∧ CD u u2 k k1 (dF 30) := by
    have d1 := b4.up (D' := dF 28) hd (fun o h => L 27 o (by omega) h) 27 (by omega) rfl (by omega) (fun o => by unfold dF; omega)
    have d2 := d1.st (D' := dF 29) hd (fun o h => L 28 o (by omega) h) 28 8 (by omega) rfl (fun o => by unfold dF; omega)
    have d3 := d2.st (D' := dF 30) hd (fun o h => L 29 o (by omega) h) 29 8 (by omega) rfl (fun o => by unfold dF; omega)
    refine ⟨_, ?_, d3⟩
    unfold m_X1_copyFrom
    rw [q_let_s, q_let_s, q_let_s]
    rfl
  obtain ⟨x5, e5, b5⟩ := e5
  have e6 : ∃ u2, m_X3_copyFrom (k + 30) (k1 + 30) x5 = some (nI 0, u2) ∧ CD u u2 k k1 (dF 32) := by
    have d1 := b5.st (D' := dF 32) hd (fun o h => L 30 o (by omega) h) 31 600 (by omega) rfl (fun o => by unfold dF; omega)
    refine ⟨_, ?_, d1⟩
    unfold m_X3_copyFrom
    rw [q_let_s]
    rfl
  obtain ⟨x6, e6, b6⟩ := e6
  refine ⟨x6, ?_, b6⟩
  unfold m_X9_copyFrom
  rw [c1, q_bd_s', e2, q_bd_s', e3, q_bd_s', e4, q_bd_s', e5, q_bd_s', e6, q_bd_s']
  rfl
/-- of the law only its first and its last int count -/
theorem RW.law {b : Nat} {X X2 Z : qX} (h : RW b X Z) (hx : ∀ c, c ≠ b + 11 → X2 c = X c) (h0 : X2 (b + 11) 0 = X (b + 11) 0) (h6 : X2 (b + 11) 6 = X (b + 11) 6) : RW b X2 Z := by
  obtain ⟨r1, r2, r3, r4, r5, r6, r7, r8, r9⟩ := h
  refine ⟨r1.fr (fun c a1 a2 => hx c (by omega)), r2, r3, r4, ?_, r6.fr (fun c a1 a2 => hx c (by omega)) rfl rfl, r7.fr (fun c a1 a2 => hx c (by omega)) rfl rfl rfl rfl, r8.fr (fun c a1 a2 => hx c (by omega)) rfl rfl rfl, fun i hi => by rw [hx _ (by omega)]; exact r9 i hi⟩
  obtain ⟨N, n1, n2, n3, n4, n5⟩ := r5
  refine ⟨N, n1, by rw [h0]; exact n2, n3, by rw [h6]; exact n4, fun i hi => ?_⟩
  have e : ∀ o, 1 ≤ o → o < 5 → X2 (b + 11 + o) = X (b + 11 + o) := fun o a1 a2 => hx _ (by omega)
  exact (n5 i hi).mv (by omega) h6 (by rw [e 1 (by omega) (by omega)]) (by rw [e 2 (by omega) (by omega)]) (by rw [e 2 (by omega) (by omega)]) (by rw [e 3 (by omega) (by omega)]) (fun j _ => by rw [e 4 (by omega) (by omega)]) rfl rfl rfl rfl (fun _ _ => rfl) (fun _ _ => rfl)
theorem CD.rw {u u2 : qS} {k k1 : Nat} {Z Z2 : qX} (h : CD u u2 k k1 (dF 32)) (hR : RW k1 u.1 Z) (hz : ZE Z Z2) : RW k u2.1 Z2 := by
  let X1 : qX := fun c s => if c = k + 11 then u.1 (k1 + 11) s else u2.1 c s
  have r1 : RW k X1 Z2 := hR.mv (fun o s a1 a2 a3 a4 a5 => by
    show (if k + o = k + 11 then u.1 (k1 + 11) s else u2.1 (k + o) s) = _
    by_cases e : o = 11
    · rw [if_pos (by omega), e]
    · rw [if_neg (by omega)]
      by_cases e3 : o = 30
      · subst e3
        have : szo 30 = 0 := rfl
        omega
      · exact h.2 o s ⟨a1, a2, a3, a4, e3⟩ (fun e2 => absurd e2 e) a5) hz
  refine r1.law (fun c hc => ?_) ?_ ?_
  · funext s
    show _ = (if c = k + 11 then u.1 (k1 + 11) s else u2.1 c s)
    rw [if_neg hc]
  · show _ = (if k + 11 = k + 11 then u.1 (k1 + 11) 0 else _)
    rw [if_pos rfl]; exact h.2 11 0 ⟨by omega, by omega, by omega, by omega, by omega⟩ (fun _ => by omega) (by decide)
  · show _ = (if k + 11 = k + 11 then u.1 (k1 + 11) 6 else _)
    rw [if_pos rfl]; exact h.2 11 6 ⟨by omega, by omega, by omega, by omega, by omega⟩ (fun _ => by omega) (by decide)
/-! the reference's image: place by place -/
def psC (p : Nat) : Nat := if p < 136 then 164 else if p < 145 then 163 else if p < 161 then 184 else if p < 251 then 178 else if p < 315 then 179 else if p < 915 then 167 else if p < 916 then 170 else if p < 980 then 171 + (p - 916) % 4 else 175 + (p - 980) % 2
def psJ (p : Nat) : Nat := if p < 136 then p else if p < 142 then p - 130 else if p < 143 then 36 else if p < 144 then 38 else if p < 145 then 48 else if p < 161 then p - 145 else if p < 251 then p - 161 else if p < 315 then p - 251 else if p < 915 then p - 315 else if p < 916 then 0 else if p < 980 then (p - 916) / 4 else (p - 980) / 2
theorem ps_all (p : Nat) (hp : p < 1780) : (p < 136 ∧ psC p = 164 ∧ psJ p = p) ∨ (136 ≤ p ∧ p < 142 ∧ psC p = 163 ∧ psJ p = p - 130) ∨ (p = 142 ∧ psC p = 163 ∧ psJ p = 36) ∨ (p = 143 ∧ psC p = 163 ∧ psJ p = 38) ∨ (p = 144 ∧ psC p = 163 ∧ psJ p = 48) ∨ (145 ≤ p ∧ p < 161 ∧ psC p = 184 ∧ psJ p = p - 145) ∨ (161 ≤ p ∧ p < 251 ∧ psC p = 178 ∧ psJ p = p - 161) ∨ (251 ≤ p ∧ p < 315 ∧ psC p = 179 ∧ psJ p = p - 251) ∨ (315 ≤ p ∧ p < 915 ∧ psC p = 167 ∧ psJ p = p - 315) ∨ (p = 915 ∧ psC p = 170 ∧ psJ p = 0) ∨ (916 ≤ p ∧ p < 980 ∧ psC p = 171 + (p - 916) % 4 ∧ psJ p = (p - 916) / 4) ∨ (980 ≤ p ∧ psC p = 175 + (p - 980) % 2 ∧ psJ p = (p - 980) / 2) := by
  by_cases a1 : p < 136
  · exact Or.inl ⟨a1, if_pos a1, if_pos a1⟩
  refine Or.inr ?_
  unfold psC psJ
  rw [if_neg a1, if_neg a1]
  by_cases a2 : p < 142
  · rw [if_pos a2, if_pos (show p < 145 by omega)]; exact Or.inl ⟨by omega, a2, rfl, rfl⟩
  refine Or.inr ?_
  rw [if_neg a2]
  by_cases a3 : p < 143
  · rw [if_pos a3, if_pos (show p < 145 by omega)]; exact Or.inl ⟨by omega, rfl, rfl⟩
  refine Or.inr ?_
  rw [if_neg a3]
  by_cases a4 : p < 144
  · rw [if_pos a4, if_pos (show p < 145 by omega)]; exact Or.inl ⟨by omega, rfl, rfl⟩
  refine Or.inr ?_
  rw [if_neg a4]
  by_cases a5 : p < 145
  · rw [if_pos a5, if_pos a5]; exact Or.inl ⟨by omega, rfl, rfl⟩
  refine Or.inr ?_
  rw [if_neg a5, if_neg a5]
  by_cases a6 : p < 161
  · rw [if_pos a6, if_pos a6]; exact Or.inl ⟨by omega, a6, rfl, rfl⟩
  refine Or.inr ?_
  rw [if_neg a6, if_neg a6]
  by_cases a7 : p < 251
  · rw [if_pos a7, if_pos a7]; exact Or.inl ⟨by omega, a7, rfl, rfl⟩
  refine Or.inr ?_
  rw [if_neg a7, if_neg a7]
  by_cases a8 : p < 315
  · rw [if_pos a8, if_pos a8]; exact Or.inl ⟨by omega, a8, rfl, rfl⟩
  refine Or.inr ?_
  rw [if_neg a8, if_neg a8]
  by_cases a9 : p < 915
  · rw [if_pos a9, if_pos a9]; exact Or.inl ⟨by omega, a9, rfl, rfl⟩
  refine Or.inr ?_
  rw [if_neg a9, if_neg a9]
  by_cases b1 : p < 916
  · rw [if_pos b1, if_pos b1]; exact Or.inl ⟨by omega, rfl, rfl⟩
  refine Or.inr ?_
  rw [if_neg b1, if_neg b1]
  by_cases b2 : p < 980
  · rw [if_pos b2, if_pos b2]; exact Or.inl ⟨by omega, b2, rfl, rfl⟩
  refine Or.inr ?_
  rw [if_neg b2, if_neg b2]
  exact ⟨by omega, rfl, rfl⟩
theorem ps_inj {p q : Nat} (hp : p < 1780) (hq : q < 1780) (h1 : psC p = psC q) (h2 : psJ p = psJ q) : p = q := by
  have e1 := ps_all p hp
  have e2 := ps_all q hq
  omega
theorem ps_cell {p : Nat} (hp : p < 1780) : psC p = 164 ∨ (psC p = 163 ∧ gsl (psJ p)) ∨ psC p = 184 ∨ psC p = 178 ∨ psC p = 179 ∨ psC p = 167 ∨ (170 ≤ psC p ∧ psC p ≤ 176) := by
  have e1 := ps_all p hp
  unfold gsl
  omega
section
variable {I : Nat → qS → Prop}
def gb (L c sz : Nat) (K : qS → qR) (self : Int32 → qS → qR) (i : Int32) (u : qS) : qR :=
  if (nI L).toInt ≤ i.toInt then K u
  else Option.bind (q_ald u c sz i) fun a => q_bd (m_X11_keeps a u) fun r u_6 => Option.bind (q_ast u_6 c sz i r) fun u_7 => self (i + nI 1) u_7
theorem kp_row (hI : ∀ n u, n < 1780 → I n u → ∃ r u', m_X11_keeps (u.1 (psC n) (psJ n)) u = some (r, u') ∧ I (n + 1) (q_up u' (psC n) (psJ n) r)) {n c sz j : Nat} {u : qS} (hn : n < 1780) (hc : psC n = c) (hj : psJ n = j) (hjs : j < sz) (hsz : sz < 2147483648) (h : I n u) : ∃ u2, I (n + 1) u2 ∧ ∀ K : qS → qR, (Option.bind (q_ald u c sz (nI j)) fun a => q_bd (m_X11_keeps a u) fun r u_6 => Option.bind (q_ast u_6 c sz (nI j) r) fun u_7 => K u_7) = K u2 := by
  subst hc; subst hj
  obtain ⟨r, u', e1, e2⟩ := hI n u hn h
  refine ⟨_, e2, fun K => ?_⟩
  rw [ald_n hjs hsz, Option.bind_some, e1, q_bd_s', ast_n hjs hsz, Option.bind_some]
theorem kp_fld (hI : ∀ n u, n < 1780 → I n u → ∃ r u', m_X11_keeps (u.1 (psC n) (psJ n)) u = some (r, u') ∧ I (n + 1) (q_up u' (psC n) (psJ n) r)) {n j : Nat} {u : qS} (hn : n < 1780) (hc : psC n = 163) (hj : psJ n = j) (h : I n u) : ∃ u2, I (n + 1) u2 ∧ ∀ K : qS → qR, (q_bd (m_X11_keeps (u.1 163 j) u) fun r u_1 => q_let (q_up u_1 163 j r) fun u_2 => K u_2) = K u2 := by
  subst hj
  obtain ⟨r, u', e1, e2⟩ := hI n u hn h
  rw [hc] at e1 e2
  refine ⟨_, e2, fun K => ?_⟩
  rw [e1, q_bd_s', q_let_s]
theorem gb_it (hI : ∀ n u, n < 1780 → I n u → ∃ r u', m_X11_keeps (u.1 (psC n) (psJ n)) u = some (r, u') ∧ I (n + 1) (q_up u' (psC n) (psJ n) r)) {L c sz off : Nat} (hL : L ≤ sz) (hsz : sz < 2000) (hps : ∀ i, i < L → off + i < 1780 ∧ psC (off + i) = c ∧ psJ (off + i) = i) : ∀ (n i f : Nat) (u : qS), i + n = L → n < f → I (off + i) u → ∃ u2, I (off + L) u2 ∧ ∀ K, q_it1 (gb L c sz K) f (nI i) u = K u2
  | n, i, 0, u, hi, hf, h => by omega
  | 0, i, f + 1, u, hi, hf, h => by
    have e : i = L := by omega
    subst e
    refine ⟨u, h, fun K => ?_⟩
    show gb _ _ _ _ _ _ _ = _
    unfold gb
    rw [if_pos (by omega)]
  | n + 1, i, f + 1, u, hi, hf, h => by
    obtain ⟨p1, p2, p3⟩ := hps i (by omega)
    obtain ⟨u1, h1, e1⟩ := kp_row hI p1 p2 p3 (show i < sz by omega) (by omega) h
    obtain ⟨u2, h2, e2⟩ := gb_it hI hL hsz hps n (i + 1) f u1 (by omega) (by omega) h1
    refine ⟨u2, h2, fun K => ?_⟩
    rw [← e2 K]
    show gb _ _ _ _ (q_it1 (gb L c sz K) f) _ _ = _
    generalize q_it1 (gb L c sz K) f = self
    unfold gb
    rw [if_neg (by rw [nI_t (by omega), nI_t (by omega)]; omega)]
    rw [e1 (fun u_7 => self (nI i + nI 1) u_7), nI_add]
theorem gbI (hI : ∀ n u, n < 1780 → I n u → ∃ r u', m_X11_keeps (u.1 (psC n) (psJ n)) u = some (r, u') ∧ I (n + 1) (q_up u' (psC n) (psJ n) r)) {L c sz off : Nat} {u : qS} (hL : L ≤ sz) (hsz : sz < 2000) (hps : ∀ i, i < L → off + i < 1780 ∧ psC (off + i) = c ∧ psJ (off + i) = i) (h : I off u) : ∃ u2, I (off + L) u2 ∧ ∀ K, q_it1 (gb L c sz K) q_F (nI 0) u = K u2 :=
  gb_it hI hL hsz hps L 0 q_F u (by omega) (by rw [q_F_eq]; omega) h
theorem law4_it (hI : ∀ n u, n < 1780 → I n u → ∃ r u', m_X11_keeps (u.1 (psC n) (psJ n)) u = some (r, u') ∧ I (n + 1) (q_up u' (psC n) (psJ n) r)) : ∀ (n i f : Nat) (u : qS), i + n = 16 → n < f → I (916 + 4 * i) u → ∃ u2, I 980 u2 ∧ ∀ K, q_it1 (m_X11_keepsLaw_L18 K) f (nI i) u = K u2
  | n, i, 0, u, hi, hf, h => by omega
  | 0, i, f + 1, u, hi, hf, h => by
    have e : i = 16 := by omega
    subst e
    refine ⟨u, h, fun K => ?_⟩
    show m_X11_keepsLaw_L18 _ _ _ _ = _
    unfold m_X11_keepsLaw_L18
    rw [lit_n, if_pos (by omega)]
  | n + 1, i, f + 1, u, hi, hf, h => by
    obtain ⟨u1, h1, e1⟩ := kp_row hI (n := 916 + 4 * i) (c := 171) (sz := 48) (j := i) (by omega) (by have := ps_all (916 + 4 * i) (by omega); omega) (by have := ps_all (916 + 4 * i) (by omega); omega) (by omega) (by omega) h
    obtain ⟨u2, h2, e2⟩ := kp_row hI (n := 916 + 4 * i + 1) (c := 172) (sz := 48) (j := i) (by omega) (by have := ps_all (916 + 4 * i + 1) (by omega); omega) (by have := ps_all (916 + 4 * i + 1) (by omega); omega) (by omega) (by omega) h1
    obtain ⟨u3, h3, e3⟩ := kp_row hI (n := 916 + 4 * i + 1 + 1) (c := 173) (sz := 48) (j := i) (by omega) (by have := ps_all (916 + 4 * i + 1 + 1) (by omega); omega) (by have := ps_all (916 + 4 * i + 1 + 1) (by omega); omega) (by omega) (by omega) h2
    obtain ⟨u4, h4, e4⟩ := kp_row hI (n := 916 + 4 * i + 1 + 1 + 1) (c := 174) (sz := 48) (j := i) (by omega) (by have := ps_all (916 + 4 * i + 1 + 1 + 1) (by omega); omega) (by have := ps_all (916 + 4 * i + 1 + 1 + 1) (by omega); omega) (by omega) (by omega) h3
    obtain ⟨u5, h5, e5⟩ := law4_it hI n (i + 1) f u4 (by omega) (by omega) (by rw [show 916 + 4 * (i + 1) = 916 + 4 * i + 1 + 1 + 1 + 1 by omega]; exact h4)
    refine ⟨u5, h5, fun K => ?_⟩
    rw [← e5 K]
    show m_X11_keepsLaw_L18 _ (q_it1 (m_X11_keepsLaw_L18 K) f) _ _ = _
    generalize q_it1 (m_X11_keepsLaw_L18 K) f = self
    unfold m_X11_keepsLaw_L18
    simp only [lit_n]
    rw [if_neg (by rw [nI_t (by omega), nI_t (by omega)]; omega)]
    refine (e1 _).trans ((e2 _).trans ((e3 _).trans ((e4 _).trans ?_)))
    rw [nI_add]
theorem law2_it (hI : ∀ n u, n < 1780 → I n u → ∃ r u', m_X11_keeps (u.1 (psC n) (psJ n)) u = some (r, u') ∧ I (n + 1) (q_up u' (psC n) (psJ n) r)) : ∀ (n i f : Nat) (u : qS), i + n = 400 → n < f → I (980 + 2 * i) u → ∃ u2, I 1780 u2 ∧ ∀ K, q_it1 (m_X11_keepsLaw_L96 K) f (nI i) u = K u2
  | n, i, 0, u, hi, hf, h => by omega
  | 0, i, f + 1, u, hi, hf, h => by
    have e : i = 400 := by omega
    subst e
    refine ⟨u, h, fun K => ?_⟩
    show m_X11_keepsLaw_L96 _ _ _ _ = _
    unfold m_X11_keepsLaw_L96
    rw [lit_n, if_pos (by omega)]
  | n + 1, i, f + 1, u, hi, hf, h => by
    obtain ⟨u1, h1, e1⟩ := kp_row hI (n := 980 + 2 * i) (c := 175) (sz := 1200) (j := i) (by omega) (by have := ps_all (980 + 2 * i) (by omega); omega) (by have := ps_all (980 + 2 * i) (by omega); omega) (by omega) (by omega) h
    obtain ⟨u2, h2, e2⟩ := kp_row hI (n := 980 + 2 * i + 1) (c := 176) (sz := 1200) (j := i) (by omega) (by have := ps_all (980 + 2 * i + 1) (by omega); omega) (by have := ps_all (980 + 2 * i + 1) (by omega); omega) (by omega) (by omega) h1
    obtain ⟨u5, h5, e5⟩ := law2_it hI n (i + 1) f u2 (by omega) (by omega) (by rw [show 980 + 2 * (i + 1) = 980 + 2 * i + 1 + 1 by omega]; exact h2)
    refine ⟨u5, h5, fun K => ?_⟩
    rw [← e5 K]
    show m_X11_keepsLaw_L96 _ (q_it1 (m_X11_keepsLaw_L96 K) f) _ _ = _
    generalize q_it1 (m_X11_keepsLaw_L96 K) f = self
    unfold m_X11_keepsLaw_L96
    simp only [lit_n]
    rw [if_neg (by rw [nI_t (by omega), nI_t (by omega)]; omega)]
    refine (e1 _).trans ((e2 _).trans ?_)
    rw [nI_add]
theorem told_w (hI : ∀ n u, n < 1780 → I n u → ∃ r u', m_X11_keeps (u.1 (psC n) (psJ n)) u = some (r, u') ∧ I (n + 1) (q_up u' (psC n) (psJ n) r)) {u : qS} (h : I 136 u) : ∃ u2, I 315 u2 ∧ m_X11_keepsTold u = some (nI 0, u2) := by
  obtain ⟨u1, h1, e1⟩ := kp_fld hI (n := 136) (j := 6) (by omega) (by decide) (by decide) h
  obtain ⟨u2, h2, e2⟩ := kp_fld hI (n := 137) (j := 7) (by omega) (by decide) (by decide) h1
  obtain ⟨u3, h3, e3⟩ := kp_fld hI (n := 138) (j := 8) (by omega) (by decide) (by decide) h2
  obtain ⟨u4, h4, e4⟩ := kp_fld hI (n := 139) (j := 9) (by omega) (by decide) (by decide) h3
  obtain ⟨u5, h5, e5⟩ := kp_fld hI (n := 140) (j := 10) (by omega) (by decide) (by decide) h4
  obtain ⟨u6, h6, e6⟩ := kp_fld hI (n := 141) (j := 11) (by omega) (by decide) (by decide) h5
  obtain ⟨u7, h7, e7⟩ := kp_fld hI (n := 142) (j := 36) (by omega) (by decide) (by decide) h6
  obtain ⟨u8, h8, e8⟩ := kp_fld hI (n := 143) (j := 38) (by omega) (by decide) (by decide) h7
  obtain ⟨u9, h9, e9⟩ := kp_fld hI (n := 144) (j := 48) (by omega) (by decide) (by decide) h8
  obtain ⟨ua, ha, ea⟩ := gbI hI (L := 16) (c := 184) (sz := 16) (off := 145) (by omega) (by omega) (fun i hi => ⟨by omega, by have := ps_all (145 + i) (by omega); omega, by have := ps_all (145 + i) (by omega); omega⟩) h9
  obtain ⟨ub, hb, eb⟩ := gbI hI (L := 90) (c := 178) (sz := 180) (off := 161) (by omega) (by omega) (fun i hi => ⟨by omega, by have := ps_all (161 + i) (by omega); omega, by have := ps_all (161 + i) (by omega); omega⟩) ha
  obtain ⟨uc, hc, ec⟩ := gbI hI (L := 64) (c := 179) (sz := 128) (off := 251) (by omega) (by omega) (fun i hi => ⟨by omega, by have := ps_all (251 + i) (by omega); omega, by have := ps_all (251 + i) (by omega); omega⟩) hb
  refine ⟨uc, hc, ?_⟩
  have f1 : ∀ K, m_X11_keepsTold_L110 K = gb 16 184 16 K := fun K => by funext s i u; unfold m_X11_keepsTold_L110 gb; simp only [lit_n]
  have f2 : ∀ K, m_X11_keepsTold_L140 K = gb 90 178 180 K := fun K => by funext s i u; unfold m_X11_keepsTold_L140 gb; simp only [lit_n]
  have f3 : ∀ K, m_X11_keepsTold_L170 K = gb 64 179 128 K := fun K => by funext s i u; unfold m_X11_keepsTold_L170 gb; simp only [lit_n]
  unfold m_X11_keepsTold
  simp only [lit_n, f1, f2, f3]
  refine (e1 _).trans ((e2 _).trans ((e3 _).trans ((e4 _).trans ((e5 _).trans ((e6 _).trans ((e7 _).trans ((e8 _).trans ((e9 _).trans ?_))))))))
  rw [ea, eb, ec]
theorem law_w (hI : ∀ n u, n < 1780 → I n u → ∃ r u', m_X11_keeps (u.1 (psC n) (psJ n)) u = some (r, u') ∧ I (n + 1) (q_up u' (psC n) (psJ n) r)) {u : qS} (h : I 915 u) : ∃ u2, I 1780 u2 ∧ m_X11_keepsLaw u = some (nI 0, u2) := by
  obtain ⟨u1, h1, e1⟩ := kp_row hI (n := 915) (c := 170) (sz := 2) (j := 0) (by omega) (by decide) (by decide) (by omega) (by omega) h
  obtain ⟨u2, h2, e2⟩ := law4_it hI 16 0 q_F u1 (by omega) (by rw [q_F_eq]; omega) h1
  obtain ⟨u3, h3, e3⟩ := law2_it hI 400 0 q_F u2 (by omega) (by rw [q_F_eq]; omega) h2
  refine ⟨u3, h3, ?_⟩
  unfold m_X11_keepsLaw
  simp only [lit_n]
  refine (e1 _).trans ?_
  rw [e2, e3]
theorem image_w {x1 : Int32} (hI : ∀ n u, n < 1780 → I n u → ∃ r u', m_X11_keeps (u.1 (psC n) (psJ n)) u = some (r, u') ∧ I (n + 1) (q_up u' (psC n) (psJ n) r)) {u : qS} (h : I 0 u) : ∃ u2, I 1780 u2 ∧ ∀ K : qS → qR, (q_it1 (m_X11_image_L35 x1 (fun u_8 => q_bd (m_X11_keepsTold u_8) fun _ u_9 => q_it1 (m_X11_image_L70 x1 (fun u_12 => q_bd (m_X11_keepsLaw u_12) fun _ u_13 => K u_13)) q_F (nI 0) u_9)) q_F (nI 0) u) = K u2 := by
  obtain ⟨u1, h1, e1⟩ := gbI hI (L := 136) (c := 164) (sz := 136) (off := 0) (by omega) (by omega) (fun i hi => ⟨by omega, by have := ps_all (0 + i) (by omega); omega, by have := ps_all (0 + i) (by omega); omega⟩) h
  obtain ⟨u2, h2, e2⟩ := told_w hI h1
  obtain ⟨u3, h3, e3⟩ := gbI hI (L := 600) (c := 167) (sz := 600) (off := 315) (by omega) (by omega) (fun i hi => ⟨by omega, by have := ps_all (315 + i) (by omega); omega, by have := ps_all (315 + i) (by omega); omega⟩) h2
  obtain ⟨u4, h4, e4⟩ := law_w hI h3
  refine ⟨u4, h4, fun K => ?_⟩
  have f1 : ∀ K, m_X11_image_L35 x1 K = gb 136 164 136 K := fun K => by funext s i u; unfold m_X11_image_L35 gb; simp only [lit_n]
  have f2 : ∀ K, m_X11_image_L70 x1 K = gb 600 167 600 K := fun K => by funext s i u; unfold m_X11_image_L70 gb; simp only [lit_n]
  rw [f1, e1, e2, q_bd_s', f2, e3, e4, q_bd_s']
end
/-! taken -/
def TK (y : qS) (n : Nat) (u : qS) : Prop := n < 1900 ∧ u.1 163 54 = nI n ∧ u.1 163 52 = nI 1 ∧ u.1 163 53 = nI 1 ∧ (∀ p, p < n → u.1 187 p = y.1 (psC p) (psJ p)) ∧ (∀ c, c ≠ 187 → c ≠ 163 → u.1 c = y.1 c) ∧ ∀ j, j < 52 ∨ 54 < j → u.1 163 j = y.1 163 j
def RT (y : qS) (n : Nat) (u : qS) : Prop := n < 1900 ∧ u.1 163 54 = nI n ∧ u.1 163 52 = nI 0 ∧ u.1 163 53 = nI 1 ∧ u.1 187 = y.1 187 ∧ (∀ p, p < n → u.1 (psC p) (psJ p) = y.1 187 p) ∧ (∀ c, c ≠ 163 → c ≠ 164 → c ≠ 184 → c ≠ 178 → c ≠ 179 → c ≠ 167 → (c < 170 ∨ 176 < c) → u.1 c = y.1 c) ∧ ∀ j, (j < 52 ∨ 54 < j) → ¬ gsl j → u.1 163 j = y.1 163 j
theorem TK.step {y : qS} (n : Nat) (u : qS) (hn : n < 1780) (h : TK y n u) : ∃ r u', m_X11_keeps (u.1 (psC n) (psJ n)) u = some (r, u') ∧ TK y (n + 1) (q_up u' (psC n) (psJ n) r) := by
  obtain ⟨h0, h1, h2, h3, h4, h5, h6⟩ := h
  have hc := ps_cell hn
  have hv : u.1 (psC n) (psJ n) = y.1 (psC n) (psJ n) := by
    by_cases e : psC n = 163
    · rw [e, h6 _ (by rcases hc with hc | hc | hc | hc | hc | hc | hc <;> first | omega | (unfold gsl at hc; omega))]
    · rw [h5 _ (by omega) e]
  refine ⟨u.1 (psC n) (psJ n), q_up (q_up u 163 54 (nI (n + 1))) 187 n (u.1 (psC n) (psJ n)), ?_, ?_⟩
  · unfold m_X11_keeps
    simp only [lit_n]
    rw [h1, nI_add, q_let_s]
    have g1 : (q_up u 163 54 (nI (n + 1))).1 163 52 = nI 1 := h2
    have g2 : (q_up u 163 54 (nI (n + 1))).1 163 54 = nI (n + 1) := rfl
    rw [g1, if_neg (by decide), g2, nI_sub (by omega), show n + 1 - 1 = n by omega, ast_n (by omega) (by omega), Option.bind_some]
  · have e : q_up (q_up (q_up u 163 54 (nI (n + 1))) 187 n (u.1 (psC n) (psJ n))) (psC n) (psJ n) (u.1 (psC n) (psJ n)) = q_up (q_up u 163 54 (nI (n + 1))) 187 n (u.1 (psC n) (psJ n)) := by
      have e1 : (q_up (q_up u 163 54 (nI (n + 1))) 187 n (u.1 (psC n) (psJ n))).1 (psC n) (psJ n) = u.1 (psC n) (psJ n) := by
        rw [q_up_1, if_neg (by omega), q_up_1]
        by_cases e2 : psC n = 163
        · rw [if_pos e2, upd_g, if_neg (by rcases hc with hc | hc | hc | hc | hc | hc | hc <;> first | omega | (unfold gsl at hc; omega)), e2]
        · rw [if_neg e2]
      generalize q_up (q_up u 163 54 (nI (n + 1))) 187 n (u.1 (psC n) (psJ n)) = w at e1 ⊢
      rw [← e1]
      refine Prod.ext ?_ rfl
      funext c j
      rw [q_up_1]
      by_cases e2 : c = psC n
      · rw [if_pos e2, upd_g]
        by_cases e3 : j = psJ n
        · rw [if_pos e3, e2, e3]
        · rw [if_neg e3, e2]
      · rw [if_neg e2]
    rw [e]
    refine ⟨by omega, rfl, h2, h3, fun p hp => ?_, fun c c1 c2 => ?_, fun j hj => ?_⟩
    · rw [q_up_1, if_pos rfl, upd_g]
      by_cases e2 : p = n
      · rw [if_pos e2, e2, hv]
      · rw [if_neg e2]; exact h4 p (by omega)
    · rw [q_up_1, if_neg c1, q_up_1, if_neg c2]; exact h5 c c1 c2
    · rw [q_up_1, if_neg (by omega), q_up_1, if_pos rfl, upd_g, if_neg (by omega)]; exact h6 j hj
theorem RT.step {y : qS} (n : Nat) (u : qS) (hn : n < 1780) (h : RT y n u) : ∃ r u', m_X11_keeps (u.1 (psC n) (psJ n)) u = some (r, u') ∧ RT y (n + 1) (q_up u' (psC n) (psJ n) r) := by
  obtain ⟨h0, h1, h2, h3, h4, h5, h6, h7⟩ := h
  have hc := ps_cell hn
  have hj : psC n = 163 → gsl (psJ n) := fun e => by
    rcases hc with hc | hc | hc | hc | hc | hc | hc
    · omega
    · exact hc.2
    all_goals omega
  refine ⟨y.1 187 n, q_up u 163 54 (nI (n + 1)), ?_, ?_⟩
  · unfold m_X11_keeps
    simp only [lit_n]
    rw [h1, nI_add, q_let_s]
    have g1 : (q_up u 163 54 (nI (n + 1))).1 163 52 = nI 0 := h2
    have g2 : (q_up u 163 54 (nI (n + 1))).1 163 54 = nI (n + 1) := rfl
    have g3 : (q_up u 163 54 (nI (n + 1))).1 187 = y.1 187 := h4
    rw [g1, if_pos (by decide), g2, nI_sub (by omega), show n + 1 - 1 = n by omega, ald_n (by omega) (by omega), Option.bind_some, g3]
  · have hs : ∀ j, j = 52 ∨ j = 53 ∨ j = 54 → (q_up (q_up u 163 54 (nI (n + 1))) (psC n) (psJ n) (y.1 187 n)).1 163 j = (q_up u 163 54 (nI (n + 1))).1 163 j := fun j h8 => by
      rw [q_up_1]
      by_cases e : 163 = psC n
      · have := hj e.symm
        rw [if_pos e, upd_g, if_neg (by unfold gsl at this; omega), ← e]
      · rw [if_neg e]
    refine ⟨by omega, by rw [hs 54 (by omega)]; rfl, by rw [hs 52 (by omega)]; exact h2, by rw [hs 53 (by omega)]; exact h3, ?_, fun p hp => ?_, fun c c1 c2 c3 c4 c5 c6 c7 => ?_, fun j h8 h9 => ?_⟩
    · rw [q_up_1, if_neg (by omega), q_up_1, if_neg (by omega)]; exact h4
    · rw [q_up_1]
      by_cases e : psC p = psC n
      · rw [if_pos e, upd_g]
        by_cases e2 : psJ p = psJ n
        · rw [if_pos e2, ps_inj (by omega) hn e e2]
        · have hp' : p < n := by
            have : p ≠ n := fun e3 => e2 (by rw [e3])
            omega
          rw [if_neg e2, ← e, q_up_1]
          have := h5 p hp'
          by_cases e3 : psC p = 163
          · have g := hj (by rw [← e]; exact e3)
            have hcp := ps_cell (show p < 1780 by omega)
            have gp : gsl (psJ p) := by
              rcases hcp with hc | hc | hc | hc | hc | hc | hc
              · omega
              · exact hc.2
              all_goals omega
            rw [if_pos e3, upd_g, if_neg (by unfold gsl at gp; omega), ← e3]; exact this
          · rw [if_neg e3]; exact this
      · have hp' : p < n := by
          have : p ≠ n := fun e3 => e (by rw [e3])
          omega
        rw [if_neg e, q_up_1]
        have := h5 p hp'
        by_cases e3 : psC p = 163
        · have hcp := ps_cell (show p < 1780 by omega)
          have gp : gsl (psJ p) := by
            rcases hcp with hc | hc | hc | hc | hc | hc | hc
            · omega
            · exact hc.2
            all_goals omega
          rw [if_pos e3, upd_g, if_neg (by unfold gsl at gp; omega), ← e3]; exact this
        · rw [if_neg e3]; exact this
    · rw [q_up_1, if_neg (by omega), q_up_1, if_neg c1]; exact h6 c c1 c2 c3 c4 c5 c6 c7
    · rw [q_up_1]
      by_cases e : 163 = psC n
      · have g := hj e.symm
        have : j ≠ psJ n := fun e2 => h9 (by rw [e2]; exact g)
        rw [if_pos e, upd_g, if_neg this, ← e, q_up_1, if_pos rfl, upd_g, if_neg (by omega)]; exact h7 j h8 h9
      · rw [if_neg e, q_up_1, if_pos rfl, upd_g, if_neg (by omega)]; exact h7 j h8 h9
/-- the image read: every place is where it was put -/
theorem ld_p (im : Nat → Int32) (p : Nat) (hp : p < 1780) : ld im (psC p) (psJ p) = im p := by
  have ea := ps_all p hp
  unfold ld
  by_cases a1 : p < 136
  · rw [show psC p = 164 by omega, show psJ p = p by omega, if_pos rfl]
  by_cases a2 : p < 145
  · rw [show psC p = 163 by omega, if_neg (by omega), if_pos rfl]
    have : p = 136 ∨ p = 137 ∨ p = 138 ∨ p = 139 ∨ p = 140 ∨ p = 141 ∨ p = 142 ∨ p = 143 ∨ p = 144 := by omega
    rcases this with rfl | rfl | rfl | rfl | rfl | rfl | rfl | rfl | rfl <;> rfl
  by_cases a3 : p < 161
  · rw [show psC p = 184 by omega, show psJ p = p - 145 by omega, if_neg (by omega), if_neg (by omega), if_pos rfl, show 145 + (p - 145) = p by omega]
  by_cases a4 : p < 251
  · rw [show psC p = 178 by omega, show psJ p = p - 161 by omega, if_neg (by omega), if_neg (by omega), if_neg (by omega), if_pos rfl, show 161 + (p - 161) = p by omega]
  by_cases a5 : p < 315
  · rw [show psC p = 179 by omega, show psJ p = p - 251 by omega, if_neg (by omega), if_neg (by omega), if_neg (by omega), if_neg (by omega), if_pos rfl, show 251 + (p - 251) = p by omega]
  by_cases a6 : p < 915
  · rw [show psC p = 167 by omega, show psJ p = p - 315 by omega, if_neg (by omega), if_neg (by omega), if_neg (by omega), if_neg (by omega), if_neg (by omega), if_pos rfl, show 315 + (p - 315) = p by omega]
  by_cases a7 : p < 916
  · rw [show p = 915 by omega]; rfl
  by_cases a8 : p < 980
  · have hm : (p - 916) % 4 = 0 ∨ (p - 916) % 4 = 1 ∨ (p - 916) % 4 = 2 ∨ (p - 916) % 4 = 3 := by omega
    rw [show psC p = 171 + (p - 916) % 4 by omega, show psJ p = (p - 916) / 4 by omega, if_neg (by omega), if_neg (by omega), if_neg (by omega), if_neg (by omega), if_neg (by omega), if_neg (by omega), if_neg (by omega)]
    rcases hm with e | e | e | e
    · rw [e, if_pos rfl, show 916 + 4 * ((p - 916) / 4) = p by omega]
    · rw [e, if_neg (by omega), if_pos rfl, show 917 + 4 * ((p - 916) / 4) = p by omega]
    · rw [e, if_neg (by omega), if_neg (by omega), if_pos rfl, show 918 + 4 * ((p - 916) / 4) = p by omega]
    · rw [e, if_neg (by omega), if_neg (by omega), if_neg (by omega), if_pos rfl, show 919 + 4 * ((p - 916) / 4) = p by omega]
  · have hm : (p - 980) % 2 = 0 ∨ (p - 980) % 2 = 1 := by omega
    rw [show psC p = 175 + (p - 980) % 2 by omega, show psJ p = (p - 980) / 2 by omega, if_neg (by omega), if_neg (by omega), if_neg (by omega), if_neg (by omega), if_neg (by omega), if_neg (by omega), if_neg (by omega), if_neg (by omega), if_neg (by omega), if_neg (by omega), if_neg (by omega)]
    rcases hm with e | e
    · rw [e, if_pos rfl, show 980 + 2 * ((p - 980) / 2) = p by omega]
    · rw [e, if_neg (by omega), show 981 + 2 * ((p - 980) / 2) = p by omega]
/-- what is alike place by place is alike -/
theorem ZE.ps {Z Z2 : qX} (h : ∀ p, p < 1780 → Z2 (psC p) (psJ p) = Z (psC p) (psJ p)) : ZE Z Z2 := by
  have g : ∀ p c j, p < 1780 → psC p = c → psJ p = j → Z2 c j = Z c j := fun p c j a1 a2 a3 => by
    have := h p a1
    rw [a2, a3] at this
    exact this
  refine ⟨fun j hj => g j 164 j (by omega) (by have := ps_all j (by omega); omega) (by have := ps_all j (by omega); omega), fun j hj => ?_, fun i hi => g (315 + i) 167 i (by omega) (by have := ps_all (315 + i) (by omega); omega) (by have := ps_all (315 + i) (by omega); omega), g 915 170 0 (by omega) (by decide) (by decide), fun c a1 a2 i hi => g (916 + 4 * i + (c - 171)) c i (by omega) (by have := ps_all (916 + 4 * i + (c - 171)) (by omega); omega) (by have := ps_all (916 + 4 * i + (c - 171)) (by omega); omega), fun c a1 a2 i hi => g (980 + 2 * i + (c - 175)) c i (by omega) (by have := ps_all (980 + 2 * i + (c - 175)) (by omega); omega) (by have := ps_all (980 + 2 * i + (c - 175)) (by omega); omega), fun j hj => g (161 + j) 178 j (by omega) (by have := ps_all (161 + j) (by omega); omega) (by have := ps_all (161 + j) (by omega); omega), fun j hj => g (251 + j) 179 j (by omega) (by have := ps_all (251 + j) (by omega); omega) (by have := ps_all (251 + j) (by omega); omega), fun j hj => g (145 + j) 184 j (by omega) (by have := ps_all (145 + j) (by omega); omega) (by have := ps_all (145 + j) (by omega); omega)⟩
  unfold gsl at hj
  rcases hj with rfl | rfl | rfl | rfl | rfl | rfl | rfl | rfl | rfl
  · exact g 136 163 6 (by omega) (by decide) (by decide)
  · exact g 137 163 7 (by omega) (by decide) (by decide)
  · exact g 138 163 8 (by omega) (by decide) (by decide)
  · exact g 139 163 9 (by omega) (by decide) (by decide)
  · exact g 140 163 10 (by omega) (by decide) (by decide)
  · exact g 141 163 11 (by omega) (by decide) (by decide)
  · exact g 142 163 36 (by omega) (by decide) (by decide)
  · exact g 143 163 38 (by omega) (by decide) (by decide)
  · exact g 144 163 48 (by omega) (by decide) (by decide)
theorem RW.h6 {b : Nat} {X Z : qX} (h : RW b X Z) : X (b + 11) 6 = nI 0 ∨ X (b + 11) 6 = nI 1 := by
  obtain ⟨N, n1, n2, n3, n4, n5⟩ := h.2.2.2.2.1
  exact n4
theorem TK.val {y u : qS} {n : Nat} (h : TK y n u) (p : Nat) (hp : p < 1780) : u.1 (psC p) (psJ p) = y.1 (psC p) (psJ p) := by
  obtain ⟨h0, h1, h2, h3, h4, h5, h6⟩ := h
  have hc := ps_cell hp
  by_cases e : psC p = 163
  · rw [e, h6 _ (by rcases hc with hc | hc | hc | hc | hc | hc | hc <;> first | omega | (unfold gsl at hc; omega))]
  · rw [h5 _ (by omega) e]
theorem up163 {u : qS} {j i : Nat} {v : Int32} (h : i ≠ j) : (q_up u 163 j v).1 163 i = u.1 163 i := by
  rw [q_up_1, if_pos rfl, upd_g, if_neg h]
theorem sim_image_1 : SIM (m_X10_image (nI 1)) (m_X11_image (nI 1)) := fun x y0 h0 => by
  have h := h0.told (v := nI 0)
  obtain ⟨y, hy⟩ : ∃ y, q_up y0 163 0 (nI 0) = y := ⟨_, rfl⟩
  rw [hy] at h
  obtain ⟨x2, c1, c2⟩ := whole_cp (u := x) (k := 33) (k1 := 1) (by omega) h.1.h6
  have t0 : TK y 0 (q_up (q_up (q_up y 163 52 (nI 1)) 163 53 (nI 1)) 163 54 (nI 0)) := by
    refine ⟨by omega, rfl, rfl, rfl, fun p hp => by omega, fun c h1 h2 => ?_, fun j hj => ?_⟩
    · rw [q_up_1, if_neg h2, q_up_1, if_neg h2, q_up_1, if_neg h2]
    · rw [up163 (by omega), up163 (by omega), up163 (by omega)]
  obtain ⟨y2, t1, e1⟩ := image_w (x1 := nI 1) (fun n u => TK.step n u) t0
  have cx : ∀ c, c ≤ 33 ∨ 65 ≤ c → x2.1 c = x.1 c := fun c hc => c2.1 c (fun o ho => by have h1 := ho.1; have h2 := ho.2.1; omega)
  have dx : ∀ c, c ≠ 0 → (q_up x2 0 3 (nI 1)).1 c = x2.1 c := fun c hc => by rw [q_up_1, if_neg hc]
  have dz : ∀ s, s ≠ 3 → (q_up x2 0 3 (nI 1)).1 0 s = x.1 0 s := fun s hs => by rw [q_up_1, if_pos rfl, upd_g, if_neg hs, cx 0 (by omega)]
  refine ⟨nI 1, q_up x2 0 3 (nI 1), y2, ?_, ?_, ?_⟩
  · unfold m_X10_image
    simp only [lit_n]
    rw [if_neg (by decide), c1, q_bd_s', bz_1, q_let_s]
  · unfold m_X11_image
    simp only [lit_n]
    rw [hy, q_let_s, q_jn, if_neg (by decide)]
    dsimp only
    rw [bz_1, q_let_s, bz_1, q_let_s, q_let_s]
    refine (e1 _).trans ?_
    rw [if_neg (by decide)]
  · have tv := fun p hp => t1.val p hp
    obtain ⟨b0, b1, b2, b3, b4, b5, b6⟩ := t1
    refine ⟨?_, ?_, ?_, ?_, Or.inr ⟨rfl, b3, ?_⟩⟩
    · exact h.1.mv (XP.of (fun c a1 a2 _ _ => by rw [dx c (by omega), cx c (by omega)])) (ZE.ps tv)
    · exact h.2.1.fr (dz 5 (by omega)) (dz 6 (by omega)) (fun c a1 a2 => by rw [dx c (by omega), cx c (by omega)]) (b6 3 (by omega)) (fun j hj => b6 j (by omega)) (b5 165 (by omega) (by omega))
    · exact h.2.2.1.fr (by rw [dx 67 (by omega), cx 67 (by omega)]) (by rw [dx 68 (by omega), cx 68 (by omega)]) (by rw [dx 66 (by omega), cx 66 (by omega)]) (b6 14 (by omega)) (b6 34 (by omega)) (b6 35 (by omega)) (b5 168 (by omega) (by omega))
    · exact h.2.2.2.1.fr (by rw [dx 88 (by omega), cx 88 (by omega)]) (by rw [dx 90 (by omega), cx 90 (by omega)]) (b6 5 (by omega)) (b5 169 (by omega) (by omega))
    · have r1 := c2.rw h.1 (Z2 := ld (y2.1 187)) (ZE.ps (fun p hp => by rw [ld_p _ p hp]; exact b4 p hp))
      exact r1.mv (XP.of (fun c a1 a2 _ _ => dx c (by omega))) ZE.rfl'
theorem sim_image_0 : SIM (m_X10_image (nI 0)) (m_X11_image (nI 0)) := fun x y0 h0 => by
  have h := h0.told (v := nI 0)
  obtain ⟨y, hy⟩ : ∃ y, q_up y0 163 0 (nI 0) = y := ⟨_, rfl⟩
  rw [hy] at h
  rcases h.2.2.2.2 with ⟨p1, p2⟩ | ⟨p1, p2, p3⟩
  · refine ⟨nI 0, x, y, ?_, ?_, h⟩
    · unfold m_X10_image
      simp only [lit_n]
      rw [if_pos (by decide), p1, if_pos (by decide)]
    · unfold m_X11_image
      simp only [lit_n]
      rw [hy, q_let_s, q_jn, if_pos (by decide), p2, if_pos (by decide)]
  · obtain ⟨x2, c1, c2⟩ := whole_cp (u := x) (k := 1) (k1 := 33) (by omega) p3.h6
    have t0 : RT y 0 (q_up (q_up (q_up y 163 52 (nI 0)) 163 53 (nI 1)) 163 54 (nI 0)) := by
      refine ⟨by omega, rfl, rfl, rfl, rfl, fun p hp => by omega, fun c h1 _ _ _ _ _ _ => ?_, fun j hj _ => ?_⟩
      · rw [q_up_1, if_neg h1, q_up_1, if_neg h1, q_up_1, if_neg h1]
      · rw [up163 (by omega), up163 (by omega), up163 (by omega)]
    obtain ⟨y2, t1, e1⟩ := image_w (x1 := nI 0) (fun n u => RT.step n u) t0
    have cx : ∀ c, c ≤ 1 ∨ 33 ≤ c → x2.1 c = x.1 c := fun c hc => c2.1 c (fun o ho => by have h1 := ho.1; have h2 := ho.2.1; omega)
    have dx : ∀ c, c ≠ 0 → (q_up x2 0 5 (nI 0)).1 c = x2.1 c := fun c hc => by rw [q_up_1, if_neg hc]
    have dz : ∀ s, s ≠ 5 → (q_up x2 0 5 (nI 0)).1 0 s = x.1 0 s := fun s hs => by rw [q_up_1, if_pos rfl, upd_g, if_neg hs, cx 0 (by omega)]
    refine ⟨nI 1, q_up x2 0 5 (nI 0), q_up y2 163 3 (nI 0), ?_, ?_, ?_⟩
    · unfold m_X10_image m_X10_forget
      simp only [lit_n]
      rw [if_pos (by decide), p1, if_neg (by decide), c1, q_bd_s', q_let_s, q_bd_s']
    · unfold m_X11_image
      simp only [lit_n]
      rw [hy, q_let_s, q_jn, if_pos (by decide), p2, if_neg (by decide)]
      dsimp only
      rw [bz_0, q_let_s, bz_1, q_let_s, q_let_s]
      refine (e1 _).trans ?_
      rw [if_pos (by decide), q_let_s]
    · obtain ⟨b0, b1, b2, b3, b4, b5, b6, b7⟩ := t1
      have g : ∀ j, ¬ gsl j → (j < 52 ∨ 54 < j) → j ≠ 3 → (q_up y2 163 3 (nI 0)).1 163 j = y.1 163 j := fun j h1 h2 h3 => by rw [up163 h3]; exact b7 j h2 h1
      have gc : ∀ c, c ≠ 163 → (q_up y2 163 3 (nI 0)).1 c = y2.1 c := fun c hc => by rw [q_up_1, if_neg hc]
      obtain ⟨m, q, k1, k2, k3, k4, k5, k6⟩ := h.2.1
      refine ⟨?_, KR.no k2 rfl (by rw [dz 6 (by omega)]; exact k5) rfl, ?_, ?_, Or.inr ⟨by rw [dz 3 (by omega)]; exact p1, by rw [up163 (by omega)]; exact b3, ?_⟩⟩
      · have r1 := c2.rw p3 (Z2 := (q_up y2 163 3 (nI 0)).1) (ZE.ps (fun p hp => by
          rw [ld_p _ p hp, ← b5 p hp]
          by_cases e : psC p = 163
          · have hc := ps_cell hp
            have hg : gsl (psJ p) := by
              rcases hc with hc | hc | hc | hc | hc | hc | hc
              · omega
              · exact hc.2
              all_goals omega
            rw [e, up163 (by unfold gsl at hg; omega)]
          · rw [gc _ e]))
        exact r1.mv (XP.of (fun c a1 a2 _ _ => dx c (by omega))) ZE.rfl'
      · exact h.2.2.1.fr (by rw [dx 67 (by omega), cx 67 (by omega)]) (by rw [dx 68 (by omega), cx 68 (by omega)]) (by rw [dx 66 (by omega), cx 66 (by omega)]) (g 14 (by unfold gsl; omega) (by omega) (by omega)) (g 34 (by unfold gsl; omega) (by omega) (by omega)) (g 35 (by unfold gsl; omega) (by omega) (by omega)) (by rw [gc 168 (by omega)]; exact b6 168 (by omega) (by omega) (by omega) (by omega) (by omega) (by omega) (by omega))
      · exact h.2.2.2.1.fr (by rw [dx 88 (by omega), cx 88 (by omega)]) (by rw [dx 90 (by omega), cx 90 (by omega)]) (g 5 (by unfold gsl; omega) (by omega) (by omega)) (by rw [gc 169 (by omega)]; exact b6 169 (by omega) (by omega) (by omega) (by omega) (by omega) (by omega) (by omega))
      · rw [gc 187 (by omega), b4]
        exact p3.mv (XP.of (fun c a1 a2 _ _ => by rw [dx c (by omega), cx c (by omega)])) ZE.rfl'
