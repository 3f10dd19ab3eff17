/-! LAYER 2: THE CALLS, 28: both readers, step by step -/
def tx (N : Nat) (z : Nat → Int) (i : Nat) : Nat × Nat := tt N z (tq N z i)
def TO (t : Nat × Nat) : Prop := t.1 ≤ 4 ∧ (t.1 = 4 → 40 ≤ t.2 ∧ t.2 ≤ 62) ∧ (t.1 = 2 → t.2 < 25) ∧ (t.1 = 3 → t.2 < 10000)
theorem tt_ok {N : Nat} {z : Nat → Int} (hT : TP N z) {q : Nat} (hq : q ≤ N) : TO (tt N z q) := by
  unfold tt
  split
  · exact ⟨by decide, (fun h => by cases h), (fun h => by cases h), (fun h => by cases h)⟩
  · split
    · cases hf : fI z q (te N z q) 25 0 with
      | none => exact ⟨by decide, (fun h => by cases h), (fun h => by cases h), (fun h => by cases h)⟩
      | some w => exact ⟨by show 2 ≤ 4; omega, (fun h => by cases h), fun _ => by have := (fI_s _ _ _ hf).2.1; show w < 25; omega, (fun h => by cases h)⟩
    · split
      · rename_i hD
        split
        · rename_i h5
          rename_i hN hL
          refine ⟨by show 3 ≤ 4; omega, (fun h => by cases h), (fun h => by cases h), fun _ => ?_⟩
          have ht' : te N z q = rnF zD z (N - (q + 1)) (q + 1) := by unfold te; rw [if_neg hL, if_pos hD]
          have := nv_lt (z := z) (te N z q - q) q 0 0 (fun p p1 p2 => by
            by_cases e2 : p = q
            · rw [e2]; exact hD
            · exact rn_in (N - (q + 1)) (q + 1) p (by omega) (by rw [← ht']; omega)) (by decide)
          have h4 : 10 ^ (0 + (te N z q - q)) ≤ 10 ^ 4 := Nat.pow_le_pow_right (by omega) (by omega)
          show nv z (te N z q - q) q 0 < 10000
          omega
        · exact ⟨by decide, (fun h => by cases h), (fun h => by cases h), (fun h => by cases h)⟩
      · split
        · rename_i hS
          refine ⟨by show 4 ≤ 4; omega, fun _ => ?_, (fun h => by cases h), (fun h => by cases h)⟩
          show 40 ≤ (z q).toNat ∧ (z q).toNat ≤ 62
          unfold zS at hS
          rw [Bool.or_eq_true, Bool.or_eq_true, Bool.or_eq_true, decide_eq_true_eq, decide_eq_true_eq, decide_eq_true_eq, decide_eq_true_eq] at hS
          omega
        · exact ⟨by decide, (fun h => by cases h), (fun h => by cases h), (fun h => by cases h)⟩
theorem ck_eq (si : Nat) (t : Nat × Nat) : ck si t = if t.1 = 0 then 0 else if t.1 = 2 then (if sA si ≤ t.2 ∧ t.2 < sE si then 256 + (t.2 - sA si) else 2) else if t.1 = 3 then 1 else if t.1 = 4 then t.2 else 2 := rfl
theorem ck_all {si : Nat} {t : Nat × Nat} (h : TO t) (hs : sE si ≤ 25) : (t.1 = 0 ∧ ck si t = 0) ∨ (t.1 = 1 ∧ ck si t = 2) ∨ (t.1 = 2 ∧ sA si ≤ t.2 ∧ t.2 < sE si ∧ ck si t = 256 + (t.2 - sA si)) ∨ (t.1 = 2 ∧ (t.2 < sA si ∨ sE si ≤ t.2) ∧ ck si t = 2) ∨ (t.1 = 3 ∧ ck si t = 1) ∨ (t.1 = 4 ∧ 40 ≤ t.2 ∧ t.2 ≤ 62 ∧ ck si t = t.2) := by
  obtain ⟨h1, h2, h3, h4⟩ := h
  rw [ck_eq]
  by_cases e0 : t.1 = 0
  · rw [if_pos e0]; exact Or.inl ⟨e0, rfl⟩
  rw [if_neg e0]
  by_cases e2 : t.1 = 2
  · rw [if_pos e2]
    by_cases e : sA si ≤ t.2 ∧ t.2 < sE si
    · rw [if_pos e]; exact Or.inr (Or.inr (Or.inl ⟨e2, e.1, e.2, rfl⟩))
    · rw [if_neg e]; exact Or.inr (Or.inr (Or.inr (Or.inl ⟨e2, by omega, rfl⟩)))
  rw [if_neg e2]
  by_cases e3 : t.1 = 3
  · rw [if_pos e3]; exact Or.inr (Or.inr (Or.inr (Or.inr (Or.inl ⟨e3, rfl⟩))))
  rw [if_neg e3]
  by_cases e4 : t.1 = 4
  · rw [if_pos e4]; exact Or.inr (Or.inr (Or.inr (Or.inr (Or.inr ⟨e4, (h2 e4).1, (h2 e4).2, rfl⟩))))
  · rw [if_neg e4]; exact Or.inr (Or.inl ⟨by omega, rfl⟩)
/-- both tapes, the tokens cut -/
def LX (N : Nat) (z : Nat → Int) (si T : Nat) (u : qS) : Prop := u.1 67 1 = nI N ∧ u.1 67 5 = nI (T + 1) ∧ ∀ i, i ≤ T → u.1 69 i = nI (ck si (tx N z i)) ∧ u.1 70 i = nI (tq N z i) ∧ ((tx N z i).1 = 3 → u.1 71 i = nI (tx N z i).2)
def CX (N : Nat) (z : Nat → Int) (si T : Nat) (u0 v0 : qS) : Prop := TP N z ∧ si < 3 ∧ T ≤ N ∧ tq N z T = N ∧ LX N z si T u0 ∧ TV N z v0 ∧ ∀ i, i < 129 → v0.1 169 i = nI (wCh i)
def AT (N : Nat) (z : Nat → Int) (v : qS) (i : Nat) : Prop := v.1 163 15 = nI (tpo N z (i + 1)) ∧ v.1 163 16 = nI (tq N z i) ∧ v.1 163 17 = nI (tx N z i).1 ∧ (2 ≤ (tx N z i).1 → v.1 163 18 = nI (tx N z i).2)
/-- the class's frame: its reader's law, paths, plan; its next token -/
def GC (u0 u : qS) : Prop := (∀ c, (c < 66 ∨ 88 ≤ c ∨ (67 ≤ c ∧ c ≤ 71)) → u.1 c = u0.1 c) ∧ u.2 = u0.2
def NX (u0 u : qS) (i : Nat) : Prop := u.1 66 6 = nI i ∧ ∀ j, j ≠ 6 → u.1 66 j = u0.1 66 j
def FC (u0 u : qS) (w p : Nat) : Prop := u.1 66 0 = nI w ∧ u.1 66 1 = nI p ∧ GC u0 u
/-- the reference's frame -/
def GV (v0 v : qS) : Prop := (∀ c, c ≠ 163 → (c < 171 ∨ 179 < c) → v.1 c = v0.1 c) ∧ (∀ j, (j < 15 ∨ 18 < j) → j ≠ 28 → j ≠ 29 → j ≠ 31 → j ≠ 32 → j ≠ 33 → v.1 163 j = v0.1 163 j) ∧ (∀ c j, 171 ≤ c → c ≤ 174 → j < 32 → v.1 c j = v0.1 c j) ∧ (∀ c j, 175 ≤ c → c ≤ 176 → j < 800 → v.1 c j = v0.1 c j) ∧ (∀ j, j < 90 → v.1 178 j = v0.1 178 j) ∧ (∀ j, j < 64 → v.1 179 j = v0.1 179 j) ∧ v.2 = v0.2
def FV (v0 v : qS) (w p : Nat) : Prop := v.1 163 32 = nI w ∧ v.1 163 33 = nI p ∧ GV v0 v
theorem GV.rfl' {v : qS} : GV v v := ⟨fun _ _ _ => rfl, fun _ _ _ _ _ _ _ => rfl, fun _ _ _ _ _ => rfl, fun _ _ _ _ _ => rfl, fun _ _ => rfl, fun _ _ => rfl, rfl⟩
theorem GV.trans {a b c : qS} (h : GV a b) (h2 : GV b c) : GV a c := ⟨fun x p q => (h2.1 x p q).trans (h.1 x p q), fun j p q r s t w => (h2.2.1 j p q r s t w).trans (h.2.1 j p q r s t w), fun x j p q r => (h2.2.2.1 x j p q r).trans (h.2.2.1 x j p q r), fun x j p q r => (h2.2.2.2.1 x j p q r).trans (h.2.2.2.1 x j p q r), fun j p => (h2.2.2.2.2.1 j p).trans (h.2.2.2.2.1 j p), fun j p => (h2.2.2.2.2.2.1 j p).trans (h.2.2.2.2.2.1 j p), h2.2.2.2.2.2.2.trans h.2.2.2.2.2.2⟩
theorem GC.trans {a b c : qS} (h : GC a b) (h2 : GC b c) : GC a c := ⟨fun x p => (h2.1 x p).trans (h.1 x p), h2.2.trans h.2⟩
section
variable {N T si : Nat} {z : Nat → Int} {u0 v0 u v : qS}
theorem CX.tok (h : CX N z si T u0 v0) (i : Nat) : TO (tx N z i) := tt_ok h.1 (tq_le h.1 i)
theorem CX.se (h : CX N z si T u0 v0) : sE si ≤ 25 := (si_t si h.2.1).2.2.2.2
theorem CX.T4 (h : CX N z si T u0 v0) : T ≤ 400 := by have := h.1.1; have := h.2.2.1; omega
theorem CX.end0 (h : CX N z si T u0 v0) : ck si (tx N z T) = 0 := by
  have : tx N z T = (0, 0) := by
    unfold tx tt
    rw [h.2.2.2.1, if_pos (Nat.le_refl _)]
  rw [this]; rfl
theorem CX.lt (h : CX N z si T u0 v0) {i : Nat} (hi : i ≤ T) (hk : ck si (tx N z i) ≠ 0) : i < T := by
  by_cases e : i = T
  · subst e; exact absurd h.end0 hk
  · omega
theorem ck_lt (h : CX N z si T u0 v0) (i : Nat) : ck si (tx N z i) < 300 := by
  have := ck_all (si := si) (h.tok i) h.se
  have := h.se
  omega
theorem GC.lx (h : GC u0 u) (hL : LX N z si T u0) : LX N z si T u := by
  unfold LX
  rw [h.1 67 (by omega), h.1 69 (by omega), h.1 70 (by omega), h.1 71 (by omega)]
  exact hL
theorem kind_c (hX : CX N z si T u0 v0) (hG : GC u0 u) {i : Nat} (h6 : u.1 66 6 = nI i) (hi : i ≤ T) : m_X6_kind 66 u = some (nI (ck si (tx N z i)), u) := by
  have hT := hX.T4
  obtain ⟨l1, l2, l3⟩ := hG.lx hX.2.2.2.2.1
  unfold m_X6_kind
  simp only [lit_n]
  rw [h6, if_neg (by rw [nI_t (by omega)]; omega), show 66 + 1 = 67 from rfl, l2, if_neg (by rw [nI_t (by omega), nI_t (by omega)]; omega), ald_n (by omega) (by omega), Option.bind_some, show 66 + 3 = 69 from rfl, (l3 i hi).1]
theorem fail_c (hX : CX N z si T u0 v0) (hG : GC u0 u) {i w : Nat} (h6 : u.1 66 6 = nI i) (hi : i ≤ T) : ∃ u2, m_X6_fail 66 (nI w) u = some (nI 0, u2) ∧ FC u0 u2 w (tq N z i) := by
  have hT := hX.T4
  obtain ⟨l1, l2, l3⟩ := hG.lx hX.2.2.2.2.1
  refine ⟨q_up (q_up u 66 0 (nI w)) 66 1 (nI (tq N z i)), ?_, rfl, rfl, fun c hc => ?_, hG.2⟩
  · unfold m_X6_fail
    simp only [lit_n]
    have g6 : (q_up u 66 0 (nI w)).1 66 6 = nI i := h6
    have g5 : (q_up u 66 0 (nI w)).1 67 5 = nI (T + 1) := l2
    have g70 : (q_up u 66 0 (nI w)).1 70 i = nI (tq N z i) := (l3 i hi).2.1
    rw [q_let_s, q_jn, q_jn, g6, if_neg (by rw [nI_t (by omega)]; omega), show 66 + 1 = 67 from rfl, g5, if_neg (by rw [nI_t (by omega), nI_t (by omega)]; omega), ald_n (by omega) (by omega), Option.bind_some, show 66 + 4 = 70 from rfl, g70]
    dsimp only
    rw [q_let_s]
  · rw [q_up_1, if_neg (by omega), q_up_1, if_neg (by omega)]; exact hG.1 c hc
theorem nxt_c {i : Nat} (hG : GC u0 u) (hN : NX u0 u i) : GC u0 (q_up u 66 6 (u.1 66 6 + nI 1)) ∧ NX u0 (q_up u 66 6 (u.1 66 6 + nI 1)) (i + 1) := by
  refine ⟨⟨fun c hc => ?_, hG.2⟩, ?_, fun j hj => ?_⟩
  · rw [q_up_1, if_neg (by omega)]; exact hG.1 c hc
  · rw [hN.1, nI_add]; rfl
  · rw [q_up_1, if_pos rfl, upd_g, if_neg hj]; exact hN.2 j hj
theorem sign_r (hX : CX N z si T u0 v0) {i c : Nat} (hA : AT N z v i) (h1 : 40 ≤ c) (h2 : c ≤ 62) : m_X11_isSign (nI c) v = some (bI (decide (ck si (tx N z i) = c)), v) := by
  have ha := ck_all (si := si) (hX.tok i) hX.se
  obtain ⟨a1, a2, a3, a4⟩ := hA
  unfold m_X11_isSign
  simp only [lit_n]
  rw [a3]
  by_cases e4 : (tx N z i).1 = 4
  · rw [e4, if_pos rfl, a4 (by omega), nI_t (by omega), nI_t (by omega)]
    by_cases e : ck si (tx N z i) = c
    · rw [if_pos (by omega), decide_eq_true e]; rfl
    · rw [if_neg (by omega), decide_eq_false e]; rfl
  · rw [if_neg (by rw [nI_t (by omega), nI_t (by omega)]; omega), decide_eq_false (by omega)]; rfl
theorem word_is (hX : CX N z si T u0 v0) {i w : Nat} (hA : AT N z v i) (h1 : sA si ≤ w) (h2 : w < sE si) : m_X11_isWord (nI w) v = some (bI (decide (ck si (tx N z i) = 256 + (w - sA si))), v) := by
  have ha := ck_all (si := si) (hX.tok i) hX.se
  have hse := hX.se
  obtain ⟨a1, a2, a3, a4⟩ := hA
  unfold m_X11_isWord
  simp only [lit_n]
  rw [a3]
  by_cases e2 : (tx N z i).1 = 2
  · rw [e2, if_pos rfl, a4 (by omega)]
    have h25 := (hX.tok i).2.2.1 e2
    rw [nI_t (by omega), nI_t (by omega)]
    by_cases e : ck si (tx N z i) = 256 + (w - sA si)
    · rw [if_pos (by omega), decide_eq_true e]; rfl
    · rw [if_neg (by omega), decide_eq_false e]; rfl
  · rw [if_neg (by rw [nI_t (by omega), nI_t (by omega)]; omega), decide_eq_false (by omega)]; rfl
theorem errs_r {i w : Nat} (hA : AT N z v i) (hG : GV v0 v) : ∃ v2, m_X11_errs (nI w) v = some (mI, v2) ∧ FV v0 v2 w (tq N z i) := by
  refine ⟨q_up (q_up v 163 32 (nI w)) 163 33 (nI (tq N z i)), ?_, rfl, rfl, fun c h1 h2 => ?_, fun j h1 h2 h3 h4 h5 h6 => ?_, fun c j h1 h2 h3 => ?_, fun c j h1 h2 h3 => ?_, hG.2.2.2.2.1, hG.2.2.2.2.2.1, hG.2.2.2.2.2.2⟩
  · unfold m_X11_errs
    simp only [lit_n, mI_lit]
    have g : (q_up v 163 32 (nI w)).1 163 16 = nI (tq N z i) := hA.2.1
    rw [q_let_s, g, q_let_s]
  · rw [q_up_1, if_neg h1, q_up_1, if_neg h1]; exact hG.1 c h1 h2
  · rw [up163 h6, up163 h5]; exact hG.2.1 j h1 h2 h3 h4 h5 h6
  · rw [q_up_1, if_neg (by omega), q_up_1, if_neg (by omega)]; exact hG.2.2.1 c j h1 h2 h3
  · rw [q_up_1, if_neg (by omega), q_up_1, if_neg (by omega)]; exact hG.2.2.2.1 c j h1 h2 h3
/-- what reading leaves as it was -/
def KP (v v2 : qS) : Prop := (∀ c, c ≠ 163 → v2.1 c = v.1 c) ∧ (∀ j, j < 15 ∨ 18 < j → v2.1 163 j = v.1 163 j)
theorem read_r (hX : CX N z si T u0 v0) {i : Nat} (h15 : v.1 163 15 = nI (tpo N z i)) (hG : GV v0 v) : ∃ v2, m_X11_reads v = some (nI 0, v2) ∧ AT N z v2 i ∧ GV v0 v2 ∧ KP v v2 := by
  have hTV : TV N z v := ⟨by rw [hG.2.1 14 (by omega) (by omega) (by omega) (by omega) (by omega) (by omega)]; exact hX.2.2.2.2.2.1.1, fun p hp => by rw [hG.1 168 (by omega) (by omega)]; exact hX.2.2.2.2.2.1.2 p hp⟩
  obtain ⟨w', e1, e2⟩ := reads_s hX.1 hTV (fun j hj => by rw [hG.1 169 (by omega) (by omega)]; exact hX.2.2.2.2.2.2 j hj) h15
  refine ⟨_, e1, ⟨rv_15, rv_16, rv_17, fun h2 => by rw [rv_18]; exact e2 h2⟩, ⟨fun c h1 h2 => ?_, fun j h1 h2 h3 h4 h5 h6 => ?_, fun c j h1 h2 h3 => ?_, fun c j h1 h2 h3 => ?_, fun j hj => ?_, fun j hj => ?_, hG.2.2.2.2.2.2⟩, fun c hc => rv_1 hc, fun j hj => rv_o hj⟩
  · rw [rv_1 h1]; exact hG.1 c h1 h2
  · rw [rv_o h1]; exact hG.2.1 j h1 h2 h3 h4 h5 h6
  · rw [rv_1 (by omega)]; exact hG.2.2.1 c j h1 h2 h3
  · rw [rv_1 (by omega)]; exact hG.2.2.2.1 c j h1 h2 h3
  · rw [rv_1 (by omega)]; exact hG.2.2.2.2.1 j hj
  · rw [rv_1 (by omega)]; exact hG.2.2.2.2.2.1 j hj
theorem read_n (hX : CX N z si T u0 v0) {i : Nat} (hA : AT N z v i) (hG : GV v0 v) : ∃ v2, m_X11_reads v = some (nI 0, v2) ∧ AT N z v2 (i + 1) ∧ GV v0 v2 ∧ KP v v2 := read_r hX hA.1 hG
end
