/-! LAYER 2: paths, plan; what a week keeps of class and reference -/
def pset (h : Nat → Int32) : Nat → Int32
  | 0 => nI 0
  | n + 1 => pset h n ||| (nI 1 <<< (h n &&& nI 31))
def RPa (p : Nat) (X Z : qX) : Prop := X p 0 = Z 163 36 ∧ ∀ e, e < 10 → ∃ m : Nat, m ≤ 8 ∧ X (p + 1) e = nI m ∧ Z 178 (9 * e) = nI m ∧ (∀ i, i < m → ∃ q : Nat, q < 10 ∧ X (p + 2) (8 * e + i) = nI q ∧ Z 178 (9 * e + 1 + i) = nI q) ∧ X (p + 3) e = pset (fun i => Z 178 (9 * e + 1 + i)) m
def PL (c : Nat) (X Z : qX) (g : Nat → Int32) (i : Nat) : Prop := ∃ d q o : Nat, d < 5 ∧ X (c + 1) i = Z 179 (4 * i) ∧ Z 179 (4 * i + 1) = nI d ∧ X (c + 2) i = nI (if d = 0 then 257 else 258 + d) ∧ X (c + 3) i = nI q ∧ Z 179 (4 * i + 2) = nI q ∧ X (c + 4) i = nI o ∧ Z 179 (4 * i + 3) = nI o ∧
  q < 10 ∧ ((d = 0 ∨ d = 3) → (q : Int) < (g 6).toInt) ∧ (d = 4 → (q : Int) < (g 7).toInt) ∧ (d = 0 → o < 10) ∧ (d = 3 → 1 ≤ o) ∧ o ≤ 99
def RPn (c : Nat) (X Z : qX) (g : Nat → Int32) : Prop := ∃ N : Nat, N ≤ 16 ∧ X c 0 = nI N ∧ Z 163 38 = nI N ∧ ∀ i, i < N → PL c X Z g i
def RCo (c : Nat) (X Z : qX) (g : Nat → Int32) : Prop := ∃ N : Nat, N ≤ 8 ∧ X c 0 = nI N ∧ Z 163 48 = nI N ∧ ∀ i, i < N → ∃ p q : Nat, (p : Int) < (g 6).toInt ∧ q < 10 ∧ X (c + 1) i = nI p ∧ Z 184 (2 * i) = nI p ∧ X (c + 2) i = nI q ∧ Z 184 (2 * i + 1) = nI q
theorem RPa.fr {p : Nat} {X X2 Z Z2 : qX} (h : RPa p X Z) (hx : ∀ c, p ≤ c → c < p + 4 → X2 c = X c) (hz : Z2 178 = Z 178) (hy : Z2 163 36 = Z 163 36) : RPa p X2 Z2 := by
  unfold RPa
  rw [hx p (by omega) (by omega), hx (p + 1) (by omega) (by omega), hx (p + 2) (by omega) (by omega), hx (p + 3) (by omega) (by omega), hz, hy]
  exact h
theorem RPn.fr {c : Nat} {X X2 Z Z2 : qX} {g g2 : Nat → Int32} (h : RPn c X Z g) (hx : ∀ a, c ≤ a → a < c + 5 → X2 a = X a) (hz : Z2 179 = Z 179) (hy : Z2 163 38 = Z 163 38) (h6 : g2 6 = g 6) (h7 : g2 7 = g 7) : RPn c X2 Z2 g2 := by
  unfold RPn PL
  rw [hx c (by omega) (by omega), hx (c + 1) (by omega) (by omega), hx (c + 2) (by omega) (by omega), hx (c + 3) (by omega) (by omega), hx (c + 4) (by omega) (by omega), hz, hy, h6, h7]
  exact h
theorem RCo.fr {c : Nat} {X X2 Z Z2 : qX} {g g2 : Nat → Int32} (h : RCo c X Z g) (hx : ∀ a, c ≤ a → a < c + 3 → X2 a = X a) (hz : Z2 184 = Z 184) (hy : Z2 163 48 = Z 163 48) (h6 : g2 6 = g 6) : RCo c X2 Z2 g2 := by
  unfold RCo
  rw [hx c (by omega) (by omega), hx (c + 1) (by omega) (by omega), hx (c + 2) (by omega) (by omega), hz, hy, h6]
  exact h
/-- what stays of the class's cells in a season -/
def FX (k k2 : Nat) (tr : Bool) (u u2 : qS) : Prop := (∀ c, (c < k2 ∨ k2 + 10 ≤ c) → c ≠ k → c ≠ k + 1 → c ≠ 17 → c ≠ 18 → (tr = false ∨ c ≠ 32) → u2.1 c = u.1 c) ∧ u2.1 k = u.1 k ∧ u2.2 = u.2
def FY (tr : Bool) (v v2 : qS) : Prop := (∀ c, c ≠ 163 → c ≠ 164 → (c < 180 ∨ 183 < c) → (tr = false ∨ c ≠ 167) → v2.1 c = v.1 c) ∧ (∀ j, j ≠ 42 → j ≠ 44 → j ≠ 45 → v2.1 163 j = v.1 163 j) ∧ v2.2 = v.2
theorem FX.rfl' {k k2 : Nat} {tr : Bool} {u : qS} : FX k k2 tr u u := ⟨fun _ _ _ _ _ _ _ => rfl, rfl, rfl⟩
theorem FY.rfl' {tr : Bool} {v : qS} : FY tr v v := ⟨fun _ _ _ _ _ => rfl, fun _ _ _ _ => rfl, rfl⟩
theorem FX.trans {k k2 : Nat} {tr : Bool} {u u1 u2 : qS} (h : FX k k2 tr u u1) (h2 : FX k k2 tr u1 u2) : FX k k2 tr u u2 :=
  ⟨fun c a b d e f g => (h2.1 c a b d e f g).trans (h.1 c a b d e f g), h2.2.1.trans h.2.1, h2.2.2.trans h.2.2⟩
theorem FY.trans {tr : Bool} {v v1 v2 : qS} (h : FY tr v v1) (h2 : FY tr v1 v2) : FY tr v v2 :=
  ⟨fun c a b d e => (h2.1 c a b d e).trans (h.1 c a b d e), fun j a b c => (h2.2.1 j a b c).trans (h.2.1 j a b c), h2.2.2.trans h.2.2⟩
theorem FX.st {k k2 c : Nat} {tr : Bool} {u u1 : qS} {s : Nat → Int32} (h : FX k k2 tr u u1) (hc : (k2 ≤ c ∧ c < k2 + 10) ∨ c = k + 1 ∨ c = 17 ∨ c = 18 ∨ (tr = true ∧ c = 32)) (hk : c ≠ k) : FX k k2 tr u (q_st u1 c s) := by
  refine ⟨fun a h1 h2 h3 h4 h5 h6 => ?_, ?_, h.2.2⟩
  · rw [q_st_g, if_neg]
    · exact h.1 a h1 h2 h3 h4 h5 h6
    · intro e; subst e
      rcases hc with hc | hc | hc | hc | hc
      · omega
      · omega
      · omega
      · omega
      · rcases h6 with h6 | h6
        · rw [hc.1] at h6; cases h6
        · omega
  · rw [q_st_g, if_neg (fun e => hk e.symm)]; exact h.2.1
theorem FY.st {c : Nat} {tr : Bool} {v v1 : qS} {s : Nat → Int32} (h : FY tr v v1) (hc : c = 164 ∨ (180 ≤ c ∧ c ≤ 183) ∨ (tr = true ∧ c = 167)) : FY tr v (q_st v1 c s) := by
  refine ⟨fun a h1 h2 h3 h4 => ?_, fun j h1 h2 h3 => ?_, h.2.2⟩
  · rw [q_st_g, if_neg]
    · exact h.1 a h1 h2 h3 h4
    · intro e; subst e
      rcases hc with hc | hc | hc
      · omega
      · omega
      · rcases h4 with h4 | h4
        · rw [hc.1] at h4; cases h4
        · omega
  · rw [q_st_g, if_neg (by omega)]; exact h.2.1 j h1 h2 h3
theorem FY.upk {j : Nat} {tr : Bool} {v v1 : qS} {x : Int32} (h : FY tr v v1) (hj : j = 42 ∨ j = 44 ∨ j = 45) : FY tr v (q_up v1 163 j x) := by
  refine ⟨fun a h1 h2 h3 h4 => ?_, fun i h1 h2 h3 => ?_, h.2.2⟩
  · rw [q_up_1, if_neg h1]; exact h.1 a h1 h2 h3 h4
  · rw [q_up_1, if_pos rfl, upd_g, if_neg (by omega)]; exact h.2.1 i h1 h2 h3
/-- which season: in truth (88, commune 2) or in thought (90, commune 92) -/
def MD (tr : Bool) (k k2 : Nat) : Prop := (tr = true ∧ k = 88 ∧ k2 = 2) ∨ (tr = false ∧ k = 90 ∧ k2 = 92)
theorem MD.k {tr : Bool} {k k2 : Nat} (h : MD tr k k2) : (k = 88 ∧ k2 = 2) ∨ (k = 90 ∧ k2 = 92) := h.elim (fun h => Or.inl h.2) (fun h => Or.inr h.2)
theorem MD.k2 {tr : Bool} {k k2 : Nat} (h : MD tr k k2) : k2 = 2 ∨ k2 = 92 := h.elim (fun h => Or.inl h.2.2) (fun h => Or.inr h.2.2)
/-- what was told stays told, and the season is what it is -/
def ST (tr : Bool) (k k2 : Nat) (u v : qS) : Prop := MD tr k k2 ∧ BG (v.1 163) ∧ RLw 12 u.1 v.1 ∧ RPa 19 u.1 v.1 ∧ RPn 23 u.1 v.1 (v.1 163) ∧ u.1 k 0 = (if tr then nI 1 else nI 0) ∧ v.1 163 5 = (if tr then nI 0 else nI 1)
/-- what a week keeps -/
def WK (tr th tg : Bool) (k k2 : Nat) (u v : qS) : Prop := RC k2 u.1 (v.1 164) (v.1 163) ∧ BC (v.1 164) (v.1 163) ∧ (tr = true → ∀ i, i < 600 → u.1 32 i = v.1 167 i) ∧ (th = true → u.1 k 2 = v.1 163 44 ∧ u.1 k 3 = v.1 163 45) ∧ (tg = true → ∀ p, p < 5 → v.1 163 43 = nI p → u.1 (k + 1) p = v.1 163 42)
theorem ST.mv {tr : Bool} {k k2 : Nat} {u v u2 v2 : qS} (h : ST tr k k2 u v) (hx : FX k k2 tr u u2) (hy : FY tr v v2) : ST tr k k2 u2 v2 := by
  obtain ⟨h1, h2, h3, h4, h5, h6, h7⟩ := h
  have hk := h1.k
  have e163 : ∀ j, j ≠ 42 → j ≠ 44 → j ≠ 45 → v2.1 163 j = v.1 163 j := hy.2.1
  have ex : ∀ c, 12 ≤ c → c < 32 → c ≠ 17 → c ≠ 18 → u2.1 c = u.1 c := fun c a b d e => hx.1 c (by omega) (by omega) (by omega) d e (Or.inr (by omega))
  have ey : ∀ c, 168 ≤ c → c < 180 → v2.1 c = v.1 c := fun c a b => hy.1 c (by omega) (by omega) (by omega) (Or.inr (by omega))
  refine ⟨h1, ?_, h3.fr (fun c a b => ex c a (by omega) (by omega) (by omega)) (fun c a b => ey c (by omega) (by omega)), h4.fr (fun c a b => ex c (by omega) (by omega) (by omega) (by omega)) (ey 178 (by omega) (by omega)) (e163 36 (by omega) (by omega) (by omega)), h5.fr (fun c a b => ex c (by omega) (by omega) (by omega) (by omega)) (ey 179 (by omega) (by omega)) (e163 38 (by omega) (by omega) (by omega)) (e163 6 (by omega) (by omega) (by omega)) (e163 7 (by omega) (by omega) (by omega)), ?_, ?_⟩
  · unfold BG
    rw [e163 6 (by omega) (by omega) (by omega), e163 7 (by omega) (by omega) (by omega), e163 8 (by omega) (by omega) (by omega), e163 9 (by omega) (by omega) (by omega), e163 10 (by omega) (by omega) (by omega), e163 11 (by omega) (by omega) (by omega)]
    exact h2
  · rw [hx.2.1]; exact h6
  · rw [e163 5 (by omega) (by omega) (by omega)]; exact h7
section
variable {tr th tg : Bool} {k k2 : Nat} {u v : qS}
theorem WK.sc (h : WK tr th tg k k2 u v) (hm : MD tr k k2) {s a : Nat → Int32} : WK tr th tg k k2 (sc u s a) v := by
  have hk := hm.k
  obtain ⟨h1, h2, h3, h4, h5⟩ := h
  refine ⟨h1.fr (fun c a b => sc_o (by omega) (by omega)), h2, ?_, ?_, ?_⟩
  · rw [sc_o (by omega) (by omega)]; exact h3
  · rw [sc_o (by omega) (by omega)]; exact h4
  · rw [sc_o (by omega) (by omega)]; exact h5
theorem WK.sr (h : WK tr th tg k k2 u v) {s a : Nat → Int32} : WK tr th tg k k2 u (sr v s a) := h
theorem FX.sc {u0 : qS} {s a : Nat → Int32} (h : FX k k2 tr u0 u) (hm : MD tr k k2) : FX k k2 tr u0 (sc u s a) := by
  have hk := hm.k
  exact (h.st (by omega) (by omega)).st (by omega) (by omega)
theorem FY.sr {v0 : qS} {s a : Nat → Int32} (h : FY tr v0 v) : FY tr v0 (sr v s a) := (h.st (by omega)).st (by omega)
/-- both are changed at one slot of the commune -/
theorem WK.up (h : WK tr th tg k k2 u v) (hm : MD tr k k2) (hG : BG (v.1 163)) (j : Nat) {c s : Nat} {x : Int32} (hj : j < 86) (hc : cC j = c) (hs : cS j = s) (hv : bLo j ≤ x.toInt ∧ x.toInt ≤ bHi j) (h4 : j ≠ 4)
    (ht : 20 ≤ j → j < 34 → x.toInt < (v.1 163 6).toInt) (hp : 5 ≤ j → j < 10 → (v.1 163 6).toInt ≤ ((j - 5 : Nat) : Int) → x = nI 0) (hq : 10 ≤ j → j < 15 → (v.1 163 6).toInt ≤ ((j - 10 : Nat) : Int) → x = nI 0) :
    WK tr th tg k k2 (q_up u (k2 + c) s x) (q_up v 164 j x) := by
  have hk := hm.k
  have hc9 : c < 9 := hc ▸ cC_lt j hj
  obtain ⟨h1, h2, h3, h4', h5⟩ := h
  have e4 : ∀ i, i < 136 → (q_up v 164 j x).1 164 i = if i = j then x else v.1 164 i := fun i _ => by rw [q_up_1, if_pos rfl, upd_g]
  refine ⟨h1.up j hj hc hs (fun a => by rw [q_up_1]) e4, h2.up hG j (by omega) hv e4 h4 ht hp hq (fun _ _ => by omega), ?_, ?_, ?_⟩
  · rw [q_up_1, if_neg (by omega)]; exact h3
  · rw [q_up_1, if_neg (by omega)]; exact h4'
  · rw [q_up_1, if_neg (by omega), q_up_1, if_neg (by omega)]; exact h5
theorem FX.upc {u0 : qS} {c s : Nat} {x : Int32} (h : FX k k2 tr u0 u) (hm : MD tr k k2) (hc : c < 10) : FX k k2 tr u0 (q_up u (k2 + c) s x) := by
  have hk := hm.k
  exact h.st (by omega) (by omega)
theorem FY.up {v0 : qS} {j : Nat} {x : Int32} (h : FY tr v0 v) : FY tr v0 (q_up v 164 j x) := h.st (Or.inl rfl)
theorem WK.upTaste (h : WK tr th tg k k2 u v) (hm : MD tr k k2) (hG : BG (v.1 163)) {i : Nat} {x y : Int32} (hi : i < 50) (hy : y = x + nI 5) (hv : -5 ≤ x.toInt ∧ x.toInt ≤ 4) (he : (i : Int) < 5 * (v.1 163 7).toInt) :
    WK tr th tg k k2 (q_up u (k2 + 9) i y) (q_up v 164 (86 + i) x) := by
  have hk := hm.k
  obtain ⟨h1, h2, h3, h4', h5⟩ := h
  have e4 : ∀ j, j < 136 → (q_up v 164 (86 + i) x).1 164 j = if j = 86 + i then x else v.1 164 j := fun i _ => by rw [q_up_1, if_pos rfl, upd_g]
  refine ⟨h1.upTaste hi hy (fun a => by rw [q_up_1]) e4, h2.up hG (86 + i) (by omega) (by rw [bLo_t, bHi_t]; exact hv) e4 (by omega) (fun _ _ => by omega) (fun _ _ => by omega) (fun _ _ => by omega) (fun _ h => by omega), ?_, ?_, ?_⟩
  · rw [q_up_1, if_neg (by omega)]; exact h3
  · rw [q_up_1, if_neg (by omega)]; exact h4'
  · rw [q_up_1, if_neg (by omega), q_up_1, if_neg (by omega)]; exact h5
end
