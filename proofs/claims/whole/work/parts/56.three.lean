/-! LAYER 2: bounds as naturals; the law's three answers on both sides -/
section
variable {f g : Nat → Int32}
theorem BC.nat (h : BC f g) (j : Nat) (b : Nat) (hj : j < 86) (h1 : j ≠ 1) (hb : bHi j = b) (hb2 : b < 2147483648) : ∃ n : Nat, n ≤ b ∧ f j = nI n ∧ (f j).toInt = n := by
  have := h.1 j (by omega)
  have hl : bLo j = 0 := by unfold bLo; rw [if_neg h1, if_neg (by omega)]
  rw [hb, hl] at this
  exact nI_ex this.1 this.2 hb2
theorem BC.week (h : BC f g) : ∃ n : Nat, n ≤ 20000 ∧ f 0 = nI n ∧ (f 0).toInt = n := h.nat 0 20000 (by omega) (by omega) rfl (by omega)
theorem BC.lines (h : BC f g) : ∃ n : Nat, n ≤ 150 ∧ f 2 = nI n ∧ (f 2).toInt = n := h.nat 2 150 (by omega) (by omega) rfl (by omega)
theorem BC.fences (h : BC f g) : ∃ n : Nat, n ≤ 1023 ∧ f 3 = nI n ∧ (f 3).toInt = n := h.nat 3 1023 (by omega) (by omega) rfl (by omega)
theorem BC.trees (h : BC f g) : ∃ n : Nat, n ≤ 14 ∧ f 4 = nI n ∧ (f 4).toInt = n := h.nat 4 14 (by omega) (by omega) rfl (by omega)
theorem bHi_v {p : Nat} (h : p < 5) : bHi (5 + p) = 9999 := by unfold bHi; simp (disch := omega) only [if_pos, if_neg]
theorem bHi_s {p : Nat} (h : p < 5) : bHi (10 + p) = 100 := by unfold bHi; simp (disch := omega) only [if_pos, if_neg]
theorem bHi_j {p : Nat} (h : p < 5) : bHi (15 + p) = 999 := by unfold bHi; simp (disch := omega) only [if_pos, if_neg]
theorem bHi_p {p : Nat} (h : p < 14) : bHi (20 + p) = 4 := by unfold bHi; simp (disch := omega) only [if_pos, if_neg]
theorem bHi_l {p : Nat} (h : p < 14) : bHi (34 + p) = 9 := by unfold bHi; simp (disch := omega) only [if_pos, if_neg]
theorem bHi_a {p : Nat} (h : p < 14) : bHi (48 + p) = 99 := by unfold bHi; simp (disch := omega) only [if_pos, if_neg]
theorem bHi_h {p : Nat} (h : p < 14) : bHi (62 + p) = 99 := by unfold bHi; simp (disch := omega) only [if_pos, if_neg]
theorem bHi_u {p : Nat} (h : p < 10) : bHi (76 + p) = 20 := by unfold bHi; simp (disch := omega) only [if_pos, if_neg]
theorem bHi_t {p : Nat} : bHi (86 + p) = 4 := by unfold bHi; simp (disch := omega) only [if_pos, if_neg]
theorem bLo_0 {j : Nat} (h1 : j ≠ 1) (h : j < 86) : bLo j = 0 := by unfold bLo; rw [if_neg h1, if_neg (by omega)]
theorem bLo_t {p : Nat} : bLo (86 + p) = -5 := by unfold bLo; simp (disch := omega) only [if_pos, if_neg]
theorem BC.votes (h : BC f g) {p : Nat} (hp : p < 5) : ∃ n : Nat, n ≤ 9999 ∧ f (5 + p) = nI n ∧ (f (5 + p)).toInt = n := h.nat _ 9999 (by omega) (by omega) (bHi_v hp) (by omega)
theorem BC.seats (h : BC f g) {p : Nat} (hp : p < 5) : ∃ n : Nat, n ≤ 100 ∧ f (10 + p) = nI n ∧ (f (10 + p)).toInt = n := h.nat _ 100 (by omega) (by omega) (bHi_s hp) (by omega)
theorem BC.jam (h : BC f g) {p : Nat} (hp : p < 5) : ∃ n : Nat, n ≤ 999 ∧ f (15 + p) = nI n ∧ (f (15 + p)).toInt = n := h.nat _ 999 (by omega) (by omega) (bHi_j hp) (by omega)
theorem BC.place (h : BC f g) {t : Nat} (ht : t < 14) : ∃ n : Nat, n ≤ 9 ∧ f (34 + t) = nI n ∧ (f (34 + t)).toInt = n := h.nat _ 9 (by omega) (by omega) (bHi_l ht) (by omega)
theorem BC.age (h : BC f g) {t : Nat} (ht : t < 14) : ∃ n : Nat, n ≤ 99 ∧ f (48 + t) = nI n ∧ (f (48 + t)).toInt = n := h.nat _ 99 (by omega) (by omega) (bHi_a ht) (by omega)
theorem BC.hang (h : BC f g) {t : Nat} (ht : t < 14) : ∃ n : Nat, n ≤ 99 ∧ f (62 + t) = nI n ∧ (f (62 + t)).toInt = n := h.nat _ 99 (by omega) (by omega) (bHi_h ht) (by omega)
theorem BC.hunger (h : BC f g) {e : Nat} (he : e < 10) : ∃ n : Nat, n ≤ 20 ∧ f (76 + e) = nI n ∧ (f (76 + e)).toInt = n := h.nat _ 20 (by omega) (by omega) (bHi_u he) (by omega)
theorem BC.taste (h : BC f g) {i : Nat} (hi : i < 50) : -5 ≤ (f (86 + i)).toInt ∧ (f (86 + i)).toInt ≤ 4 := by
  have := h.1 (86 + i) (by omega)
  rw [bHi_t, bLo_t] at this; exact this
theorem BG.P (h : BG g) : ∃ n : Nat, n ≤ 5 ∧ g 6 = nI n ∧ (g 6).toInt = n := nI_ex h.1.1 h.1.2 (by omega)
theorem BG.E (h : BG g) : ∃ n : Nat, n ≤ 10 ∧ g 7 = nI n ∧ (g 7).toInt = n := nI_ex h.2.1.1 h.2.1.2 (by omega)
theorem BC.tparty (h : BC f g) {T P t : Nat} (hT : f 4 = nI T) (hP : g 6 = nI P) (hP5 : P ≤ 5) (hT4 : T ≤ 14) (ht : t < T) : ∃ p : Nat, p < P ∧ f (20 + t) = nI p ∧ (f (20 + t)).toInt = p := by
  have h1 := h.2.1 t (by rw [hT, nI_t (by omega)]; omega)
  have h2 := h.1 (20 + t) (by omega)
  rw [bLo_0 (by omega) (by omega)] at h2
  rw [hP, nI_t (by omega)] at h1
  obtain ⟨n, a, b, c⟩ := nI_ex (b := 4) h2.1 (by have := h2.2; rw [bHi_p (by omega)] at this; exact this) (by omega)
  exact ⟨n, by omega, b, c⟩
end
theorem n9 {j : Nat} (h : j < 9) : j = 0 ∨ j = 1 ∨ j = 2 ∨ j = 3 ∨ j = 4 ∨ j = 5 ∨ j = 6 ∨ j = 7 ∨ j = 8 := by omega
theorem nI_tN {n : Nat} (h : n < 2147483648) : (nI n).toInt.toNat = n := by rw [nI_t h]; rfl
theorem aTree {k t : Nat} {u : qS} {a : Nat → Int32} (hk : k = 2 ∨ k = 92) (ht : t < 14) : m_X2_askTree 12 k (nI t) (q_st u 18 a) = some (nI 0, q_st u 18 (upd (upd (upd a 2 (u.1 (k + 5) t)) 3 (u.1 (k + 6) t)) 4 (u.1 (k + 7) t))) := by
  unfold m_X2_askTree
  have h5 : ∀ s, (q_st u 18 s).1 (k + 5) = u.1 (k + 5) := fun s => by rw [q_st_g, if_neg (by omega)]
  have h6 : ∀ s, (q_st u 18 s).1 (k + 6) = u.1 (k + 6) := fun s => by rw [q_st_g, if_neg (by omega)]
  have h7 : ∀ s, (q_st u 18 s).1 (k + 7) = u.1 (k + 7) := fun s => by rw [q_st_g, if_neg (by omega)]
  simp only [lit_n]
  rw [ald_n (by omega) (by omega), Option.bind_some, q_ast_ok (by omega) (by omega), Option.bind_some, q_st_st, q_st_g, if_pos rfl, h5]
  rw [ald_n (by omega) (by omega), Option.bind_some, q_ast_ok (by omega) (by omega), Option.bind_some, q_st_st, q_st_g, if_pos rfl, h6]
  rw [ald_n (by omega) (by omega), Option.bind_some, q_ast_ok (by omega) (by omega), Option.bind_some, q_st_st, q_st_g, if_pos rfl, h7]
section
variable {k : Nat} {u v : qS} {f g : Nat → Int32} {Z X : qX}
theorem bears_c {t T : Nat} (hk : k = 2 ∨ k = 92) (hC : RC k u.1 f g) (hB : BC f g) (hG : BG g) (hR : RLw 12 u.1 Z) (hT : f 4 = nI T) (hT4 : T ≤ 14) (ht : t < T) : ∃ s a, m_X2_bears 12 k (nI t) u = some (bearF u.1 f t, sc u s a) := by
  obtain ⟨P, hP5, hP, -⟩ := hG.P
  obtain ⟨p, hp, hp1, hp2⟩ := hB.tparty hT hP hP5 hT4 ht
  unfold m_X2_bears
  obtain ⟨a, e, h⟩ := ask_p (u := u) hk (by rw [hC.parties]; exact hP) hP5 hp
  rw [ald_n (by omega) (by omega), Option.bind_some, hC.tparty (by omega), hp1, e, q_bd_some, aTree hk (by omega), q_bd_some, ald_n (by omega) (by omega), Option.bind_some]
  rw [q_st_g, if_neg (by omega), hC.tage (by omega), hC.tplace (by omega), hC.hang (by omega)]
  simp only [lit_n]
  obtain ⟨s, e2⟩ := tell_s (w := nI 0) (oth := f (48 + t) / nI 5) (u := u) (a := upd (upd (upd a 2 (f (34 + t))) 3 (f (48 + t))) 4 (f (62 + t))) (b := aF (q_rm (f 0) (nI 52)) (f (20 + t)) (f (34 + t)) (f (48 + t)) (f (62 + t)) (nI 0) (nI 0) (nI 0) (f (10 + (f (20 + t)).toInt.toNat))) hR (fun j hj => by
    have hj2 := h j hj
    rw [hC.week, hC.seats (by omega)] at hj2
    rw [hp1, nI_tN (by omega)]
    rcases n9 hj with rfl | rfl | rfl | rfl | rfl | rfl | rfl | rfl | rfl <;> first | rfl | exact hj2)
  rw [e2, q_bd_some, hold_eq, q_bd_some]
  exact ⟨s, _, rfl⟩
theorem wants_c {e : Nat} (hk : k = 2 ∨ k = 92) (hC : RC k u.1 f g) (hR : RLw 12 u.1 Z) (he : e < 10) : ∃ s a, m_X2_wants 12 k (nI e) u = some (wantF u.1 f e, sc u s a) := by
  unfold m_X2_wants
  obtain ⟨a, e1, h⟩ := ask_n (u := u) hk
  simp only [lit_n, mI_lit]
  have g8 : ∀ s, (q_st u 18 s).1 (k + 8) = u.1 (k + 8) := fun s => by rw [q_st_g, if_neg (by omega)]
  rw [e1, q_bd_some, ald_n (by omega) (by omega), Option.bind_some, q_ast_ok (by omega) (by omega), Option.bind_some, q_st_st, g8, hC.hunger he, q_st_g, if_pos rfl, ald_n (by omega) (by omega), Option.bind_some, g8, hC.hunger he]
  obtain ⟨s, e2⟩ := tell_s (w := nI 1) (oth := f (76 + e)) (u := u) (a := upd a 5 (f (76 + e))) (b := aF (q_rm (f 0) (nI 52)) (nI 0) (nI 0) (nI 0) (nI 0) (f (76 + e)) (nI 0) (nI 0) (nI 0)) hR (fun j hj => by
    have hj2 := h j hj
    rw [hC.week] at hj2
    rcases n9 hj with rfl | rfl | rfl | rfl | rfl | rfl | rfl | rfl | rfl <;> first | rfl | exact hj2)
  rw [e2, q_bd_some, hold_eq, q_bd_some]
  exact ⟨s, _, rfl⟩
theorem taste_c {e p E : Nat} (hC : RC k u.1 f g) (hE : g 7 = nI E) (hE1 : E ≤ 10) (he : e < E) (hp : p < 5) : m_X0_tasteFor k (nI e) (nI p) u = some (f (86 + (5 * e + p)) + nI 5, u) := by
  unfold m_X0_tasteFor
  simp only [lit_n, pk_mul, nI_add]
  rw [ald_n (by omega) (by omega), Option.bind_some, hC.taste (by omega) (by rw [hE, nI_t (by omega)]; omega), show e * 5 + p = 5 * e + p by omega]
theorem count_c {e p P E t : Nat} (hk : k = 2 ∨ k = 92) (hC : RC k u.1 f g) (hR : RLw 12 u.1 Z) (hP : g 6 = nI P) (hP5 : P ≤ 5) (hE : g 7 = nI E) (hE1 : E ≤ 10) (he : e < E) (hp : p < P) (ht : t < 14) : ∃ s a, m_X2_counts 12 k (nI e) (nI p) (nI t) u = some (countF u.1 f e p t, sc u s a) := by
  unfold m_X2_counts
  obtain ⟨a, e1, h⟩ := ask_p (u := u) hk (by rw [hC.parties]; exact hP) hP5 hp
  simp only [lit_n, mI_lit, q_jn]
  have g8 : ∀ s, (q_st u 18 s).1 (k + 8) = u.1 (k + 8) := fun s => by rw [q_st_g, if_neg (by omega)]
  have hC2 : ∀ s, RC k (q_st u 18 s).1 f g := fun s => hC.fr (fun c h1 h2 => by rw [q_st_g, if_neg (by omega)])
  rw [e1, q_bd_some, ald_n (by omega) (by omega), Option.bind_some, q_ast_ok (by omega) (by omega), Option.bind_some, q_st_st, g8, hC.hunger (by omega), q_st_g, if_pos rfl, taste_c (hC2 _) hE hE1 he (by omega), q_bd_some, q_ast_ok (by omega) (by omega), Option.bind_some, q_st_st, q_st_g, if_pos rfl]
  rw [if_neg (by rw [nI_t (by omega), mI_t]; omega), aTree hk ht, q_bd_some, hC.tplace ht, hC.tage ht, hC.hang ht]
  obtain ⟨s, e2⟩ := tell_s (w := nI 2) (oth := nI 1) (u := u) (a := upd (upd (upd (upd (upd a 5 (f (76 + e))) 6 (f (86 + (5 * e + p)) + nI 5)) 2 (f (34 + t))) 3 (f (48 + t))) 4 (f (62 + t))) (b := aF (q_rm (f 0) (nI 52)) (nI p) (f (34 + t)) (f (48 + t)) (f (62 + t)) (f (76 + e)) (f (86 + (5 * e + p)) + nI 5) (nI 0) (f (10 + p))) hR (fun j hj => by
    have hj2 := h j hj
    rw [hC.week, hC.seats (by omega)] at hj2
    rcases n9 hj with rfl | rfl | rfl | rfl | rfl | rfl | rfl | rfl | rfl <;> first | rfl | exact hj2)
  rw [e2, q_bd_some, hold_eq, q_bd_some]
  exact ⟨s, _, rfl⟩
theorem countJ_c {e p P E : Nat} (hk : k = 2 ∨ k = 92) (hC : RC k u.1 f g) (hR : RLw 12 u.1 Z) (hP : g 6 = nI P) (hP5 : P ≤ 5) (hE : g 7 = nI E) (hE1 : E ≤ 10) (he : e < E) (hp : p < P) : ∃ s a, m_X2_counts 12 k (nI e) (nI p) mI u = some (countJ u.1 f e p, sc u s a) := by
  unfold m_X2_counts
  obtain ⟨a, e1, h⟩ := ask_p (u := u) hk (by rw [hC.parties]; exact hP) hP5 hp
  simp only [lit_n, mI_lit, q_jn]
  have g8 : ∀ s, (q_st u 18 s).1 (k + 8) = u.1 (k + 8) := fun s => by rw [q_st_g, if_neg (by omega)]
  have hC2 : ∀ s, RC k (q_st u 18 s).1 f g := fun s => hC.fr (fun c h1 h2 => by rw [q_st_g, if_neg (by omega)])
  rw [e1, q_bd_some, ald_n (by omega) (by omega), Option.bind_some, q_ast_ok (by omega) (by omega), Option.bind_some, q_st_st, g8, hC.hunger (by omega), q_st_g, if_pos rfl, taste_c (hC2 _) hE hE1 he (by omega), q_bd_some, q_ast_ok (by omega) (by omega), Option.bind_some, q_st_st, q_st_g, if_pos rfl]
  rw [if_pos trivial, q_ast_ok (by omega) (by omega), Option.bind_some, q_st_st, q_st_g, if_pos rfl]
  obtain ⟨s, e2⟩ := tell_s (w := nI 2) (oth := nI 1) (u := u) (a := upd (upd (upd a 5 (f (76 + e))) 6 (f (86 + (5 * e + p)) + nI 5)) 7 (nI 1)) (b := aF (q_rm (f 0) (nI 52)) (nI p) (nI 0) (nI 0) (nI 0) (f (76 + e)) (f (86 + (5 * e + p)) + nI 5) (nI 1) (f (10 + p))) hR (fun j hj => by
    have hj2 := h j hj
    rw [hC.week, hC.seats (by omega)] at hj2
    rcases n9 hj with rfl | rfl | rfl | rfl | rfl | rfl | rfl | rfl | rfl <;> first | rfl | exact hj2)
  rw [e2, q_bd_some, hold_eq, q_bd_some]
  exact ⟨s, _, rfl⟩
/-! the reference's -/
theorem bear_r {t T P : Nat} (hB : BC (v.1 164) g) (hR : RLw 12 X v.1) (hT : v.1 164 4 = nI T) (hT4 : T ≤ 14) (ht : t < T) (hP : g 6 = nI P) (hP5 : P ≤ 5) : ∃ s a, m_X11_bearOf (nI t) v = some (bearF X (v.1 164) t, sr v s a) := by
  obtain ⟨p, hp, hp1, hp2⟩ := hB.tparty hT hP hP5 hT4 ht
  unfold m_X11_bearOf
  simp only [lit_n, nI_add]
  have g4 : ∀ s, (q_st v 180 s).1 164 = v.1 164 := fun s => rfl
  iterate 4 rw [ald_n (by omega) (by omega), Option.bind_some]
  obtain ⟨a, e, h⟩ := asks_r (v := v) (x1 := v.1 164 (20 + t)) (x2 := v.1 164 (34 + t)) (x3 := v.1 164 (48 + t)) (x4 := v.1 164 (62 + t))
  rw [e, q_bd_some, ald_n (by omega) (by omega), Option.bind_some, g4, hp1, nI_add, ald_n (by omega) (by omega), Option.bind_some, q_ast_ok (by omega) (by omega), Option.bind_some, q_st_st, q_st_g, if_pos rfl, g4, ald_n (by omega) (by omega), Option.bind_some, g4]
  obtain ⟨s, e2⟩ := tell_t (m := 99) (w := nI 0) (oth := v.1 164 (48 + t) / nI 5) (v := v) (a := upd a 8 (v.1 164 (10 + p))) (b := aF (q_rm (v.1 164 0) (nI 52)) (v.1 164 (20 + t)) (v.1 164 (34 + t)) (v.1 164 (48 + t)) (v.1 164 (62 + t)) (nI 0) (nI 0) (nI 0) (v.1 164 (10 + (v.1 164 (20 + t)).toInt.toNat))) (by omega) hR (fun j hj => by
    have hj2 := h j hj
    rw [hp1] at hj2
    rw [hp1, nI_tN (by omega)]
    rcases n9 hj with rfl | rfl | rfl | rfl | rfl | rfl | rfl | rfl | rfl <;> first | rfl | exact hj2)
  rw [e2, q_bd_some]
  exact ⟨s, _, rfl⟩
theorem want_r {e : Nat} (hR : RLw 12 X v.1) (he : e < 10) : ∃ s a, m_X11_wantOf (nI e) v = some (wantF X (v.1 164) e, sr v s a) := by
  unfold m_X11_wantOf
  simp only [lit_n, nI_add]
  have g4 : ∀ s, (q_st v 180 s).1 164 = v.1 164 := fun s => rfl
  obtain ⟨a, e1, h⟩ := asks_r (v := v) (x1 := nI 0) (x2 := nI 0) (x3 := nI 0) (x4 := nI 0)
  rw [e1, q_bd_some, ald_n (by omega) (by omega), Option.bind_some, q_ast_ok (by omega) (by omega), Option.bind_some, q_st_st, q_st_g, if_pos rfl, g4, ald_n (by omega) (by omega), Option.bind_some, g4]
  obtain ⟨s, e2⟩ := tell_t (m := 20) (w := nI 1) (oth := v.1 164 (76 + e)) (v := v) (a := upd a 5 (v.1 164 (76 + e))) (b := aF (q_rm (v.1 164 0) (nI 52)) (nI 0) (nI 0) (nI 0) (nI 0) (v.1 164 (76 + e)) (nI 0) (nI 0) (nI 0)) (by omega) hR (fun j hj => by
    have hj2 := h j hj
    rcases n9 hj with rfl | rfl | rfl | rfl | rfl | rfl | rfl | rfl | rfl <;> first | rfl | exact hj2)
  rw [e2, q_bd_some]
  exact ⟨s, _, rfl⟩
theorem taste_r {e p : Nat} (he : e < 10) (hp : p < 5) : m_X11_tasteOf (nI e) (nI p) v = some (v.1 164 (86 + (5 * e + p)) + nI 5, v) := by
  unfold m_X11_tasteOf
  simp only [lit_n, pk_mul, nI_add]
  rw [ald_n (by omega) (by omega), Option.bind_some, show 86 + 5 * e + p = 86 + (5 * e + p) by omega]
theorem count_r {e p t : Nat} (hR : RLw 12 X v.1) (he : e < 10) (hp : p < 5) (ht : t < 14) : ∃ s a, m_X11_countOf (nI e) (nI p) (nI t) v = some (countF X (v.1 164) e p t, sr v s a) := by
  unfold m_X11_countOf
  simp only [lit_n, mI_lit, nI_add, q_jn]
  have g4 : ∀ s, (q_st v 180 s).1 164 = v.1 164 := fun s => rfl
  rw [if_neg (by rw [nI_t (by omega), mI_t]; omega)]
  iterate 3 rw [ald_n (by omega) (by omega), Option.bind_some]
  obtain ⟨a, e1, h⟩ := asks_r (v := v) (x1 := nI p) (x2 := v.1 164 (34 + t)) (x3 := v.1 164 (48 + t)) (x4 := v.1 164 (62 + t))
  rw [e1, q_bd_some, ald_n (by omega) (by omega), Option.bind_some, q_ast_ok (by omega) (by omega), Option.bind_some, q_st_st, q_st_g, if_pos rfl, g4, taste_r he hp, q_bd_some, q_ast_ok (by omega) (by omega), Option.bind_some, q_st_st, q_st_g, if_pos rfl, g4]
  rw [if_neg (by rw [nI_t (by omega), mI_t]; omega), q_ast_ok (by omega) (by omega), Option.bind_some, q_st_st, q_st_g, if_pos rfl, ald_n (by omega) (by omega), Option.bind_some, q_ast_ok (by omega) (by omega), Option.bind_some, q_st_st, q_st_g, if_pos rfl, g4]
  obtain ⟨s, e2⟩ := tell_t (m := 9) (w := nI 2) (oth := nI 1) (v := v) (a := upd (upd (upd (upd a 5 (v.1 164 (76 + e))) 6 (v.1 164 (86 + (5 * e + p)) + nI 5)) 7 (nI 0)) 8 (v.1 164 (10 + p))) (b := aF (q_rm (v.1 164 0) (nI 52)) (nI p) (v.1 164 (34 + t)) (v.1 164 (48 + t)) (v.1 164 (62 + t)) (v.1 164 (76 + e)) (v.1 164 (86 + (5 * e + p)) + nI 5) (nI 0) (v.1 164 (10 + p))) (by omega) hR (fun j hj => by
    have hj2 := h j hj
    rcases n9 hj with rfl | rfl | rfl | rfl | rfl | rfl | rfl | rfl | rfl <;> first | rfl | exact hj2)
  rw [e2, q_bd_some]
  exact ⟨s, _, rfl⟩
theorem countJ_r {e p : Nat} (hR : RLw 12 X v.1) (he : e < 10) (hp : p < 5) : ∃ s a, m_X11_countOf (nI e) (nI p) mI v = some (countJ X (v.1 164) e p, sr v s a) := by
  unfold m_X11_countOf
  simp only [lit_n, mI_lit, nI_add, q_jn]
  have g4 : ∀ s, (q_st v 180 s).1 164 = v.1 164 := fun s => rfl
  rw [if_pos trivial]
  obtain ⟨a, e1, h⟩ := asks_r (v := v) (x1 := nI p) (x2 := nI 0) (x3 := nI 0) (x4 := nI 0)
  rw [e1, q_bd_some, ald_n (by omega) (by omega), Option.bind_some, q_ast_ok (by omega) (by omega), Option.bind_some, q_st_st, q_st_g, if_pos rfl, g4, taste_r he hp, q_bd_some, q_ast_ok (by omega) (by omega), Option.bind_some, q_st_st, q_st_g, if_pos rfl, g4]
  rw [if_pos trivial, q_ast_ok (by omega) (by omega), Option.bind_some, q_st_st, q_st_g, if_pos rfl, ald_n (by omega) (by omega), Option.bind_some, q_ast_ok (by omega) (by omega), Option.bind_some, q_st_st, q_st_g, if_pos rfl, g4]
  obtain ⟨s, e2⟩ := tell_t (m := 9) (w := nI 2) (oth := nI 1) (v := v) (a := upd (upd (upd (upd a 5 (v.1 164 (76 + e))) 6 (v.1 164 (86 + (5 * e + p)) + nI 5)) 7 (nI 1)) 8 (v.1 164 (10 + p))) (b := aF (q_rm (v.1 164 0) (nI 52)) (nI p) (nI 0) (nI 0) (nI 0) (v.1 164 (76 + e)) (v.1 164 (86 + (5 * e + p)) + nI 5) (nI 1) (v.1 164 (10 + p))) (by omega) hR (fun j hj => by
    have hj2 := h j hj
    rcases n9 hj with rfl | rfl | rfl | rfl | rfl | rfl | rfl | rfl | rfl <;> first | rfl | exact hj2)
  rw [e2, q_bd_some]
  exact ⟨s, _, rfl⟩
end
