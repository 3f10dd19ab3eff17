/-! LAYER 2: THE CALLS, 39: numbers of paths and plans -/
def BS (N : Nat) (z : Nat → Int) (T : Nat) (u0 v0 u v : qS) (i : Nat) : Prop := GC u0 u ∧ NX u0 u i ∧ i ≤ T ∧ GV v0 v ∧ AT N z v i
section
variable {N T si : Nat} {z : Nat → Int} {u0 v0 u v : qS} {i : Nat}
theorem in_g (x : Int32) (a : Nat) (b : Int32) (u : qS) (ha : a < 2147483648) : m_X10_isWithin x (nI a) b u = some (bI (decide ((a : Int) ≤ x.toInt ∧ x.toInt ≤ b.toInt)), u) ∧ m_X11_isIn x (nI a) b u = some (bI (decide ((a : Int) ≤ x.toInt ∧ x.toInt ≤ b.toInt)), u) := by
  unfold m_X10_isWithin m_X11_isIn
  simp only [lit_n]
  rw [nI_t ha]
  by_cases h1 : (a : Int) ≤ x.toInt ∧ x.toInt ≤ b.toInt
  · rw [if_neg (by omega), if_neg (by omega), decide_eq_true h1]; exact ⟨rfl, rfl⟩
  · rw [decide_eq_false h1]
    by_cases h2 : x.toInt < a
    · rw [if_pos h2]; exact ⟨rfl, rfl⟩
    · rw [if_neg h2, if_pos (by omega)]; exact ⟨rfl, rfl⟩
theorem FC.up {w p c j : Nat} {x : Int32} (h : FC u0 u w p) (hc : 72 ≤ c ∧ c < 88) : FC u0 (q_up u c j x) w p := by
  refine ⟨by rw [q_up_1, if_neg (by omega)]; exact h.1, by rw [q_up_1, if_neg (by omega)]; exact h.2.1, fun d hd => ?_, h.2.2.2⟩
  rw [q_up_1, if_neg (by omega)]; exact h.2.2.1 d hd
theorem FV.up {w p c j : Nat} {x : Int32} (h : FV v0 v w p) (hc : (c = 178 ∧ 90 ≤ j) ∨ (c = 179 ∧ 64 ≤ j)) : FV v0 (q_up v c j x) w p := by
  obtain ⟨h1, h2, g⟩ := h
  refine ⟨by rw [q_up_1, if_neg (by omega)]; exact h1, by rw [q_up_1, if_neg (by omega)]; exact h2, fun d a b => ?_, fun k a b c' d e f => ?_, fun d k a b c' => ?_, fun d k a b c' => ?_, fun k a => ?_, fun k a => ?_, g.2.2.2.2.2.2⟩
  · rw [q_up_1, if_neg (by omega)]; exact g.1 d a b
  · rw [q_up_1, if_neg (by omega)]; exact g.2.1 k a b c' d e f
  · rw [q_up_1, if_neg (by omega)]; exact g.2.2.1 d k a b c'
  · rw [q_up_1, if_neg (by omega)]; exact g.2.2.2.1 d k a b c'
  · rw [q_up_1]
    by_cases e : 178 = c
    · rw [if_pos e, upd_g, if_neg (by omega), ← e]; exact g.2.2.2.2.1 k a
    · rw [if_neg e]; exact g.2.2.2.2.1 k a
  · rw [q_up_1]
    by_cases e : 179 = c
    · rw [if_pos e, upd_g, if_neg (by omega), ← e]; exact g.2.2.2.2.2.1 k a
    · rw [if_neg e]; exact g.2.2.2.2.2.1 k a
theorem BS.uc {c j : Nat} {x : Int32} (h : BS N z T u0 v0 u v i) (hc : 72 ≤ c ∧ c < 88) : BS N z T u0 v0 (q_up u c j x) v i := by
  obtain ⟨g, ⟨n1, n2⟩, r⟩ := h
  refine ⟨⟨fun d hd => ?_, g.2⟩, ⟨?_, fun k hk => ?_⟩, r⟩
  · rw [q_up_1, if_neg (by omega)]; exact g.1 d hd
  · rw [q_up_1, if_neg (by omega)]; exact n1
  · rw [q_up_1, if_neg (by omega)]; exact n2 k hk
theorem BS.vc {c j : Nat} {x : Int32} (h : BS N z T u0 v0 u v i) (hc : (c = 178 ∧ 90 ≤ j) ∨ (c = 179 ∧ 64 ≤ j)) : BS N z T u0 v0 u (q_up v c j x) i := by
  obtain ⟨a, b, c', g, at'⟩ := h
  have f := FV.up (w := 0) (p := 0) (v0 := v0) (v := q_up (q_up v 163 32 (nI 0)) 163 33 (nI 0)) (c := c) (j := j) (x := x)
  refine ⟨a, b, c', ?_, ?_⟩
  · refine ⟨fun d a b => ?_, fun k a b c' d e f => ?_, fun d k a b c' => ?_, fun d k a b c' => ?_, fun k a => ?_, fun k a => ?_, g.2.2.2.2.2.2⟩
    · rw [q_up_1, if_neg (by omega)]; exact g.1 d a b
    · rw [q_up_1, if_neg (by omega)]; exact g.2.1 k a b c' d e f
    · rw [q_up_1, if_neg (by omega)]; exact g.2.2.1 d k a b c'
    · rw [q_up_1, if_neg (by omega)]; exact g.2.2.2.1 d k a b c'
    · rw [q_up_1]
      by_cases e : 178 = c
      · rw [if_pos e, upd_g, if_neg (by omega), ← e]; exact g.2.2.2.2.1 k a
      · rw [if_neg e]; exact g.2.2.2.2.1 k a
    · rw [q_up_1]
      by_cases e : 179 = c
      · rw [if_pos e, upd_g, if_neg (by omega), ← e]; exact g.2.2.2.2.2.1 k a
      · rw [if_neg e]; exact g.2.2.2.2.2.1 k a
  · have e163 : (q_up v c j x).1 163 = v.1 163 := by rw [q_up_1, if_neg (by omega)]
    unfold AT
    rw [e163]; exact at'
theorem BS.nx (h : BS N z T u0 v0 u v i) {v2 : qS} (hi : i < T) (hA : AT N z v2 (i + 1)) (hG : GV v0 v2) : BS N z T u0 v0 (q_up u 66 6 (u.1 66 6 + nI 1)) v2 (i + 1) := by
  obtain ⟨g2, n2⟩ := nxt_c h.1 h.2.1
  exact ⟨g2, n2, by omega, hG, hA⟩
theorem num_b (hX : CX N z si T u0 v0) (h : BS N z T u0 v0 u v i) (lo : Nat) (hi' : Int32) (hl : lo < 100000) : (∃ u2 v2 w p, m_X6_number 66 (nI lo) hi' u = some (mI, u2) ∧ m_X11_readNumber (nI lo) hi' v = some (mI, v2) ∧ FC u0 u2 w p ∧ FV v0 v2 w p) ∨ (∃ v2, (tx N z i).1 = 3 ∧ lo ≤ (tx N z i).2 ∧ ((tx N z i).2 : Int) ≤ hi'.toInt ∧ i < T ∧ (tx N z i).2 < 10000 ∧ m_X6_number 66 (nI lo) hi' u = some (nI (tx N z i).2, q_up u 66 6 (u.1 66 6 + nI 1)) ∧ m_X11_readNumber (nI lo) hi' v = some (nI (tx N z i).2, v2) ∧ BS N z T u0 v0 (q_up u 66 6 (u.1 66 6 + nI 1)) v2 (i + 1) ∧ KP v v2) := by
  obtain ⟨hG, hN, hiT, gv, hA⟩ := h
  have hT := hX.T4
  have ha := ck_all (si := si) (hX.tok i) hX.se
  have kd := kind_c hX hG hN.1 hiT
  have kl := ck_lt hX i
  have h4 := (hX.tok i).1
  obtain ⟨l1, l2, l3⟩ := hG.lx hX.2.2.2.2.1
  by_cases hn : (tx N z i).1 = 3
  · have hv4 := (hX.tok i).2.2.2 hn
    have hval : u.1 71 i = nI (tx N z i).2 := (l3 i hiT).2.2 hn
    have inn := in_g (nI (tx N z i).2) lo hi' u (by omega)
    have inr' := in_g (nI (tx N z i).2) lo hi' v (by omega)
    rw [nI_t (by omega)] at inn inr'
    by_cases hr : (lo : Int) ≤ ((tx N z i).2 : Int) ∧ ((tx N z i).2 : Int) ≤ hi'.toInt
    · rw [decide_eq_true hr] at inn inr'
      have hlt := hX.lt hiT (show ck si (tx N z i) ≠ 0 by omega)
      obtain ⟨v2, r1, r2, r3, r4⟩ := read_n hX hA gv
      refine Or.inr ⟨v2, hn, by omega, hr.2, hlt, hv4, ?_, ?_, BS.nx ⟨hG, hN, hiT, gv, hA⟩ hlt r2 r3, r4⟩
      · unfold m_X6_number
        simp only [lit_n, mI_lit]
        rw [kd, q_bd_s', nI_t (by omega), nI_t (by omega), if_pos (by omega), hN.1, ald_n (by omega) (by omega), Option.bind_some, show 66 + 5 = 71 from rfl, hval, inn.1, q_bd_s', if_neg bI_1, hN.1, q_let_s]
      · unfold m_X11_readNumber
        simp only [lit_n]
        rw [hA.2.2.1, hn, if_pos rfl, hA.2.2.2 (by omega), inr'.2, q_bd_s', if_neg bI_1, hA.2.2.2 (by omega), q_let_s, r1, q_bd_s']
    · rw [decide_eq_false hr] at inn inr'
      obtain ⟨u2, c1, c2⟩ := fail_c (w := 2) hX hG hN.1 hiT
      obtain ⟨v2, d1, d2⟩ := errs_r (w := 2) hA gv
      refine Or.inl ⟨u2, v2, 2, _, ?_, ?_, c2, d2⟩
      · unfold m_X6_number
        simp only [lit_n, mI_lit]
        rw [kd, q_bd_s', nI_t (by omega), nI_t (by omega), if_pos (by omega), hN.1, ald_n (by omega) (by omega), Option.bind_some, show 66 + 5 = 71 from rfl, hval, inn.1, q_bd_s', if_pos bI_0, c1, q_bd_s']
      · unfold m_X11_readNumber
        simp only [lit_n]
        rw [hA.2.2.1, hn, if_pos rfl, hA.2.2.2 (by omega), inr'.2, q_bd_s', if_pos bI_0, d1, q_bd_s']
  · obtain ⟨u2, c1, c2⟩ := fail_c (w := 1) hX hG hN.1 hiT
    obtain ⟨v2, d1, d2⟩ := errs_r (w := 1) hA gv
    refine Or.inl ⟨u2, v2, 1, _, ?_, ?_, c2, d2⟩
    · unfold m_X6_number
      simp only [lit_n, mI_lit]
      rw [kd, q_bd_s', nI_t (by omega), nI_t (by omega), if_neg (by omega), c1, q_bd_s']
    · unfold m_X11_readNumber
      simp only [lit_n]
      rw [hA.2.2.1, if_neg (by rw [nI_t (by omega), nI_t (by omega)]; omega), d1, q_bd_s']
/-- a word or a sign that must stand there: the class's takes -/
theorem take_b {c : Nat} (hX : CX N z si T u0 v0) (h : BS N z T u0 v0 u v i) (hc : c < 300) (h0 : c ≠ 0) : (ck si (tx N z i) = c ∧ i < T ∧ m_X6_takes 66 (nI c) u = some (nI 1, q_up u 66 6 (u.1 66 6 + nI 1)) ∧ ∃ v2, m_X11_reads v = some (nI 0, v2) ∧ BS N z T u0 v0 (q_up u 66 6 (u.1 66 6 + nI 1)) v2 (i + 1) ∧ KP v v2) ∨ (ck si (tx N z i) ≠ c ∧ ∃ u2 v2, m_X6_takes 66 (nI c) u = some (nI 0, u2) ∧ m_X11_errs (nI 1) v = some (mI, v2) ∧ FC u0 u2 1 (tq N z i) ∧ FV v0 v2 1 (tq N z i)) := by
  have h' := h
  obtain ⟨hG, hN, hiT, gv, hA⟩ := h
  rcases takes_c hX hG hN hiT hc h0 with ⟨t1, t2, t3⟩ | ⟨t1, u3, t2, t3⟩
  · obtain ⟨v2, r1, r2, r3, r4⟩ := read_n hX hA gv
    exact Or.inl ⟨t1, t2, t3, v2, r1, h'.nx t2 r2 r3, r4⟩
  · obtain ⟨v3, d1, d2⟩ := errs_r (w := 1) hA gv
    exact Or.inr ⟨t1, u3, v3, t2, d1, t3, d2⟩
end
