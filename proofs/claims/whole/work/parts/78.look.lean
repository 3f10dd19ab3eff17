/-! LAYER 2: THE CALLS, 5: of, tree, who, meets, look -/
def hsF (f : Nat → Int32) (p : Int32) : Nat → Nat → Int32 → Int32
  | _, 0, a => a
  | t, n + 1, a => hsF f p (t + 1) n (if (f (20 + t)).toInt = p.toInt then a + f (62 + t) else a)
section
variable {k2 : Nat} {u v : qS}
theorem hs_c {T : Nat} {f g : Nat → Int32} {p : Int32} {K : Int32 → qS → qR} (hC : RC k2 u.1 f g) (hT : f 4 = nI T) (hT4 : T ≤ 14) : ∀ (n t fu : Nat) (a : Int32), t + n = T → n < fu → q_it2 (m_X0_hangingOf_L4 k2 p K) fu a (nI t) u = K (hsF f p t n a) u
  | n, t, 0, a, ht, hf => by omega
  | 0, t, fu + 1, a, ht, hf => by
    show m_X0_hangingOf_L4 _ _ _ _ _ _ _ = _
    unfold m_X0_hangingOf_L4
    rw [hC.trees, hT, if_pos (by rw [nI_t (by omega), nI_t (by omega)]; omega)]; rfl
  | n + 1, t, fu + 1, a, ht, hf => by
    have c1 : ¬ (u.1 k2 8).toInt ≤ (nI t).toInt := by rw [hC.trees, hT, nI_t (by omega), nI_t (by omega)]; omega
    have x4 : q_ald u (k2 + 4) 14 (nI t) = some (f (20 + t)) := by rw [ald_n (by omega) (by omega), hC.tparty (by omega)]
    have x7 : q_ald u (k2 + 7) 14 (nI t) = some (f (62 + t)) := by rw [ald_n (by omega) (by omega), hC.hang (by omega)]
    unfold hsF
    rw [← hs_c (K := K) hC hT hT4 n (t + 1) fu _ (by omega) (by omega)]
    show m_X0_hangingOf_L4 _ _ _ (q_it2 (m_X0_hangingOf_L4 k2 p K) fu) _ _ _ = _
    generalize q_it2 (m_X0_hangingOf_L4 k2 p K) fu = self
    unfold m_X0_hangingOf_L4
    by_cases h : (f (20 + t)).toInt = p.toInt
    · simp only [if_neg c1, x4, x7, Option.bind_some, q_jn, if_pos h, q_let, lit_n, nI_add]
    · simp only [if_neg c1, x4, Option.bind_some, q_jn, if_neg h, lit_n, nI_add]
theorem hs_r {T : Nat} {p : Int32} {K : Int32 → qS → qR} (hT : v.1 164 4 = nI T) (hT4 : T ≤ 14) : ∀ (n t fu : Nat) (a : Int32), t + n = T → n < fu → q_it2 (m_X11_of_L63 p K) fu a (nI t) v = K (hsF (v.1 164) p t n a) v
  | n, t, 0, a, ht, hf => by omega
  | 0, t, fu + 1, a, ht, hf => by
    show m_X11_of_L63 _ _ _ _ _ _ = _
    unfold m_X11_of_L63
    have a4 : q_ald v 164 136 (nI 4) = some (nI T) := by rw [ald_n (by omega) (by omega), hT]
    have c1 : (nI T).toInt ≤ (nI t).toInt := by rw [nI_t (by omega), nI_t (by omega)]; omega
    simp only [lit_n, a4, Option.bind_some, if_pos c1]; rfl
  | n + 1, t, fu + 1, a, ht, hf => by
    have a4 : q_ald v 164 136 (nI 4) = some (nI T) := by rw [ald_n (by omega) (by omega), hT]
    have c1 : ¬ (nI T).toInt ≤ (nI t).toInt := by rw [nI_t (by omega), nI_t (by omega)]; omega
    have x4 : q_ald v 164 136 (nI (20 + t)) = some (v.1 164 (20 + t)) := ald_n (by omega) (by omega)
    have x7 : q_ald v 164 136 (nI (62 + t)) = some (v.1 164 (62 + t)) := ald_n (by omega) (by omega)
    unfold hsF
    rw [← hs_r (K := K) hT hT4 n (t + 1) fu _ (by omega) (by omega)]
    show m_X11_of_L63 _ _ (q_it2 (m_X11_of_L63 p K) fu) _ _ _ = _
    generalize q_it2 (m_X11_of_L63 p K) fu = self
    unfold m_X11_of_L63
    by_cases h : (v.1 164 (20 + t)).toInt = p.toInt
    · simp only [a4, if_neg c1, x4, x7, Option.bind_some, q_jn, if_pos h, q_let, lit_n, nI_add]
    · simp only [a4, if_neg c1, x4, Option.bind_some, q_jn, if_neg h, lit_n, nI_add]
theorem pset_r {e M : Nat} {K : Int32 → qS → qR} (he : e < 10) (hM : v.1 178 (9 * e) = nI M) (hM8 : M ≤ 8) : ∀ (n i fu : Nat), i + n = M → n < fu → q_it2 (m_X11_placesOf_L4 (nI e) K) fu (pset (fun i => v.1 178 (9 * e + 1 + i)) i) (nI (i + 1)) v = K (pset (fun i => v.1 178 (9 * e + 1 + i)) M) v
  | n, i, 0, hi, hf => by omega
  | 0, i, fu + 1, hi, hf => by
    have : i = M := by omega
    subst this
    show m_X11_placesOf_L4 _ _ _ _ _ _ = _
    unfold m_X11_placesOf_L4
    have a1 : q_ald v 178 180 (nI (9 * e)) = some (nI i) := by rw [ald_n (by omega) (by omega), hM]
    have c1 : (nI i).toInt < (nI (i + 1)).toInt := by rw [nI_t (by omega), nI_t (by omega)]; omega
    simp only [lit_n, pk_mul, a1, Option.bind_some, if_pos c1]
  | n + 1, i, fu + 1, hi, hf => by
    rw [← pset_r (K := K) he hM hM8 n (i + 1) fu (by omega) (by omega)]
    show m_X11_placesOf_L4 _ _ (q_it2 (m_X11_placesOf_L4 (nI e) K) fu) _ _ _ = _
    generalize q_it2 (m_X11_placesOf_L4 (nI e) K) fu = self
    unfold m_X11_placesOf_L4
    have a1 : q_ald v 178 180 (nI (9 * e)) = some (nI M) := by rw [ald_n (by omega) (by omega), hM]
    have a2 : q_ald v 178 180 (nI (9 * e + (i + 1))) = some (v.1 178 (9 * e + 1 + i)) := by rw [ald_n (by omega) (by omega), show 9 * e + (i + 1) = 9 * e + 1 + i by omega]
    have c1 : ¬ (nI M).toInt < (nI (i + 1)).toInt := by rw [nI_t (by omega), nI_t (by omega)]; omega
    simp only [lit_n, pk_mul, nI_add, a1, a2, Option.bind_some, if_neg c1, q_let]
    rfl
theorem places_s {x y : qS} (h : RPa 19 x.1 y.1) {e : Nat} (he : e < 10) : q_ald x 22 10 (nI e) = some (x.1 22 e) ∧ m_X11_placesOf (nI e) y = some (x.1 22 e, y) := by
  obtain ⟨M, m1, m2, m3, m4, m5⟩ := h.2 e he
  refine ⟨ald_n (by omega) (by omega), ?_⟩
  unfold m_X11_placesOf
  have := pset_r (v := y) (K := fun x2 u_2 => some (x2, u_2)) he m3 m1 M 0 q_F (by omega) (by rw [q_F_eq]; omega)
  simp only [lit_n]
  rw [show x.1 22 e = _ from m5]
  exact this
end
theorem sim_of (p a : Int32) : SIM (m_X10_of p a) (m_X11_of p a) := fun x y h => by
  obtain ⟨P, hP5, hP, hP2⟩ := h.G.P
  obtain ⟨T, hT4, hT, hT2⟩ := h.B.trees
  have hx7 : x.1 2 7 = nI P := by rw [h.C.parties, hP]
  unfold m_X10_of m_X11_of
  simp only [lit_n, mI_lit]
  rcases party_b p (x := x) (y := q_up y 163 0 (nI 0)) hx7 hP hP5 with ⟨t, t1, t2, p1, p2⟩ | ⟨p1, p2⟩
  · rcases within_b a 0 3 (by omega) (by omega) with ⟨m, m0, m1, m2, -, w2⟩ | ⟨w1, w2⟩
    · subst t2
      have z0 : q_ald x 3 5 (nI t) = some (y.1 164 (15 + t)) := by rw [ald_n (by omega) (by omega)]; exact congrArg some (h.C.store (by omega))
      have z1 : q_ald x 4 5 (nI t) = some (y.1 164 (5 + t)) := by rw [ald_n (by omega) (by omega)]; exact congrArg some (h.C.votes (by omega))
      have z2 : q_ald x 5 5 (nI t) = some (y.1 164 (10 + t)) := by rw [ald_n (by omega) (by omega)]; exact congrArg some (h.C.seats (by omega))
      have yy : ∀ o, o ≤ 15 → q_ald (q_up y 163 0 (nI 0)) 164 136 (nI (t + o)) = some (y.1 164 (o + t)) := fun o ho => by rw [ald_n (by omega) (by omega), Nat.add_comm t o]; rfl
      have hm : m = 0 ∨ m = 1 ∨ m = 2 ∨ m = 3 := by omega
      subst m2
      rcases hm with rfl | rfl | rfl | rfl
      · have t0 : (nI 0).toInt = 0 := rfl
        have c1 : ¬ (nI 3).toInt ≤ (nI 0).toInt := by decide
        exact ⟨y.1 164 (15 + t), x, q_up y 163 0 (nI 0), by simp only [p1, q_bd_some, z10, if_false, t0, if_true, z0, Option.bind_some], by simp only [q_let, p2, q_bd_some, z10, if_false, w2, if_neg c1, z00, if_true, q_jn, nI_add, yy 15 (by omega), Option.bind_some], h.told⟩
      · have t0 : (nI 1).toInt = 1 := rfl
        have t1' : ¬ ((1 : Int) = 0) := by omega
        have c1 : ¬ (nI 3).toInt ≤ (nI 1).toInt := by decide
        exact ⟨y.1 164 (5 + t), x, q_up y 163 0 (nI 0), by simp only [p1, q_bd_some, z10, if_false, t0, if_neg t1', if_true, z1, Option.bind_some], by simp only [q_let, p2, q_bd_some, z10, if_false, w2, if_neg c1, if_true, q_jn, nI_add, yy 5 (by omega), Option.bind_some], h.told⟩
      · have t0 : (nI 2).toInt = 2 := rfl
        have t1' : ¬ ((2 : Int) = 0) := by omega
        have t2' : ¬ ((2 : Int) = 1) := by omega
        have c1 : ¬ (nI 3).toInt ≤ (nI 2).toInt := by decide
        have c2 : ¬ (nI 2).toInt = (nI 1).toInt := by decide
        have c3 : ¬ (nI 2).toInt = 0 := by decide
        exact ⟨y.1 164 (10 + t), x, q_up y 163 0 (nI 0), by simp only [p1, q_bd_some, z10, if_false, t0, if_neg t1', if_neg t2', if_true, z2, Option.bind_some], by simp only [q_let, p2, q_bd_some, z10, if_false, w2, if_neg c1, if_neg c2, if_neg c3, q_jn, nI_add, yy 10 (by omega), Option.bind_some], h.told⟩
      · have t0 : (nI 3).toInt = 3 := rfl
        have t1' : ¬ ((3 : Int) = 0) := by omega
        have t2' : ¬ ((3 : Int) = 1) := by omega
        have t3' : ¬ ((3 : Int) = 2) := by omega
        have c1 : (nI 3).toInt ≤ (nI 3).toInt := by decide
        have hc : m_X0_hangingOf 2 (nI t) x = some (hsF (y.1 164) (nI t) 0 T (nI 0), x) := by
          unfold m_X0_hangingOf
          simp only [lit_n]
          exact hs_c (K := fun x2 u_4 => some (x2, u_4)) h.C hT hT4 T 0 q_F (nI 0) (by omega) (by rw [q_F_eq]; omega)
        have hr := hs_r (v := q_up y 163 0 (nI 0)) (p := nI t) (K := fun x3 u_9 => some (x3, u_9)) hT hT4 T 0 q_F (nI 0) (by omega) (by rw [q_F_eq]; omega)
        refine ⟨hsF (y.1 164) (nI t) 0 T (nI 0), x, q_up y 163 0 (nI 0), by simp only [p1, q_bd_some, z10, if_false, t0, if_neg t1', if_neg t2', if_neg t3', if_true, hc], ?_, h.told⟩
        rw [q_let_s, p2, q_bd_s', if_neg (by decide), w2, q_bd_s', if_neg (by decide), if_pos c1]
        exact hr
    · subst t2
      refine ⟨mI, x, q_up y 163 0 (nI 0), ?_, by simp only [q_let, p2, q_bd_some, z10, if_false, w2, z00, if_true], h.told⟩
      have hn : ∀ k : Nat, k ≤ 3 → ¬ a.toInt = (k : Int) := fun k hk e => by
        have ha : a = nI k := i32_eq (by rw [e, nI_t (by omega)])
        have := w2 x
        rw [ha] at this
        unfold m_X11_isIn at this
        rw [if_neg (by rw [nI_t (by omega), nI_t (by omega)]; omega), if_neg (by rw [nI_t (by omega), nI_t (by omega)]; omega)] at this
        have := (Prod.mk.inj (Option.some.inj this)).1
        exact absurd this (by decide)
      have h0 : ¬ a.toInt = 0 := hn 0 (by omega)
      have h1 : ¬ a.toInt = 1 := hn 1 (by omega)
      have h2 : ¬ a.toInt = 2 := hn 2 (by omega)
      have h3 : ¬ a.toInt = 3 := hn 3 (by omega)
      rw [p1, q_bd_some, if_neg (by decide), if_neg h0, if_neg h1, if_neg h2, if_neg h3]
  · exact ⟨mI, x, q_up y 163 0 (nI 0), by simp only [p1, q_bd_some, z00, if_true], by simp only [q_let, p2, q_bd_some, z00, if_true], h.told⟩
theorem sim_meets (a b : Int32) : SIM (m_X10_meets a b) (m_X11_meets a b) := fun x y h => by
  obtain ⟨E, hE1, hE, hE2⟩ := h.G.E
  have hx9 : x.1 2 9 = nI E := by rw [h.C.eaters, hE]
  have hpa : RPa 19 x.1 (q_up y 163 0 (nI 0)).1 := h.told.1.2.2.2.2.2.1
  unfold m_X10_meets m_X11_meets
  simp only [lit_n, mI_lit]
  rcases eater_b a (x := x) (y := q_up y 163 0 (nI 0)) hx9 hE hE1 with ⟨t, t1, t2, p1, p2⟩ | ⟨p1, p2⟩
  · rcases eater_b b (x := x) (y := q_up y 163 0 (nI 0)) hx9 hE hE1 with ⟨s, s1, s2, r1, r2⟩ | ⟨r1, r2⟩
    · obtain ⟨c1, c2⟩ := places_s hpa (e := t) (by omega)
      obtain ⟨d1, d2⟩ := places_s hpa (e := s) (by omega)
      rw [← t2] at c1 c2
      rw [← s2] at d1 d2
      exact ⟨x.1 22 t &&& x.1 22 s, x, q_up y 163 0 (nI 0), by simp only [p1, q_bd_some, z10, if_false, r1, c1, d1, Option.bind_some], by simp only [q_let, p2, q_bd_some, z10, if_false, r2, c2, d2], h.told⟩
    · exact ⟨mI, x, q_up y 163 0 (nI 0), by simp only [p1, q_bd_some, z10, if_false, r1, z00, if_true], by simp only [q_let, p2, q_bd_some, z10, if_false, r2, z00, if_true], h.told⟩
  · exact ⟨mI, x, q_up y 163 0 (nI 0), by simp only [p1, q_bd_some, z00, if_true], by simp only [q_let, p2, q_bd_some, z00, if_true], h.told⟩
theorem sim_look (a : Int32) : SIM (m_X10_look a) (m_X11_look a) := fun x y h => by
  have e10 : x.1 12 0 = y.1 170 0 := by obtain ⟨N, n1, n2, n3, -⟩ := h.1.2.2.2.2.1; exact n2.trans n3.symm
  have e11 : x.1 19 0 = y.1 163 36 := h.1.2.2.2.2.2.1.1
  have e12 : x.1 23 0 = y.1 163 38 := by obtain ⟨N, n1, n2, n3, -⟩ := h.1.2.2.2.2.2.2.1; exact n2.trans n3.symm
  have e13 : x.1 28 0 = y.1 163 48 := by obtain ⟨N, n1, n2, n3, -⟩ := h.1.2.2.2.2.2.2.2.1; exact n2.trans n3.symm
  have e14 : x.1 0 5 = y.1 163 3 := by obtain ⟨m, q, a1, a2, a3, a4, -⟩ := h.2.1; exact a3.trans a4.symm
  have z : ∀ j, j < 136 → q_ald (q_up y 163 0 (nI 0)) 164 136 (nI j) = some (y.1 164 j) := fun j hj => ald_n hj (by omega)
  have zl : q_ald (q_up y 163 0 (nI 0)) 170 2 (nI 0) = some (y.1 170 0) := ald_n (by omega) (by omega)
  have tt : ∀ n : Nat, n ≤ 15 → (nI n).toInt = (n : Int) := fun n hn => nI_t (by omega)
  unfold m_X10_look m_X11_look m_X11_chairs m_X11_every
  simp only [lit_n, mI_lit, q_let]
  by_cases p0 : a.toInt = 0
  · exact ⟨y.1 163 6, x, q_up y 163 0 (nI 0), by rw [if_pos p0, show x.1 2 7 = y.1 163 6 from h.C.parties], by rw [if_pos p0]; rfl, h.told⟩
  have n0 : ¬ a.toInt = 0 := p0
  by_cases p1 : a.toInt = 1
  · have q1 : a.toInt = (nI 1).toInt := by rw [tt 1 (by omega), p1]; rfl
    exact ⟨y.1 164 4, x, q_up y 163 0 (nI 0), by rw [if_neg n0, if_pos p1, show x.1 2 8 = y.1 164 4 from h.C.trees], by rw [if_neg n0, if_pos q1, z 4 (by omega), Option.bind_some], h.told⟩
  have n1 : ¬ a.toInt = 1 := p1
  have m1 : ¬ a.toInt = (nI 1).toInt := by rw [tt 1 (by omega)]; exact p1
  by_cases p2 : a.toInt = 2
  · have q2 : a.toInt = (nI 2).toInt := by rw [tt 2 (by omega), p2]; rfl
    exact ⟨y.1 163 7, x, q_up y 163 0 (nI 0), by rw [if_neg n0, if_neg n1, if_pos p2, show x.1 2 9 = y.1 163 7 from h.C.eaters], by rw [if_neg n0, if_neg m1, if_pos q2]; rfl, h.told⟩
  have n2 : ¬ a.toInt = 2 := p2
  have m2 : ¬ a.toInt = (nI 2).toInt := by rw [tt 2 (by omega)]; exact p2
  by_cases p3 : a.toInt = 3
  · have q3 : a.toInt = (nI 3).toInt := by rw [tt 3 (by omega), p3]; rfl
    exact ⟨y.1 164 0, x, q_up y 163 0 (nI 0), by rw [if_neg n0, if_neg n1, if_neg n2, if_pos p3, show x.1 2 0 = y.1 164 0 from h.C.week], by rw [if_neg n0, if_neg m1, if_neg m2, if_pos q3, z 0 (by omega), Option.bind_some], h.told⟩
  have n3 : ¬ a.toInt = 3 := p3
  have m3 : ¬ a.toInt = (nI 3).toInt := by rw [tt 3 (by omega)]; exact p3
  by_cases p4 : a.toInt = 4
  · have q4 : a.toInt = (nI 4).toInt := by rw [tt 4 (by omega), p4]; rfl
    exact ⟨y.1 163 8, x, q_up y 163 0 (nI 0), by rw [if_neg n0, if_neg n1, if_neg n2, if_neg n3, if_pos p4, show x.1 2 2 = y.1 163 8 from h.C.bad], by rw [if_neg n0, if_neg m1, if_neg m2, if_neg m3, if_pos q4]; rfl, h.told⟩
  have n4 : ¬ a.toInt = 4 := p4
  have m4 : ¬ a.toInt = (nI 4).toInt := by rw [tt 4 (by omega)]; exact p4
  by_cases p5 : a.toInt = 5
  · have q5 : a.toInt = (nI 5).toInt := by rw [tt 5 (by omega), p5]; rfl
    exact ⟨y.1 163 9, x, q_up y 163 0 (nI 0), by rw [if_neg n0, if_neg n1, if_neg n2, if_neg n3, if_neg n4, if_pos p5, show x.1 2 3 = y.1 163 9 from h.C.wasps], by rw [if_neg n0, if_neg m1, if_neg m2, if_neg m3, if_neg m4, if_pos q5]; rfl, h.told⟩
  have n5 : ¬ a.toInt = 5 := p5
  have m5 : ¬ a.toInt = (nI 5).toInt := by rw [tt 5 (by omega)]; exact p5
  by_cases p6 : a.toInt = 6
  · have q6 : a.toInt = (nI 6).toInt := by rw [tt 6 (by omega), p6]; rfl
    exact ⟨y.1 163 10 + nI 9, x, q_up y 163 0 (nI 0), by rw [if_neg n0, if_neg n1, if_neg n2, if_neg n3, if_neg n4, if_neg n5, if_pos p6, show x.1 2 4 = y.1 163 10 + nI 9 from h.C.chairs], by rw [if_neg n0, if_neg m1, if_neg m2, if_neg m3, if_neg m4, if_neg m5, if_pos q6, q_bd_some]; rfl, h.told⟩
  have n6 : ¬ a.toInt = 6 := p6
  have m6 : ¬ a.toInt = (nI 6).toInt := by rw [tt 6 (by omega)]; exact p6
  by_cases p7 : a.toInt = 7
  · have q7 : a.toInt = (nI 7).toInt := by rw [tt 7 (by omega), p7]; rfl
    exact ⟨y.1 163 11 + nI 4, x, q_up y 163 0 (nI 0), by rw [if_neg n0, if_neg n1, if_neg n2, if_neg n3, if_neg n4, if_neg n5, if_neg n6, if_pos p7, show x.1 2 5 = y.1 163 11 + nI 4 from h.C.every], by rw [if_neg n0, if_neg m1, if_neg m2, if_neg m3, if_neg m4, if_neg m5, if_neg m6, if_pos q7, q_bd_some]; rfl, h.told⟩
  have n7 : ¬ a.toInt = 7 := p7
  have m7 : ¬ a.toInt = (nI 7).toInt := by rw [tt 7 (by omega)]; exact p7
  by_cases p8 : a.toInt = 8
  · have q8 : a.toInt = (nI 8).toInt := by rw [tt 8 (by omega), p8]; rfl
    exact ⟨y.1 164 2, x, q_up y 163 0 (nI 0), by rw [if_neg n0, if_neg n1, if_neg n2, if_neg n3, if_neg n4, if_neg n5, if_neg n6, if_neg n7, if_pos p8, show x.1 2 10 = y.1 164 2 from h.C.lines], by rw [if_neg n0, if_neg m1, if_neg m2, if_neg m3, if_neg m4, if_neg m5, if_neg m6, if_neg m7, if_pos q8, z 2 (by omega), Option.bind_some], h.told⟩
  have n8 : ¬ a.toInt = 8 := p8
  have m8 : ¬ a.toInt = (nI 8).toInt := by rw [tt 8 (by omega)]; exact p8
  by_cases p9 : a.toInt = 9
  · have q9 : a.toInt = (nI 9).toInt := by rw [tt 9 (by omega), p9]; rfl
    exact ⟨y.1 164 1, x, q_up y 163 0 (nI 0), by rw [if_neg n0, if_neg n1, if_neg n2, if_neg n3, if_neg n4, if_neg n5, if_neg n6, if_neg n7, if_neg n8, if_pos p9, show x.1 2 1 = y.1 164 1 from h.C.state], by rw [if_neg n0, if_neg m1, if_neg m2, if_neg m3, if_neg m4, if_neg m5, if_neg m6, if_neg m7, if_neg m8, if_pos q9, z 1 (by omega), Option.bind_some], h.told⟩
  have n9 : ¬ a.toInt = 9 := p9
  have m9 : ¬ a.toInt = (nI 9).toInt := by rw [tt 9 (by omega)]; exact p9
  by_cases p10 : a.toInt = 10
  · have q10 : a.toInt = (nI 10).toInt := by rw [tt 10 (by omega), p10]; rfl
    exact ⟨y.1 170 0, x, q_up y 163 0 (nI 0), by rw [if_neg n0, if_neg n1, if_neg n2, if_neg n3, if_neg n4, if_neg n5, if_neg n6, if_neg n7, if_neg n8, if_neg n9, if_pos p10, show x.1 12 0 = y.1 170 0 from e10], by rw [if_neg n0, if_neg m1, if_neg m2, if_neg m3, if_neg m4, if_neg m5, if_neg m6, if_neg m7, if_neg m8, if_neg m9, if_pos q10, zl, Option.bind_some], h.told⟩
  have n10 : ¬ a.toInt = 10 := p10
  have m10 : ¬ a.toInt = (nI 10).toInt := by rw [tt 10 (by omega)]; exact p10
  by_cases p11 : a.toInt = 11
  · have q11 : a.toInt = (nI 11).toInt := by rw [tt 11 (by omega), p11]; rfl
    exact ⟨y.1 163 36, x, q_up y 163 0 (nI 0), by rw [if_neg n0, if_neg n1, if_neg n2, if_neg n3, if_neg n4, if_neg n5, if_neg n6, if_neg n7, if_neg n8, if_neg n9, if_neg n10, if_pos p11, show x.1 19 0 = y.1 163 36 from e11], by rw [if_neg n0, if_neg m1, if_neg m2, if_neg m3, if_neg m4, if_neg m5, if_neg m6, if_neg m7, if_neg m8, if_neg m9, if_neg m10, if_pos q11]; rfl, h.told⟩
  have n11 : ¬ a.toInt = 11 := p11
  have m11 : ¬ a.toInt = (nI 11).toInt := by rw [tt 11 (by omega)]; exact p11
  by_cases p12 : a.toInt = 12
  · have q12 : a.toInt = (nI 12).toInt := by rw [tt 12 (by omega), p12]; rfl
    exact ⟨y.1 163 38, x, q_up y 163 0 (nI 0), by rw [if_neg n0, if_neg n1, if_neg n2, if_neg n3, if_neg n4, if_neg n5, if_neg n6, if_neg n7, if_neg n8, if_neg n9, if_neg n10, if_neg n11, if_pos p12, show x.1 23 0 = y.1 163 38 from e12], by rw [if_neg n0, if_neg m1, if_neg m2, if_neg m3, if_neg m4, if_neg m5, if_neg m6, if_neg m7, if_neg m8, if_neg m9, if_neg m10, if_neg m11, if_pos q12]; rfl, h.told⟩
  have n12 : ¬ a.toInt = 12 := p12
  have m12 : ¬ a.toInt = (nI 12).toInt := by rw [tt 12 (by omega)]; exact p12
  by_cases p13 : a.toInt = 13
  · have q13 : a.toInt = (nI 13).toInt := by rw [tt 13 (by omega), p13]; rfl
    exact ⟨y.1 163 48, x, q_up y 163 0 (nI 0), by rw [if_neg n0, if_neg n1, if_neg n2, if_neg n3, if_neg n4, if_neg n5, if_neg n6, if_neg n7, if_neg n8, if_neg n9, if_neg n10, if_neg n11, if_neg n12, if_pos p13, show x.1 28 0 = y.1 163 48 from e13], by rw [if_neg n0, if_neg m1, if_neg m2, if_neg m3, if_neg m4, if_neg m5, if_neg m6, if_neg m7, if_neg m8, if_neg m9, if_neg m10, if_neg m11, if_neg m12, if_pos q13]; rfl, h.told⟩
  have n13 : ¬ a.toInt = 13 := p13
  have m13 : ¬ a.toInt = (nI 13).toInt := by rw [tt 13 (by omega)]; exact p13
  by_cases p14 : a.toInt = 14
  · have q14 : a.toInt = (nI 14).toInt := by rw [tt 14 (by omega), p14]; rfl
    exact ⟨y.1 163 3, x, q_up y 163 0 (nI 0), by rw [if_neg n0, if_neg n1, if_neg n2, if_neg n3, if_neg n4, if_neg n5, if_neg n6, if_neg n7, if_neg n8, if_neg n9, if_neg n10, if_neg n11, if_neg n12, if_neg n13, if_pos p14, show x.1 0 5 = y.1 163 3 from e14], by rw [if_neg n0, if_neg m1, if_neg m2, if_neg m3, if_neg m4, if_neg m5, if_neg m6, if_neg m7, if_neg m8, if_neg m9, if_neg m10, if_neg m11, if_neg m12, if_neg m13, if_pos q14]; rfl, h.told⟩
  have n14 : ¬ a.toInt = 14 := p14
  have m14 : ¬ a.toInt = (nI 14).toInt := by rw [tt 14 (by omega)]; exact p14
  by_cases p15 : a.toInt = 15
  · have q15 : a.toInt = (nI 15).toInt := by rw [tt 15 (by omega), p15]; rfl
    exact ⟨y.1 164 3, x, q_up y 163 0 (nI 0), by rw [if_neg n0, if_neg n1, if_neg n2, if_neg n3, if_neg n4, if_neg n5, if_neg n6, if_neg n7, if_neg n8, if_neg n9, if_neg n10, if_neg n11, if_neg n12, if_neg n13, if_neg n14, if_pos p15, show x.1 2 6 = y.1 164 3 from h.C.fences], by rw [if_neg n0, if_neg m1, if_neg m2, if_neg m3, if_neg m4, if_neg m5, if_neg m6, if_neg m7, if_neg m8, if_neg m9, if_neg m10, if_neg m11, if_neg m12, if_neg m13, if_neg m14, if_pos q15, z 3 (by omega), Option.bind_some], h.told⟩
  have n15 : ¬ a.toInt = 15 := p15
  have m15 : ¬ a.toInt = (nI 15).toInt := by rw [tt 15 (by omega)]; exact p15
  exact ⟨mI, x, q_up y 163 0 (nI 0), by rw [if_neg n0, if_neg n1, if_neg n2, if_neg n3, if_neg n4, if_neg n5, if_neg n6, if_neg n7, if_neg n8, if_neg n9, if_neg n10, if_neg n11, if_neg n12, if_neg n13, if_neg n14, if_neg n15], by rw [if_neg n0, if_neg m1, if_neg m2, if_neg m3, if_neg m4, if_neg m5, if_neg m6, if_neg m7, if_neg m8, if_neg m9, if_neg m10, if_neg m11, if_neg m12, if_neg m13, if_neg m14, if_neg m15], h.told⟩
