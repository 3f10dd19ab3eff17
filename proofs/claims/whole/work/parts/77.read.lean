/-! LAYER 2: THE CALLS, 4: what only reads -/
theorem sim_fault (a : Int32) : SIM (m_X10_fault a) (m_X11_fault a) := fun x y h => by
  have h3 := h.2.2.1
  unfold m_X10_fault m_X11_fault
  simp only [lit_n, mI_lit, q_let]
  by_cases h0 : a.toInt = 0
  · exact ⟨_, x, q_up y 163 0 (nI 0), by rw [if_pos h0], by rw [if_pos h0]; rw [h3.2.1]; rfl, h.told⟩
  · by_cases h1 : a.toInt = (nI 1).toInt
    · exact ⟨_, x, q_up y 163 0 (nI 0), by rw [if_neg h0, if_pos h1], by rw [if_neg h0, if_pos h1]; rw [h3.2.2]; rfl, h.told⟩
    · exact ⟨_, x, q_up y 163 0 (nI 0), by rw [if_neg h0, if_neg h1], by rw [if_neg h0, if_neg h1], h.told⟩
theorem sim_end (a : Int32) : SIM (m_X10_end a) (m_X11_end a) := fun x y h => by
  obtain ⟨⟨n, n4, t1, t2, t3⟩, f1, f2⟩ := h.2.2.1
  have t2' : (q_up y 163 0 (nI 0)).1 163 14 = nI n := t2
  unfold m_X10_end m_X11_end
  simp only [lit_n, q_let, t1, t2']
  rcases within_b a 0 n (by omega) (by omega) with ⟨m, m0, m1, m2, w1, w2⟩ | ⟨w1, w2⟩
  · refine ⟨nI 1, q_up x 67 1 a, q_up (q_up y 163 0 (nI 0)) 163 14 a, by simp only [w1, q_bd_some, z10, if_false], by simp only [w2, q_bd_some, z10, if_false], ?_⟩
    obtain ⟨r1, r2, r3, r4, r5⟩ := h.told (v := nI 0)
    refine ⟨?_, ?_, ?_, ?_, ?_⟩
    · exact r1.mv (XP.of (fun c a1 a2 _ _ => by rw [q_up_1, if_neg (by omega)])) ⟨fun _ _ => rfl, fun j hj => by rw [q_up_1, if_pos rfl, upd_g, if_neg (by unfold gsl at hj; omega)], fun _ _ => rfl, rfl, fun c a1 a2 i _ => by rw [q_up_1, if_neg (by omega)], fun c a1 a2 i _ => by rw [q_up_1, if_neg (by omega)], fun _ _ => rfl, fun _ _ => rfl, fun _ _ => rfl⟩
    · exact r2.fr rfl rfl (fun c a1 a2 => by rw [q_up_1, if_neg (by omega)]) rfl (fun j hj => by rw [q_up_1, if_pos rfl, upd_g, if_neg (by omega)]) rfl
    · refine ⟨⟨m, by omega, by rw [m2]; rfl, by rw [m2]; rfl, fun i hi => t3 i (by omega)⟩, f1, f2⟩
    · exact r4.fr rfl rfl rfl rfl
    · exact r5.fr rfl (fun c a1 a2 _ _ => by rw [q_up_1, if_neg (by omega)]) rfl rfl
  · exact ⟨nI 0, x, q_up y 163 0 (nI 0), by simp only [w1, q_bd_some, z00, if_true], by simp only [w2, q_bd_some, z00, if_true], h.told⟩
theorem sim_at (a : Int32) : SIM (m_X10_at a) (m_X11_at a) := fun x y h => by
  unfold m_X10_at m_X11_at
  simp only [lit_n, mI_lit, q_let]
  rcases place_b a with ⟨q, q1, q2, w1, w2⟩ | ⟨w1, w2⟩
  · subst q2
    have ht := h.told (v := nI 0)
    obtain ⟨F, b, hF, hb, F1, f1, f2, -⟩ := fenced_c (k2 := 2) (u := x) (v := q_up y 163 0 (nI 0)) (q := q) ht.C ht.B q1
    have hb' : b = 0 ∨ b = 1 := by omega
    rcases hb' with rfl | rfl
    · exact ⟨nI 0, x, q_up y 163 0 (nI 0), by simp only [w1, q_bd_some, z10, if_false, f1, z00, if_true], by simp only [w2, q_bd_some, z10, if_false, f2, z00, if_true], ht⟩
    · exact ⟨nI 1, x, q_up y 163 0 (nI 0), by simp only [w1, q_bd_some, z10, if_false, f1], by simp only [w2, q_bd_some, z10, if_false, f2], ht⟩
  · exact ⟨mI, x, q_up y 163 0 (nI 0), by simp only [w1, q_bd_some, z00, if_true], by simp only [w2, q_bd_some, z00, if_true], h.told⟩
theorem sim_book (i a : Int32) : SIM (m_X10_book i a) (m_X11_book i a) := fun x y h => by
  obtain ⟨L, hL, L1, L2⟩ := h.B.lines
  have hcl : x.1 2 10 = nI L := by rw [h.C.lines, L1]
  have y2 : q_ald (q_up y 163 0 (nI 0)) 164 136 (nI 2) = some (nI L) := by rw [ald_n (by omega) (by omega)]; exact congrArg some L1
  unfold m_X10_book m_X11_book
  simp only [lit_n, mI_lit, q_let, hcl, y2, Option.bind_some]
  by_cases hL0 : L = 0
  · subst hL0
    have w1 : ∀ u, m_X10_isWithin i (nI 0) (nI 0 - nI 1) u = some (nI 0, u) := fun u => by
      unfold m_X10_isWithin
      have t : (nI 0 - nI 1).toInt = -1 := by decide
      have t0 : (nI 0).toInt = 0 := rfl
      rw [t, t0]
      by_cases h1 : i.toInt < 0
      · rw [if_pos h1]; rfl
      · rw [if_neg h1, if_pos (by omega)]; rfl
    have w2 : ∀ u, m_X11_isIn i (nI 0) (nI 0 - nI 1) u = some (nI 0, u) := fun u => by
      unfold m_X11_isIn
      have t : (nI 0 - nI 1).toInt = -1 := by decide
      have t0 : (nI 0).toInt = 0 := rfl
      rw [t, t0]
      by_cases h1 : i.toInt < 0
      · rw [if_pos h1]; rfl
      · rw [if_neg h1, if_pos (by omega)]; rfl
    exact ⟨mI, x, q_up y 163 0 (nI 0), by simp only [w1, q_bd_some, z00, if_true], by simp only [w2, q_bd_some, z00, if_true], h.told⟩
  · rw [show nI L - nI 1 = nI (L - 1) from nI_sub (by omega)]
    rcases within_b i 0 (L - 1) (by omega) (by omega) with ⟨n, n0, n1, n2, w1, w2⟩ | ⟨w1, w2⟩
    · rcases within_b a 0 3 (by omega) (by omega) with ⟨m, m0, m1, m2, w3, w4⟩ | ⟨w3, w4⟩
      · subst n2
        subst m2
        have r9 := h.1.2.2.2.2.2.2.2.2 (4 * n + m) (by omega)
        have z1 : q_ald x 32 600 (nI (n * 4 + m)) = some (y.1 167 (4 * n + m)) := by rw [ald_n (by omega) (by omega), show n * 4 + m = 4 * n + m by omega]; exact congrArg some r9
        have z2 : q_ald (q_up y 163 0 (nI 0)) 167 600 (nI (4 * n + m)) = some (y.1 167 (4 * n + m)) := ald_n (by omega) (by omega)
        exact ⟨y.1 167 (4 * n + m), x, q_up y 163 0 (nI 0), by simp only [w1, q_bd_some, z10, if_false, w3, pk_mul, nI_add, z1, Option.bind_some], by simp only [w2, q_bd_some, z10, if_false, w4, pk_mul, nI_add, z2, Option.bind_some], h.told⟩
      · exact ⟨mI, x, q_up y 163 0 (nI 0), by simp only [w1, q_bd_some, z10, if_false, w3, z00, if_true], by simp only [w2, q_bd_some, z10, if_false, w4, z00, if_true], h.told⟩
    · exact ⟨mI, x, q_up y 163 0 (nI 0), by simp only [w1, q_bd_some, z00, if_true], by simp only [w2, q_bd_some, z00, if_true], h.told⟩
/-- what the law works with (17, 18; 180, 181) may change -/
theorem Rel.law {x y : qS} {s a s' a' : Nat → Int32} (h : Rel x y) : Rel (sc x s a) (sr y s' a') :=
  h.th (fun c h1 h2 _ => sc_o h1 h2) (by rw [sc_o (by omega) (by omega)]) (fun j _ => by rw [sr_o (by omega) (by omega)]) (fun c h1 h2 h3 h4 h5 => sr_o (by omega) (by omega)) (fun j h1 h2 => by rw [sr_o (by omega) (by omega)])
theorem sim_core (p q : Int32) : SIM (m_X10_core p q) (m_X11_core p q) := fun x y h => by
  obtain ⟨P, hP5, hP, hP2⟩ := h.G.P
  have hx7 : x.1 2 7 = nI P := by rw [h.C.parties, hP]
  have pb := party_b p (x := x) (y := q_up y 163 0 (nI 0)) hx7 hP hP5
  obtain ⟨N, n1, n2, n3, n4⟩ := h.1.2.2.2.2.2.2.2.1
  have n2' : x.1 28 0 = nI N := n2
  have n3' : (q_up y 163 0 (nI 0)).1 163 48 = nI N := n3
  unfold m_X10_core m_X11_core
  simp only [lit_n, mI_lit, q_let]
  have frame : ∀ (x2 y2 : qS), (∀ c, c ≠ 28 → c ≠ 29 → c ≠ 30 → x2.1 c = x.1 c) → (∀ c, c ≠ 163 → c ≠ 184 → y2.1 c = y.1 c) → (∀ j, j ≠ 0 → j ≠ 48 → y2.1 163 j = y.1 163 j) → RCo 28 x2.1 y2.1 (y2.1 163) → Rel x2 y2 := fun x2 y2 hx hy hj hR => by
    obtain ⟨⟨r1, r2, r3, r4, r5, r6, r7, r8, r9⟩, h2, h3, h4, h5⟩ := h
    have hg : ∀ j, j = 6 ∨ j = 7 ∨ j = 8 ∨ j = 9 ∨ j = 10 ∨ j = 11 → y2.1 163 j = y.1 163 j := fun j hj' => hj j (by omega) (by omega)
    refine ⟨⟨?_, ?_, ?_, r4.mv hg, ?_, ?_, ?_, hR, ?_⟩, ?_, ?_, ?_, ?_⟩
    · rw [hy 164 (by omega) (by omega)]; exact (r1.fr (fun c a1 a2 => hx c (by omega) (by omega) (by omega))).gr (hg 6 (by omega)) (hg 7 (by omega)) (hg 8 (by omega)) (hg 9 (by omega)) (hg 10 (by omega)) (hg 11 (by omega))
    · rw [hy 164 (by omega) (by omega)]; exact r2.gr (hg 6 (by omega)) (hg 7 (by omega))
    · rw [hy 164 (by omega) (by omega)]; exact r3
    · exact r5.fr (fun c a1 a2 => hx c (by omega) (by omega) (by omega)) (fun c a1 a2 => hy c (by omega) (by omega))
    · exact r6.fr (fun c a1 a2 => hx c (by omega) (by omega) (by omega)) (hy 178 (by omega) (by omega)) (hj 36 (by omega) (by omega))
    · exact r7.fr (fun c a1 a2 => hx c (by omega) (by omega) (by omega)) (hy 179 (by omega) (by omega)) (hj 38 (by omega) (by omega)) (hg 6 (by omega)) (hg 7 (by omega))
    · rw [hx 32 (by omega) (by omega) (by omega), hy 167 (by omega) (by omega)]; exact r9
    · exact h2.fr (by rw [hx 0 (by omega) (by omega) (by omega)]) (by rw [hx 0 (by omega) (by omega) (by omega)]) (fun c a1 a2 => hx c (by omega) (by omega) (by omega)) (hj 3 (by omega) (by omega)) hg (hy 165 (by omega) (by omega))
    · exact h3.fr (by rw [hx 67 (by omega) (by omega) (by omega)]) (hx 68 (by omega) (by omega) (by omega)) (hx 66 (by omega) (by omega) (by omega)) (hj 14 (by omega) (by omega)) (hj 34 (by omega) (by omega)) (hj 35 (by omega) (by omega)) (hy 168 (by omega) (by omega))
    · exact h4.fr (by rw [hx 88 (by omega) (by omega) (by omega)]) (by rw [hx 90 (by omega) (by omega) (by omega)]) (hj 5 (by omega) (by omega)) (hy 169 (by omega) (by omega))
    · exact h5.fr (by rw [hx 0 (by omega) (by omega) (by omega)]) (fun c a1 a2 _ _ => hx c (by omega) (by omega) (by omega)) (hj 53 (by omega) (by omega)) (hy 187 (by omega) (by omega))
  by_cases hm : p.toInt = mI.toInt
  · refine ⟨nI 0, q_up x 28 0 (nI 0), q_up (q_up y 163 0 (nI 0)) 163 48 (nI 0), by rw [if_pos hm], by rw [if_pos hm], frame _ _ (fun c h1 _ _ => by rw [q_up_1, if_neg h1]) (fun c h1 _ => by rw [q_up_1, if_neg h1, q_up_1, if_neg h1]) (fun j h1 h2 => by rw [q_up_1, if_pos rfl, upd_g, if_neg h2, q_up_1, if_pos rfl, upd_g, if_neg h1]) ⟨0, by omega, rfl, rfl, fun i hi => by omega⟩⟩
  · rw [if_neg hm, if_neg hm]
    rcases pb with ⟨t, t1, t2, p1, p2⟩ | ⟨p1, p2⟩
    · rcases place_b q with ⟨l, l1, l2, w1, w2⟩ | ⟨w1, w2⟩
      · by_cases h8 : N = 8
        · refine ⟨mI, x, q_up y 163 0 (nI 0), ?_, ?_, h.told⟩
          · have c1 : ¬ (nI 8).toInt < (nI 8).toInt := by omega
            simp only [p1, q_bd_some, z10, if_false, w1, n2', h8, if_neg c1]
          · simp only [p2, q_bd_some, z10, if_false, w2, n3', h8, if_true]
        · subst t2
          subst l2
          have c1 : (nI N).toInt < (nI 8).toInt := by rw [nI_t (by omega), nI_t (by omega)]; omega
          have c2 : ¬ (nI N).toInt = (nI 8).toInt := by rw [nI_t (by omega), nI_t (by omega)]; omega
          have c3 : ¬ (nI 8).toInt ≤ (nI N).toInt := by rw [nI_t (by omega), nI_t (by omega)]; omega
          have z1 : q_ast x (28 + 1) 8 (nI N) (nI t) = some (q_up x 29 N (nI t)) := ast_n (by omega) (by omega)
          have z2 : q_ast (q_up x 29 N (nI t)) (28 + 2) 8 (nI N) (nI l) = some (q_up (q_up x 29 N (nI t)) 30 N (nI l)) := ast_n (by omega) (by omega)
          have e1 : (q_up x 29 N (nI t)).1 28 0 = nI N := n2'
          have e2 : (q_up (q_up x 29 N (nI t)) 30 N (nI l)).1 28 0 = nI N := n2'
          have e3 : (q_up (q_up (q_up x 29 N (nI t)) 30 N (nI l)) 28 0 (nI (N + 1))).1 28 0 = nI (N + 1) := rfl
          have y1 : q_ast (q_up y 163 0 (nI 0)) 184 16 (nI (2 * N)) (nI t) = some (q_up (q_up y 163 0 (nI 0)) 184 (2 * N) (nI t)) := ast_n (by omega) (by omega)
          have y2 : q_ast (q_up (q_up y 163 0 (nI 0)) 184 (2 * N) (nI t)) 184 16 (nI (2 * N + 1)) (nI l) = some (q_up (q_up (q_up y 163 0 (nI 0)) 184 (2 * N) (nI t)) 184 (2 * N + 1) (nI l)) := ast_n (by omega) (by omega)
          have g1 : (q_up (q_up y 163 0 (nI 0)) 184 (2 * N) (nI t)).1 163 48 = nI N := n3
          have g2 : (q_up (q_up (q_up y 163 0 (nI 0)) 184 (2 * N) (nI t)) 184 (2 * N + 1) (nI l)).1 163 48 = nI N := n3
          have g3 : (q_up (q_up (q_up (q_up y 163 0 (nI 0)) 184 (2 * N) (nI t)) 184 (2 * N + 1) (nI l)) 163 48 (nI (N + 1))).1 163 48 = nI (N + 1) := rfl
          refine ⟨nI (N + 1), q_up (q_up (q_up x 29 N (nI t)) 30 N (nI l)) 28 0 (nI (N + 1)), q_up (q_up (q_up (q_up y 163 0 (nI 0)) 184 (2 * N) (nI t)) 184 (2 * N + 1) (nI l)) 163 48 (nI (N + 1)), ?_, ?_, frame _ _ (fun c h1 h2 h3 => by rw [q_up_1, if_neg h1, q_up_1, if_neg h3, q_up_1, if_neg h2]) (fun c h1 h2 => by rw [q_up_1, if_neg h1, q_up_1, if_neg h2, q_up_1, if_neg h2, q_up_1, if_neg h1]) (fun j h1 h2 => by rw [q_up_1, if_pos rfl, upd_g, if_neg h2]; show upd (y.1 163) 0 (nI 0) j = _; rw [upd_g, if_neg h1]) ?_⟩
          · unfold m_X1_add
            simp only [p1, q_bd_some, z10, if_false, w1, n2', if_pos c1, lit_n, if_neg c3, z1, Option.bind_some, e1, z2, e2, q_let, nI_add, e3]
          · simp only [p2, q_bd_some, z10, if_false, w2, n3', if_neg c2, pk_mul, y1, Option.bind_some, g1, nI_add, y2, g2, g3]
          · refine ⟨N + 1, by omega, rfl, rfl, fun i hi => ?_⟩
            by_cases hiN : i = N
            · subst hiN
              refine ⟨t, l, ?_, l1, ?_, ?_, ?_, ?_⟩
              · show (t : Int) < (y.1 163 6).toInt; rw [hP2]; omega
              · show (q_up x 29 i (nI t)).1 29 i = _; rw [q_up_1, if_pos rfl, upd_g, if_pos rfl]
              · show upd (upd (y.1 184) (2 * i) (nI t)) (2 * i + 1) (nI l) (2 * i) = _; rw [upd_g, if_neg (by omega), upd_g, if_pos rfl]
              · show upd (x.1 30) i (nI l) i = _; rw [upd_g, if_pos rfl]
              · show upd (upd (y.1 184) (2 * i) (nI t)) (2 * i + 1) (nI l) (2 * i + 1) = _; rw [upd_g, if_pos rfl]
            · obtain ⟨p', q', d1, d2, d3, d4, d5, d6⟩ := n4 i (by omega)
              refine ⟨p', q', d1, d2, ?_, ?_, ?_, ?_⟩
              · show upd (x.1 29) N (nI t) i = _; rw [upd_g, if_neg hiN]; exact d3
              · show upd (upd (y.1 184) (2 * N) (nI t)) (2 * N + 1) (nI l) (2 * i) = _; rw [upd_g, if_neg (by omega), upd_g, if_neg (by omega)]; exact d4
              · show upd (x.1 30) N (nI l) i = _; rw [upd_g, if_neg hiN]; exact d5
              · show upd (upd (y.1 184) (2 * N) (nI t)) (2 * N + 1) (nI l) (2 * i + 1) = _; rw [upd_g, if_neg (by omega), upd_g, if_neg (by omega)]; exact d6
      · exact ⟨mI, x, q_up y 163 0 (nI 0), by simp only [p1, q_bd_some, z10, if_false, w1, z00, if_true], by simp only [p2, q_bd_some, z10, if_false, w2, z00, if_true], h.told⟩
    · exact ⟨mI, x, q_up y 163 0 (nI 0), by simp only [p1, q_bd_some, z00, if_true], by simp only [p2, q_bd_some, z00, if_true], h.told⟩
