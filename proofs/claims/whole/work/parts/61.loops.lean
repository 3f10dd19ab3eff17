/-! LAYER 2: a week's loops: the plan, what trees bear, wasps, age -/
section
variable {tr th tg : Bool} {k k2 : Nat}
theorem follow_it {N : Nat} (hN : N ≤ 16) : ∀ (m i f1 f2 : Nat) (u v : qS), i + m = N → m < f1 → m < f2 → ST tr k k2 u v → WK tr th tg k k2 u v → u.1 23 0 = nI N →
    ∃ u2 v2, (∀ K1 : qS → qR, q_it1 (m_X7_follow_L2 k k2 K1) f1 (nI i) u = K1 u2) ∧ (∀ K2 : qS → qR, q_it1 (m_X11_goesBy_L2 K2) f2 (nI i) v = K2 v2) ∧ WQ tr th tg k k2 u v (fun j => j = 2 ∨ j = 3 ∨ j = 4 ∨ (15 ≤ j ∧ j < 86)) u2 v2
  | m, i, 0, f2, u, v, hi, hf1, hf2, hS, hW, hu => by omega
  | m, i, f1, 0, u, v, hi, hf1, hf2, hS, hW, hu => by omega
  | 0, i, f1 + 1, f2 + 1, u, v, hi, hf1, hf2, hS, hW, hu => by
    obtain ⟨N2, hN2, n1, n2, hL⟩ := hS.2.2.2.2.1
    have e : N2 = N := nI_inj (by omega) (by omega) (n1.symm.trans hu)
    subst e
    refine ⟨u, v, fun K1 => ?_, fun K2 => ?_, WQ.rfl' hW⟩
    · show m_X7_follow_L2 _ _ _ _ _ _ = _
      unfold m_X7_follow_L2
      rw [hu, if_pos (by rw [nI_t (by omega), nI_t (by omega)]; omega)]
    · show m_X11_goesBy_L2 _ _ _ _ = _
      unfold m_X11_goesBy_L2
      rw [n2, if_pos (by rw [nI_t (by omega), nI_t (by omega)]; omega)]
  | m + 1, i, f1 + 1, f2 + 1, u, v, hi, hf1, hf2, hS, hW, hu => by
    have hk := hS.1.k
    obtain ⟨N2, hN2, n1, n2, hL⟩ := hS.2.2.2.2.1
    have e : N2 = N := nI_inj (by omega) (by omega) (n1.symm.trans hu)
    subst e
    have c1 : ¬ (u.1 23 0).toInt ≤ (nI i).toInt := by rw [hu, nI_t (by omega), nI_t (by omega)]; omega
    have c2 : ¬ (v.1 163 38).toInt ≤ (nI i).toInt := by rw [n2, nI_t (by omega), nI_t (by omega)]; omega
    have hLi := hL i (by omega)
    obtain ⟨d, q, o, hd5, hw, -⟩ := hLi
    have x1 : q_ald u 24 16 (nI i) = some (v.1 179 (4 * i)) := by rw [ald_n (by omega) (by omega)]; exact congrArg some hw
    have y1 : q_ald v 179 128 (nI (4 * i)) = some (v.1 179 (4 * i)) := ald_n (by omega) (by omega)
    have y2 : q_ald v 164 136 (nI 0) = some (v.1 164 0) := ald_n (by omega) (by omega)
    by_cases hc : (v.1 179 (4 * i)).toInt = (v.1 164 0).toInt
    · obtain ⟨u2, v2, e1, e2, w1⟩ := act_s hS hW (i := i) (by omega) (hL i (by omega))
      obtain ⟨u3, v3, g1, g2, w2⟩ := follow_it hN m (i + 1) f1 f2 u2 v2 (by omega) (by omega) (by omega) (w1.st hS) w1.2.2.1 (by rw [w1.1.1 23 (by omega) (by omega) (by omega) (by omega) (by omega) (Or.inr (by omega))]; exact hu)
      refine ⟨u3, v3, fun K1 => ?_, fun K2 => ?_, w1.trans w2 (by omega)⟩
      · rw [← g1 K1]
        show m_X7_follow_L2 _ _ _ (q_it1 (m_X7_follow_L2 k k2 K1) f1) _ _ = _
        generalize q_it1 (m_X7_follow_L2 k k2 K1) f1 = self
        unfold m_X7_follow_L2
        simp (disch := omega) only [lit_n, nI_add, pk_mul, Option.bind_some, q_bd_some, q_let, q_jn_c, q_jn_0, q_jn_1, q_jn_2, if_true, if_false, nI_ee, nI_e0, nI_em, nI_ll, nI_lt', nI_l0, nI_g0, nI_n0, mI_lit, bz_0, bz_1, if_neg c1, x1, hW.1.week, hc, e1]
      · rw [← g2 K2]
        show m_X11_goesBy_L2 _ (q_it1 (m_X11_goesBy_L2 K2) f2) _ _ = _
        generalize q_it1 (m_X11_goesBy_L2 K2) f2 = self
        unfold m_X11_goesBy_L2
        simp (disch := omega) only [lit_n, nI_add, pk_mul, Option.bind_some, q_bd_some, q_let, q_jn_c, q_jn_0, q_jn_1, q_jn_2, if_true, if_false, nI_ee, nI_e0, nI_em, nI_ll, nI_lt', nI_l0, nI_g0, nI_n0, mI_lit, bz_0, bz_1, if_neg c2, y1, y2, hc, e2]
    · obtain ⟨u3, v3, g1, g2, w2⟩ := follow_it hN m (i + 1) f1 f2 u v (by omega) (by omega) (by omega) hS hW hu
      refine ⟨u3, v3, fun K1 => ?_, fun K2 => ?_, w2⟩
      · rw [← g1 K1]
        show m_X7_follow_L2 _ _ _ (q_it1 (m_X7_follow_L2 k k2 K1) f1) _ _ = _
        generalize q_it1 (m_X7_follow_L2 k k2 K1) f1 = self
        unfold m_X7_follow_L2
        simp (disch := omega) only [lit_n, nI_add, pk_mul, Option.bind_some, q_bd_some, q_let, q_jn_c, q_jn_0, q_jn_1, q_jn_2, if_true, if_false, nI_ee, nI_e0, nI_em, nI_ll, nI_lt', nI_l0, nI_g0, nI_n0, mI_lit, bz_0, bz_1, if_neg c1, x1, hW.1.week, if_neg hc]
      · rw [← g2 K2]
        show m_X11_goesBy_L2 _ (q_it1 (m_X11_goesBy_L2 K2) f2) _ _ = _
        generalize q_it1 (m_X11_goesBy_L2 K2) f2 = self
        unfold m_X11_goesBy_L2
        simp (disch := omega) only [lit_n, nI_add, pk_mul, Option.bind_some, q_bd_some, q_let, q_jn_c, q_jn_0, q_jn_1, q_jn_2, if_true, if_false, nI_ee, nI_e0, nI_em, nI_ll, nI_lt', nI_l0, nI_g0, nI_n0, mI_lit, bz_0, bz_1, if_neg c2, y1, y2, if_neg hc]
theorem bear_it {T : Nat} {x3 x4 : Int32} (hT4 : T ≤ 14) : ∀ (m t f1 f2 : Nat) (u v : qS), t + m = T → m < f1 → m < f2 → ST tr k k2 u v → WK tr th tg k k2 u v → v.1 164 4 = nI T →
    ∃ u2 v2, (∀ K1 : qS → qR, q_it1 (m_X7_pass_L22 k k2 x3 x4 K1) f1 (nI t) u = K1 u2) ∧ (∀ K2 : qS → qR, q_it1 (m_X11_goesBy_L42 K2) f2 (nI t) v = K2 v2) ∧ WQ tr th tg k k2 u v (fun j => 62 ≤ j ∧ j < 76) u2 v2
  | m, t, 0, f2, u, v, hi, hf1, hf2, hS, hW, hT => by omega
  | m, t, f1, 0, u, v, hi, hf1, hf2, hS, hW, hT => by omega
  | 0, t, f1 + 1, f2 + 1, u, v, hi, hf1, hf2, hS, hW, hT => by
    have a4 : q_ald v 164 136 (nI 4) = some (nI T) := by rw [ald_n (by omega) (by omega), hT]
    have c1 : (nI T).toInt ≤ (nI t).toInt := by rw [nI_t (by omega), nI_t (by omega)]; omega
    refine ⟨u, v, fun K1 => ?_, fun K2 => ?_, WQ.rfl' hW⟩
    · show m_X7_pass_L22 _ _ _ _ _ _ _ _ = _
      unfold m_X7_pass_L22
      rw [hW.1.trees, hT, if_pos c1]
    · show m_X11_goesBy_L42 _ _ _ _ = _
      unfold m_X11_goesBy_L42
      simp only [lit_n, a4, Option.bind_some, if_pos c1]
  | m + 1, t, f1 + 1, f2 + 1, u, v, hi, hf1, hf2, hS, hW, hT => by
    have hk := hS.1.k
    have a4 : q_ald v 164 136 (nI 4) = some (nI T) := by rw [ald_n (by omega) (by omega), hT]
    have c1 : ¬ (nI T).toInt ≤ (nI t).toInt := by rw [nI_t (by omega), nI_t (by omega)]; omega
    have c2 : ¬ (u.1 k2 8).toInt ≤ (nI t).toInt := by rw [hW.1.trees, hT]; exact c1
    obtain ⟨P, hP5, hP, hP2⟩ := hS.2.1.P
    obtain ⟨h, hh, h1, h2⟩ := hW.2.1.hang (t := t) (by omega)
    have x7 : q_ald u (k2 + 7) 14 (nI t) = some (nI h) := by rw [ald_n (by omega) (by omega), hW.1.hang (by omega), h1]
    have y7 : q_ald v 164 136 (nI (62 + t)) = some (nI h) := by rw [ald_n (by omega) (by omega), h1]
    obtain ⟨s, a, e1⟩ := bears_c (t := t) hS.1.k2 hW.1 hW.2.1 hS.2.1 hS.2.2.1 hT hT4 (by omega)
    obtain ⟨s', a', e2⟩ := bear_r (X := u.1) (t := t) hW.2.1 hS.2.2.1 hT hT4 (by omega) hP hP5
    have hr := hd_rng (m := 99) (r := tF u.1 12 (aF (q_rm (v.1 164 0) (nI 52)) (v.1 164 (20 + t)) (v.1 164 (34 + t)) (v.1 164 (48 + t)) (v.1 164 (62 + t)) (nI 0) (nI 0) (nI 0) (v.1 164 (10 + (v.1 164 (20 + t)).toInt.toNat))) (nI 0) (v.1 164 (48 + t) / nI 5)) (by omega)
    obtain ⟨b, hb, hb1, hb2⟩ := nI_ex (b := 99) hr.1 hr.2 (by omega)
    have hbF : bearF u.1 (v.1 164) t = nI b := hb1
    rw [hbF] at e1 e2
    have w0 : WQ tr th tg k k2 u v (fun j => j = 62 + t) (sc u s a) (sr v s' a') := ⟨FX.rfl'.sc hS.1, FY.rfl'.sr, (hW.sc hS.1).sr, fun j _ => rfl⟩
    have w1 := WQ.hang (t := t) (x := min 99 (h + b)) w0.2.2.1 (w0.st hS) (by omega) (by omega)
    have w2 := w0.trans w1 (S3 := fun j => 62 ≤ j ∧ j < 76) (by omega)
    have z1 : q_ast (sc u s a) (k2 + 7) 14 (nI t) (nI (min 99 (h + b))) = some (q_up (sc u s a) (k2 + 7) t (nI (min 99 (h + b)))) := ast_n (by omega) (by omega)
    have z2 : q_ast (sr v s' a') 164 136 (nI (62 + t)) (nI (min 99 (h + b))) = some (q_up (sr v s' a') 164 (62 + t) (nI (min 99 (h + b)))) := ast_n (by omega) (by omega)
    have m1 : q_min (nI 99) (nI (h + b)) = nI (min 99 (h + b)) := q_min_n (by omega) (by omega)
    have m2 : m_X11_held (nI (h + b)) (nI 0) (nI 99) (sr v s' a') = some (nI (min 99 (h + b)), sr v s' a') := by rw [held_eq (by omega), hd_n (by omega) (by omega)]
    obtain ⟨u3, v3, g1, g2, w3⟩ := bear_it (x3 := x3) (x4 := x4) hT4 m (t + 1) f1 f2 _ _ (by omega) (by omega) (by omega) (w2.st hS) w2.2.2.1 (by rw [w2.2.2.2 4 (by omega)]; exact hT)
    refine ⟨u3, v3, fun K1 => ?_, fun K2 => ?_, w2.trans w3 (by omega)⟩
    · rw [← g1 K1]
      show m_X7_pass_L22 _ _ _ _ _ (q_it1 (m_X7_pass_L22 k k2 x3 x4 K1) f1) _ _ = _
      generalize q_it1 (m_X7_pass_L22 k k2 x3 x4 K1) f1 = self
      unfold m_X7_pass_L22
      simp only [lit_n, nI_add, if_neg c2, x7, Option.bind_some, e1, q_bd_some, m1, z1]
    · rw [← g2 K2]
      show m_X11_goesBy_L42 _ (q_it1 (m_X11_goesBy_L42 K2) f2) _ _ = _
      generalize q_it1 (m_X11_goesBy_L42 K2) f2 = self
      unfold m_X11_goesBy_L42
      simp only [lit_n, nI_add, a4, Option.bind_some, if_neg c1, y7, e2, q_bd_some, m2, z2]
theorem draw_c {u : qS} {x : Int32} (hC : u.1 k2 1 = x) : m_X0_drawOfThousand k2 u = some (q_rm (q_ushr (nI 1664525 * x + nI 1013904223) (nI 8)) (nI 1000), q_up u k2 1 (nI 1664525 * x + nI 1013904223)) := by
  unfold m_X0_drawOfThousand
  simp only [q_let, lit_n, hC, q_up_1, if_true, upd_g]
theorem draw_r {v : qS} {x : Int32} (hC : v.1 164 1 = x) : m_X11_draw (nI 1000) v = some (q_rm (q_ushr (nI 1664525 * x + nI 1013904223) (nI 8)) (nI 1000), q_up v 164 1 (nI 1664525 * x + nI 1013904223)) := by
  unfold m_X11_draw
  have a1 : q_ald v 164 136 (nI 1) = some x := by rw [ald_n (by omega) (by omega), hC]
  have b1 : ∀ z, q_ast v 164 136 (nI 1) z = some (q_up v 164 1 z) := fun z => ast_n (by omega) (by omega)
  have a2 : ∀ z, q_ald (q_up v 164 1 z) 164 136 (nI 1) = some z := fun z => by rw [ald_n (by omega) (by omega), q_up_1, if_pos rfl, upd_g, if_pos rfl]
  have r1 : ∀ z, q_rem z (nI 1000) = some (q_rm z (nI 1000)) := fun z => by unfold q_rem q_rm; rw [if_neg (by decide)]
  simp only [lit_n, a1, Option.bind_some, b1, a2, r1]
theorem draw_s {u v : qS} (hC : u.1 k2 1 = v.1 164 1) : ∃ r x, m_X0_drawOfThousand k2 u = some (r, q_up u k2 1 x) ∧ m_X11_draw (nI 1000) v = some (r, q_up v 164 1 x) := ⟨_, _, draw_c hC, draw_r rfl⟩
theorem WQ.state {u v : qS} {x : Int32} (h : WK tr th tg k k2 u v) (hS : ST tr k k2 u v) : WQ tr th tg k k2 u v (fun i => i = 1) (q_up u k2 1 x) (q_up v 164 1 x) :=
  WQ.up (c := 0) (s := 1) h hS.1 hS.2.1 1 (by omega) rfl rfl (by have := i32_rng x; have h1 : bLo 1 = -2147483648 := rfl; have h2 : bHi 1 = 2147483647 := rfl; omega) (by omega) (by omega) (by omega) (by omega)
theorem sting_it {T : Nat} (hT4 : T ≤ 14) : ∀ (m t f1 f2 : Nat) (u v : qS), t + m = T → m < f1 → m < f2 → ST tr k k2 u v → WK tr th tg k k2 u v → v.1 164 4 = nI T →
    ∃ u2 v2, (∀ K1 : qS → qR, q_it1 (m_X7_sting_L2 k k2 K1) f1 (nI t) u = K1 u2) ∧ (∀ K2 : qS → qR, q_it1 (m_X11_stings_L17 K2) f2 (nI t) v = K2 v2) ∧ WQ tr th tg k k2 u v (fun j => j = 1 ∨ j = 2 ∨ (62 ≤ j ∧ j < 76)) u2 v2
  | m, t, 0, f2, u, v, hi, hf1, hf2, hS, hW, hT => by omega
  | m, t, f1, 0, u, v, hi, hf1, hf2, hS, hW, hT => by omega
  | 0, t, f1 + 1, f2 + 1, u, v, hi, hf1, hf2, hS, hW, hT => by
    have a4 : q_ald v 164 136 (nI 4) = some (nI T) := by rw [ald_n (by omega) (by omega), hT]
    have c1 : (nI T).toInt ≤ (nI t).toInt := by rw [nI_t (by omega), nI_t (by omega)]; omega
    refine ⟨u, v, fun K1 => ?_, fun K2 => ?_, WQ.rfl' hW⟩
    · show m_X7_sting_L2 _ _ _ _ _ _ = _
      unfold m_X7_sting_L2
      rw [hW.1.trees, hT, if_pos c1]
    · show m_X11_stings_L17 _ _ _ _ = _
      unfold m_X11_stings_L17
      simp only [lit_n, a4, Option.bind_some, if_pos c1]
  | m + 1, t, f1 + 1, f2 + 1, u, v, hi, hf1, hf2, hS, hW, hT => by
    have hk := hS.1.k
    have a4 : q_ald v 164 136 (nI 4) = some (nI T) := by rw [ald_n (by omega) (by omega), hT]
    have c1 : ¬ (nI T).toInt ≤ (nI t).toInt := by rw [nI_t (by omega), nI_t (by omega)]; omega
    have c2 : ¬ (u.1 k2 8).toInt ≤ (nI t).toInt := by rw [hW.1.trees, hT]; exact c1
    obtain ⟨h, hh, h1, h2⟩ := hW.2.1.hang (t := t) (by omega)
    have x7 : q_ald u (k2 + 7) 14 (nI t) = some (nI h) := by rw [ald_n (by omega) (by omega), hW.1.hang (by omega), h1]
    have y7 : q_ald v 164 136 (nI (62 + t)) = some (nI h) := by rw [ald_n (by omega) (by omega), h1]
    by_cases h10 : h < 10
    · obtain ⟨u3, v3, g1, g2, w3⟩ := sting_it hT4 m (t + 1) f1 f2 u v (by omega) (by omega) (by omega) hS hW hT
      have c3 : (nI h).toInt < (nI 10).toInt := by rw [nI_t (by omega), nI_t (by omega)]; omega
      refine ⟨u3, v3, fun K1 => ?_, fun K2 => ?_, w3⟩
      · rw [← g1 K1]
        show m_X7_sting_L2 _ _ _ (q_it1 (m_X7_sting_L2 k k2 K1) f1) _ _ = _
        generalize q_it1 (m_X7_sting_L2 k k2 K1) f1 = self
        unfold m_X7_sting_L2
        simp (disch := omega) only [lit_n, nI_add, pk_mul, Option.bind_some, q_bd_some, q_let, q_jn_c, q_jn_0, q_jn_1, q_jn_2, if_true, if_false, nI_ee, nI_e0, nI_em, nI_ll, nI_lt', nI_l0, nI_g0, nI_n0, mI_lit, bz_0, bz_1, if_neg c2, x7, h10]
      · rw [← g2 K2]
        show m_X11_stings_L17 _ (q_it1 (m_X11_stings_L17 K2) f2) _ _ = _
        generalize q_it1 (m_X11_stings_L17 K2) f2 = self
        unfold m_X11_stings_L17
        simp only [lit_n, nI_add, a4, Option.bind_some, if_neg c1, y7, if_pos c3, q_jn_0]
    · have c3 : ¬ (nI h).toInt < (nI 10).toInt := by rw [nI_t (by omega), nI_t (by omega)]; omega
      obtain ⟨r, x, d1, d2⟩ := draw_s (k2 := k2) (u := u) (v := v) hW.1.state
      have w1 := WQ.state (x := x) hW hS
      have b1 : (q_up u k2 1 x).1 k2 3 = v.1 163 9 := by rw [w1.2.2.1.1.wasps]; rfl
      have b2 : (q_up v 164 1 x).1 163 9 = v.1 163 9 := rfl
      have b4 : (q_up v 164 1 x).1 164 4 = nI T := by rw [w1.2.2.2 4 (by omega), hT]
      by_cases hw : r.toInt < (v.1 163 9).toInt
      · have hw' : ¬ (v.1 163 9).toInt ≤ r.toInt := by omega
        have dv : nI h / nI 10 = nI (h / 10) := pk_div (by omega) (by omega) (by omega)
        have sb : nI h - nI (h / 10) = nI (h - h / 10) := nI_sub (by omega)
        have w2 := WQ.hang (t := t) (x := h - h / 10) w1.2.2.1 (w1.st hS) (by omega) (by omega)
        obtain ⟨u4, v4, n1, n2, w3⟩ := note_s (w := nI 6) (x := nI t) (y := nI (h / 10)) ((w1.trans w2 (S3 := fun _ => True) (by simp)).st hS) w2.2.2.1
        have w4 := (w1.trans w2 (S3 := fun j => j = 1 ∨ j = 2 ∨ (62 ≤ j ∧ j < 76)) (by omega)).trans w3 (S3 := fun j => j = 1 ∨ j = 2 ∨ (62 ≤ j ∧ j < 76)) (by omega)
        obtain ⟨u3, v3, g1, g2, w5⟩ := sting_it hT4 m (t + 1) f1 f2 u4 v4 (by omega) (by omega) (by omega) (w4.st hS) w4.2.2.1 (by rw [w4.2.2.2 4 (by omega)]; exact hT)
        have x7' : q_ald (q_up u k2 1 x) (k2 + 7) 14 (nI t) = some (nI h) := by rw [ald_n (by omega) (by omega), q_up_1, if_neg (by omega), hW.1.hang (by omega), h1]
        have y7' : q_ald (q_up v 164 1 x) 164 136 (nI (62 + t)) = some (nI h) := by rw [ald_n (by omega) (by omega), w1.2.2.2 _ (by omega), h1]
        have z1 : ∀ w : qS, ∀ x, q_ast w (k2 + 7) 14 (nI t) x = some (q_up w (k2 + 7) t x) := fun w x => ast_n (by omega) (by omega)
        have z2 : ∀ w : qS, ∀ x, q_ast w 164 136 (nI (62 + t)) x = some (q_up w 164 (62 + t) x) := fun w x => ast_n (by omega) (by omega)
        refine ⟨u3, v3, fun K1 => ?_, fun K2 => ?_, w4.trans w5 (by omega)⟩
        · rw [← g1 K1]
          show m_X7_sting_L2 _ _ _ (q_it1 (m_X7_sting_L2 k k2 K1) f1) _ _ = _
          generalize q_it1 (m_X7_sting_L2 k k2 K1) f1 = self
          unfold m_X7_sting_L2
          simp only [lit_n, nI_add, if_neg c2, x7, Option.bind_some, if_neg c3, d1, q_bd_some, b1, if_neg hw', x7', q_let, dv, sb, z1, n1, q_jn_0]
        · rw [← g2 K2]
          show m_X11_stings_L17 _ (q_it1 (m_X11_stings_L17 K2) f2) _ _ = _
          generalize q_it1 (m_X11_stings_L17 K2) f2 = self
          unfold m_X11_stings_L17
          simp only [lit_n, nI_add, a4, Option.bind_some, if_neg c1, y7, if_neg c3, d2, q_bd_some, b2, if_pos hw, y7', q_let, dv, sb, z2, n2, q_jn_0]
      · have hw' : (v.1 163 9).toInt ≤ r.toInt := by omega
        obtain ⟨u3, v3, g1, g2, w5⟩ := sting_it hT4 m (t + 1) f1 f2 _ _ (by omega) (by omega) (by omega) (w1.st hS) w1.2.2.1 b4
        refine ⟨u3, v3, fun K1 => ?_, fun K2 => ?_, w1.trans w5 (by omega)⟩
        · rw [← g1 K1]
          show m_X7_sting_L2 _ _ _ (q_it1 (m_X7_sting_L2 k k2 K1) f1) _ _ = _
          generalize q_it1 (m_X7_sting_L2 k k2 K1) f1 = self
          unfold m_X7_sting_L2
          simp only [lit_n, nI_add, if_neg c2, x7, Option.bind_some, if_neg c3, d1, q_bd_some, b1, if_pos hw', q_jn_0]
        · rw [← g2 K2]
          show m_X11_stings_L17 _ (q_it1 (m_X11_stings_L17 K2) f2) _ _ = _
          generalize q_it1 (m_X11_stings_L17 K2) f2 = self
          unfold m_X11_stings_L17
          simp only [lit_n, nI_add, a4, Option.bind_some, if_neg c1, y7, if_neg c3, d2, q_bd_some, b2, if_neg hw, q_jn_0]
theorem older_it {T : Nat} {x1 : Int32} (hT4 : T ≤ 14) : ∀ (m t f1 f2 : Nat) (u v : qS), t + m = T → m < f1 → m < f2 → ST tr k k2 u v → WK tr th tg k k2 u v → v.1 164 4 = nI T → (q_rm (v.1 164 0) (nI 52)).toInt = 0 →
    ∃ u2 v2, (∀ K1 : qS → qR, q_it1 (m_X0_growOlder_L2 k2 K1) f1 (nI t) u = K1 u2) ∧ (∀ K2 : qS → qR, q_it1 (m_X11_goesBy_L134 x1 K2) f2 (nI t) v = K2 v2) ∧ WQ tr th tg k k2 u v (fun j => 48 ≤ j ∧ j < 62) u2 v2
  | m, t, 0, f2, u, v, hi, hf1, hf2, hS, hW, hT, hy => by omega
  | m, t, f1, 0, u, v, hi, hf1, hf2, hS, hW, hT, hy => by omega
  | 0, t, f1 + 1, f2 + 1, u, v, hi, hf1, hf2, hS, hW, hT, hy => by
    have a4 : q_ald v 164 136 (nI 4) = some (nI T) := by rw [ald_n (by omega) (by omega), hT]
    have c1 : (nI T).toInt ≤ (nI t).toInt := by rw [nI_t (by omega), nI_t (by omega)]; omega
    refine ⟨u, v, fun K1 => ?_, fun K2 => ?_, WQ.rfl' hW⟩
    · show m_X0_growOlder_L2 _ _ _ _ _ = _
      unfold m_X0_growOlder_L2
      rw [hW.1.trees, hT, if_pos c1]
    · show m_X11_goesBy_L134 _ _ _ _ _ = _
      unfold m_X11_goesBy_L134
      simp only [lit_n, a4, Option.bind_some, if_pos c1]
  | m + 1, t, f1 + 1, f2 + 1, u, v, hi, hf1, hf2, hS, hW, hT, hy => by
    have hk := hS.1.k
    have a4 : q_ald v 164 136 (nI 4) = some (nI T) := by rw [ald_n (by omega) (by omega), hT]
    have a0 : q_ald v 164 136 (nI 0) = some (v.1 164 0) := ald_n (by omega) (by omega)
    have c1 : ¬ (nI T).toInt ≤ (nI t).toInt := by rw [nI_t (by omega), nI_t (by omega)]; omega
    have c2 : ¬ (u.1 k2 8).toInt ≤ (nI t).toInt := by rw [hW.1.trees, hT]; exact c1
    obtain ⟨h, hh, h1, h2⟩ := hW.2.1.age (t := t) (by omega)
    have x7 : q_ald u (k2 + 6) 14 (nI t) = some (nI h) := by rw [ald_n (by omega) (by omega), hW.1.tage (by omega), h1]
    have y7 : q_ald v 164 136 (nI (48 + t)) = some (nI h) := by rw [ald_n (by omega) (by omega), h1]
    have w1 := WQ.age (t := t) (x := min 99 (h + 1)) hW hS (by omega) (by omega)
    have m1 : q_min (nI 99) (nI (h + 1)) = nI (min 99 (h + 1)) := q_min_n (by omega) (by omega)
    have m2 : m_X11_held (nI (h + 1)) (nI 0) (nI 99) v = some (nI (min 99 (h + 1)), v) := by rw [held_eq (by omega), hd_n (by omega) (by omega)]
    have z1 : q_ast u (k2 + 6) 14 (nI t) (nI (min 99 (h + 1))) = some (q_up u (k2 + 6) t (nI (min 99 (h + 1)))) := ast_n (by omega) (by omega)
    have z2 : q_ast v 164 136 (nI (48 + t)) (nI (min 99 (h + 1))) = some (q_up v 164 (48 + t) (nI (min 99 (h + 1)))) := ast_n (by omega) (by omega)
    obtain ⟨u3, v3, g1, g2, w3⟩ := older_it (x1 := x1) hT4 m (t + 1) f1 f2 _ _ (by omega) (by omega) (by omega) (w1.st hS) w1.2.2.1 (by rw [w1.2.2.2 4 (by omega)]; exact hT) (by rw [w1.2.2.2 0 (by omega)]; exact hy)
    refine ⟨u3, v3, fun K1 => ?_, fun K2 => ?_, w1.trans w3 (by omega)⟩
    · rw [← g1 K1]
      show m_X0_growOlder_L2 _ _ (q_it1 (m_X0_growOlder_L2 k2 K1) f1) _ _ = _
      generalize q_it1 (m_X0_growOlder_L2 k2 K1) f1 = self
      unfold m_X0_growOlder_L2
      simp only [lit_n, nI_add, if_neg c2, x7, Option.bind_some, m1, z1]
    · rw [← g2 K2]
      show m_X11_goesBy_L134 _ _ (q_it1 (m_X11_goesBy_L134 x1 K2) f2) _ _ = _
      generalize q_it1 (m_X11_goesBy_L134 x1 K2) f2 = self
      unfold m_X11_goesBy_L134
      simp only [lit_n, nI_add, a4, Option.bind_some, if_neg c1, a0, if_pos hy, y7, m2, q_bd_some, z2]
end
