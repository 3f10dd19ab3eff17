/-! LAYER 2: a week; weeks -/
section
variable {tr th tg : Bool} {k k2 : Nat} {u v : qS}
theorem follow_s (hS : ST tr k k2 u v) (hW : WK tr th tg k k2 u v) : ∃ u2 v2, m_X7_follow k k2 u = some (nI 0, u2) ∧ (∀ K2 : qS → qR, q_it1 (m_X11_goesBy_L2 K2) q_F (nI 0) v = K2 v2) ∧ WQ tr th tg k k2 u v (fun j => j = 2 ∨ j = 3 ∨ j = 4 ∨ (15 ≤ j ∧ j < 86)) u2 v2 := by
  obtain ⟨N, hN, n1, n2, hL⟩ := hS.2.2.2.2.1
  obtain ⟨u2, v2, g1, g2, w⟩ := follow_it hN N 0 q_F q_F u v (by omega) (by rw [q_F_eq]; omega) (by rw [q_F_eq]; omega) hS hW n1
  refine ⟨u2, v2, ?_, g2, w⟩
  unfold m_X7_follow
  simp only [lit_n]
  exact g1 _
theorem sting_s (hS : ST tr k k2 u v) (hW : WK tr th tg k k2 u v) : ∃ u2 v2, (∀ J : qS → qR, (if (u.1 k 0).toInt = 0 then J u else if (u.1 k2 3).toInt ≤ 0 then J u else q_bd (m_X7_sting k k2 u) fun _ u_14 => J u_14) = J u2) ∧ m_X11_stings v = some (nI 0, v2) ∧ WQ tr th tg k k2 u v (fun j => j = 1 ∨ j = 2 ∨ (62 ≤ j ∧ j < 76)) u2 v2 := by
  obtain ⟨T, hT4, hT, -⟩ := hW.2.1.trees
  have h6 := hS.2.2.2.2.2.1
  have h7 := hS.2.2.2.2.2.2
  have hw := hW.1.wasps
  have hw2 := hS.2.1.2.2.2.1
  have t0 : (nI 0).toInt = 0 := rfl
  have t1 : ¬ (nI 1).toInt = 0 := by decide
  unfold m_X11_stings
  cases htr : tr with
  | false =>
    rw [htr, if_neg (by decide)] at h6 h7
    refine ⟨u, v, fun J => ?_, ?_, by rw [← htr]; exact WQ.rfl' hW⟩
    · rw [h6, t0, if_pos rfl]
    · rw [h7, if_neg t1]; rfl
  | true =>
    rw [htr, if_pos rfl] at h6 h7
    rw [h7, t0, if_pos rfl]
    by_cases hz : (v.1 163 9).toInt = 0
    · refine ⟨u, v, fun J => ?_, ?_, by rw [← htr]; exact WQ.rfl' hW⟩
      · rw [h6, if_neg t1, hw, if_pos (by omega)]
      · rw [if_pos hz]; rfl
    · obtain ⟨u2, v2, g1, g2, w⟩ := sting_it hT4 T 0 q_F q_F u v (by omega) (by rw [q_F_eq]; omega) (by rw [q_F_eq]; omega) hS hW hT
      refine ⟨u2, v2, fun J => ?_, ?_, by rw [← htr]; exact w⟩
      · rw [h6, if_neg t1, hw, if_neg (by omega)]
        have : m_X7_sting k k2 u = some (nI 0, u2) := by
          unfold m_X7_sting
          simp only [lit_n]
          exact g1 _
        rw [this, q_bd_s']
      · rw [if_neg hz]
        simp only [lit_n]
        exact g2 _
theorem older_n {x1 : Int32} {K2 : qS → qR} {f : Nat} (h : ¬ (q_rm (v.1 164 0) (nI 52)).toInt = 0) : q_it1 (m_X11_goesBy_L134 x1 K2) (f + 1) (nI 0) v = K2 v := by
  show m_X11_goesBy_L134 _ _ _ _ _ = _
  unfold m_X11_goesBy_L134
  have a4 : q_ald v 164 136 (nI 4) = some (v.1 164 4) := ald_n (by omega) (by omega)
  have a0 : q_ald v 164 136 (nI 0) = some (v.1 164 0) := ald_n (by omega) (by omega)
  simp only [lit_n, a4, a0, Option.bind_some, if_neg h, ite_self]
theorem older_s {x1 : Int32} (hS : ST tr k k2 u v) (hW : WK tr th tg k k2 u v) : ∃ u2 v2, (∀ J : qS → qR, (if (q_rm (u.1 k2 0) (nI 52)).toInt = 0 then q_bd (m_X0_growOlder k2 u) fun _ u_12 => J u_12 else J u) = J u2) ∧ (∀ K2 : qS → qR, q_it1 (m_X11_goesBy_L134 x1 K2) q_F (nI 0) v = K2 v2) ∧ WQ tr th tg k k2 u v (fun j => 48 ≤ j ∧ j < 62) u2 v2 := by
  obtain ⟨T, hT4, hT, -⟩ := hW.2.1.trees
  rw [hW.1.week]
  by_cases hy : (q_rm (v.1 164 0) (nI 52)).toInt = 0
  · obtain ⟨u2, v2, g1, g2, w⟩ := older_it (x1 := x1) hT4 T 0 q_F q_F u v (by omega) (by rw [q_F_eq]; omega) (by rw [q_F_eq]; omega) hS hW hT hy
    refine ⟨u2, v2, fun J => ?_, g2, w⟩
    have : m_X0_growOlder k2 u = some (nI 0, u2) := by
      unfold m_X0_growOlder
      simp only [lit_n]
      exact g1 _
    rw [if_pos hy, this, q_bd_s']
  · exact ⟨u, v, fun J => by rw [if_neg hy], fun K2 => older_n (f := 2999) hy, WQ.rfl' hW⟩
theorem week_s {x3 x4 c0 : Int32} (hS : ST tr k k2 u v) (hW : WK tr th tg k k2 u v) (hwk : (v.1 164 0).toInt + 1 ≤ 20000) (hn : u.1 k 1 = c0) (hx : ¬ x3.toInt ≤ x4.toInt) :
    ∃ n u2 v2, (∀ (K : qS → qR) (self : Int32 → qS → qR), m_X7_pass_L7 k k2 x3 K self x4 u = self (x4 + nI 1) u2) ∧ m_X11_goesBy v = some (n, v2) ∧ WZ tr th tg k k2 u v (fun _ => True) u2 v2 ∧ u2.1 k 1 = c0 + n ∧ v2.1 164 0 = v.1 164 0 + nI 1 ∧ (¬ (q_rm (v.1 164 0 + nI 1) (v.1 163 11 + nI 4)).toInt = 0 → ∀ j, 10 ≤ j → j < 15 → v2.1 164 j = v.1 164 j) := by
  have hk := hS.1.k
  obtain ⟨E, hE1, hE, -⟩ := hS.2.1.E
  obtain ⟨u1, v1, a1, a2, w1⟩ := follow_s hS hW
  obtain ⟨T, hT4, hT, -⟩ := w1.2.2.1.2.1.trees
  obtain ⟨u2, v2, b1, b2, w2⟩ := bear_it (x3 := x3) (x4 := x4) hT4 T 0 q_F q_F u1 v1 (by omega) (by rw [q_F_eq]; omega) (by rw [q_F_eq]; omega) (w1.st hS) w1.2.2.1 hT
  have w12 := w1.trans w2 (S3 := fun j => j = 2 ∨ j = 3 ∨ j = 4 ∨ (15 ≤ j ∧ j < 86)) (by omega)
  have S2 := w12.st hS
  have E2 : v2.1 163 7 = nI E := by rw [w12.2.1.2.1 7 (by omega) (by omega) (by omega)]; exact hE
  obtain ⟨n, u3, v3, c1, c2, w3, hn3⟩ := eats_it (x3 := x3) (x4 := x4) (c0 := c0) (K2 := fun x1 u_6 => some (x1, u_6)) hE1 E 0 q_F q_F (nI 0) u2 v2 (by omega) (by rw [q_F_eq]; omega) (by rw [q_F_eq]; omega) S2 w12.2.2.1 E2 (by rw [w12.1.2.1, hn]; exact (Int32.add_zero c0).symm)
  have w13 := w12.z.trans w3 (S3 := fun j => ¬ (j = 0 ∨ (10 ≤ j ∧ j < 15))) (fun j h => by unfold SE at h; omega)
  have S3' := w13.st hS
  have e2 : m_X11_eats v2 = some (n, v3) := by
    unfold m_X11_eats
    simp only [lit_n]
    exact c2
  obtain ⟨u4, v4, d1, d2, w4⟩ := sting_s S3' w13.2.2.1
  have w14 := w13.trans w4.z (S3 := fun j => ¬ (j = 0 ∨ (10 ≤ j ∧ j < 15))) (fun j h => by omega)
  have S4 := w14.st hS
  have hn4 : u4.1 k 1 = c0 + n := by rw [w4.1.2.1]; exact hn3
  -- the seating
  have hev := hS.2.1.2.2.2.2.2
  have t4 : (nI 4).toInt = 4 := rfl
  have hevt : (v.1 163 11 + nI 4).toInt = (v.1 163 11).toInt + 4 := by rw [i32_add] <;> rw [t4] <;> omega
  obtain ⟨Ev, hEv, hEv1, hEv2⟩ := nI_ex (x := v.1 163 11 + nI 4) (b := 52) (by omega) (by omega) (by omega)
  have hEv0 : 0 < Ev := by omega
  have v11 : v4.1 163 11 = v.1 163 11 := w14.2.1.2.1 11 (by omega) (by omega) (by omega)
  have v00 : v4.1 164 0 = v.1 164 0 := w14.2.2.2 0 (by omega)
  obtain ⟨W, hW2, W1, W2⟩ := hW.2.1.week
  have hu5 : u4.1 k2 5 = nI Ev := by rw [w14.2.2.1.1.every, v11, hEv1]
  have hu0 : u4.1 k2 0 = nI W := by rw [w14.2.2.1.1.week, v00, W1]
  have rm : q_rem (nI (W + 1)) (nI Ev) = some (nI ((W + 1) % Ev)) := q_rem_n (by omega) (by omega) hEv0
  have rmm : q_rm (nI (W + 1)) (nI Ev) = nI ((W + 1) % Ev) := by unfold q_rm; exact pk_rem (by omega) hEv0 (by omega)
  have hev' : m_X11_every v4 = some (nI Ev, v4) := by unfold m_X11_every; simp only [lit_n, v11, hEv1]
  have y0 : q_ald v4 164 136 (nI 0) = some (nI W) := by rw [ald_n (by omega) (by omega), v00, W1]
  have hmod : (W + 1) % Ev < Ev := Nat.mod_lt _ hEv0
  have hseat : ∃ u5 v5, (∀ J : qS → qR, (if (nI ((W + 1) % Ev)).toInt = 0 then q_bd (m_X7_vote k k2 u4) fun _ u_13 => J u_13 else J u4) = J u5) ∧ (∀ J : qS → qR, (if (nI ((W + 1) % Ev)).toInt = 0 then q_bd (m_X11_elects v4) fun _ u_24 => J u_24 else J v4) = J v5) ∧ WQ tr th tg k k2 u4 v4 (fun j => j = 2 ∨ (5 ≤ j ∧ j < 15)) u5 v5 ∧ (¬ (nI ((W + 1) % Ev)).toInt = 0 → v5 = v4) := by
    by_cases hz : (nI ((W + 1) % Ev)).toInt = 0
    · obtain ⟨u5, v5, e1, e2', w5⟩ := vote_s S4 w14.2.2.1
      exact ⟨u5, v5, fun J => by rw [if_pos hz, e1, q_bd_s'], fun J => by rw [if_pos hz, e2', q_bd_s'], w5, fun h => absurd hz h⟩
    · exact ⟨u4, v4, fun J => by rw [if_neg hz], fun J => by rw [if_neg hz], WQ.rfl' w14.2.2.1, fun _ => rfl⟩
  obtain ⟨u5, v5, f1, f2, w5, hnos⟩ := hseat
  have S5 := w5.st S4
  have hu05 : u5.1 k2 0 = nI W := by rw [w5.2.2.1.1.week, w5.2.2.2 0 (by omega), v00, W1]
  have v05 : v5.1 164 0 = nI W := by rw [w5.2.2.2 0 (by omega), v00, W1]
  have w6 := WQ.up (c := 0) (s := 0) (x := nI (W + 1)) w5.2.2.1 S5.1 S5.2.1 0 (by omega) rfl rfl (by rw [nI_t (by omega), bLo_0 (by omega) (by omega)]; have : bHi 0 = 20000 := rfl; omega) (by omega) (by omega) (by omega) (by omega)
  have S6 := w6.st S5
  obtain ⟨u7, v7, g1, g2, w7⟩ := older_s (x1 := n) S6 w6.2.2.1
  have y5 : q_ald v5 164 136 (nI 0) = some (nI W) := by rw [ald_n (by omega) (by omega), v05]
  have y6 : q_ast v5 164 136 (nI 0) (nI (W + 1)) = some (q_up v5 164 0 (nI (W + 1))) := ast_n (by omega) (by omega)
  have w57 := (w5.trans w6 (S3 := fun _ => True) (fun _ _ => trivial)).trans w7 (S3 := fun _ => True) (fun _ _ => trivial)
  have w17 := w14.trans w57.z (S3 := fun _ => True) (fun _ _ => trivial)
  refine ⟨n, u7, v7, fun K self => ?_, ?_, w17, by rw [w57.1.2.1]; exact hn4, ?_, ?_⟩
  · unfold m_X7_pass_L7
    simp only [lit_n]
    rw [if_neg hx, a1, q_bd_s', b1, c1]
    have d1' : ∀ J : qS → qR, q_jn J (fun J' => if (u3.1 k 0).toInt = 0 then J' u3 else if (u3.1 k2 3).toInt ≤ 0 then J' u3 else q_bd (m_X7_sting k k2 u3) fun _ u_14 => J' u_14) = J u4 := d1
    have f1' : ∀ J : qS → qR, q_jn J (fun J' => if (u4.1 k2 5).toInt ≤ 0 then J' u4 else Option.bind (q_rem ((u4.1 k2 0) + nI 1) (u4.1 k2 5)) fun a => if a.toInt = 0 then q_bd (m_X7_vote k k2 u4) fun _ u_13 => J' u_13 else J' u4) = J u5 := fun J => by
      rw [q_jn, if_neg (show ¬ (u4.1 k2 5).toInt ≤ 0 by rw [hu5, nI_t (by omega)]; omega), hu0, hu5, nI_add, rm, Option.bind_some]
      exact f1 J
    have g1' : ∀ J : qS → qR, q_jn J (fun J' => if (q_rm ((q_up u5 k2 0 (nI (W + 1))).1 k2 0) (nI 52)).toInt = 0 then q_bd (m_X0_growOlder k2 (q_up u5 k2 0 (nI (W + 1)))) fun _ u_12 => J' u_12 else J' (q_up u5 k2 0 (nI (W + 1)))) = J u7 := g1
    rw [d1', f1', hu05, nI_add, q_let, g1']
  · unfold m_X11_goesBy
    simp only [lit_n]
    rw [a2, b2, e2, q_bd_s', d2, q_bd_s', y0, Option.bind_some, hev', q_bd_s', nI_add, rm, Option.bind_some]
    have f2' : ∀ J : qS → qR, q_jn J (fun J' => if (nI ((W + 1) % Ev)).toInt = 0 then q_bd (m_X11_elects v4) fun _ u_24 => J' u_24 else J' v4) = J v5 := f2
    rw [f2', y5, Option.bind_some, nI_add, y6, Option.bind_some, g2]
  · rw [w7.2.2.2 0 (by omega), q_up_1, if_pos rfl, upd_g, if_pos rfl, W1, nI_add]
  · intro hz j h1 h2
    rw [W1, nI_add, hEv1, rmm] at hz
    have h5 := hnos hz
    rw [w7.2.2.2 j (by omega), w6.2.2.2 j (by omega), h5]
    exact w14.2.2.2 j (by omega)
end
