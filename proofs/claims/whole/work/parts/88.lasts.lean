/-! LAYER 2: THE CALLS, 15: lasts -/
theorem want_n {X : qX} {f : Nat → Int32} {e : Nat} : ∃ n : Nat, n ≤ 20 ∧ wantF X f e = nI n := by
  have h := hd_rng (m := 20) (r := tF X 12 (aF (q_rm (f 0) (nI 52)) (nI 0) (nI 0) (nI 0) (nI 0) (f (76 + e)) (nI 0) (nI 0) (nI 0)) (nI 1) (f (76 + e))) (by omega)
  obtain ⟨n, n1, n2, -⟩ := nI_ex (b := 20) h.1 h.2 (by omega)
  exact ⟨n, n1, n2⟩
/-- what one asks of the law changes nothing -/
theorem want_s {x y : qS} {e : Nat} (h : Rel x y) (he : e < 10) : ∃ (n : Nat) (x2 y2 : qS), n ≤ 20 ∧ m_X2_wants 12 2 (nI e) x = some (nI n, x2) ∧ m_X11_wantOf (nI e) y = some (nI n, y2) ∧ Rel x2 y2 ∧ (∀ c, c ≠ 17 → c ≠ 18 → x2.1 c = x.1 c) ∧ (∀ c, c ≠ 180 → c ≠ 181 → y2.1 c = y.1 c) ∧ x2.2 = x.2 := by
  obtain ⟨s, a, e1⟩ := wants_c (k := 2) (Z := y.1) (by omega) h.C h.1.2.2.2.2.1 he
  obtain ⟨s', a', e2⟩ := want_r (X := x.1) (v := y) h.1.2.2.2.2.1 he
  obtain ⟨n, n1, n2⟩ := want_n (X := x.1) (f := y.1 164) (e := e)
  rw [n2] at e1 e2
  refine ⟨n, sc x s a, sr y s' a', n1, e1, e2, ?_, fun c h1 h2 => sc_o h1 h2, fun c h1 h2 => sr_o h1 h2, rfl⟩
  exact h.th (fun c h1 h2 _ => sc_o h1 h2) (by rw [sc_o (by omega) (by omega)]) (fun j _ => by rw [sr_o (by omega) (by omega)]) (fun c h1 h2 h3 h4 h5 => sr_o (by omega) (by omega)) (fun j _ _ => by rw [sr_o (by omega) (by omega)])
theorem lasts_it {p E : Nat} (hp : p < 5) (hE1 : E ≤ 10) : ∀ (n e f1 f2 s : Nat) (x y : qS), e + n = E → n < f1 → n < f2 → s ≤ 20 * e → y.1 163 7 = nI E → Rel x y →
    ∃ (s2 : Nat) (x2 y2 : qS), s2 ≤ 200 ∧ (∀ K : Int32 → qS → qR, q_it2 (m_X10_lasts_L17 (nI p) K) f1 (nI s) (nI e) x = K (nI s2) x2) ∧ (∀ K : Int32 → qS → qR, q_it2 (m_X11_lasts_L19 (nI p) K) f2 (nI s) (nI e) y = K (nI s2) y2) ∧ Rel x2 y2
  | n, e, 0, f2, s, x, y, he, hf1, hf2, hs, hE, h => by omega
  | n, e, f1, 0, s, x, y, he, hf1, hf2, hs, hE, h => by omega
  | 0, e, f1 + 1, f2 + 1, s, x, y, he, hf1, hf2, hs, hE, h => by
    have c1 : (nI E).toInt ≤ (nI e).toInt := by rw [nI_t (by omega), nI_t (by omega)]; omega
    have x9 : x.1 2 9 = nI E := by rw [h.C.eaters, hE]
    refine ⟨s, x, y, by omega, fun K => ?_, fun K => ?_, h⟩
    · show m_X10_lasts_L17 _ _ _ _ _ _ = _
      unfold m_X10_lasts_L17
      rw [x9, if_pos c1]
    · show m_X11_lasts_L19 _ _ _ _ _ _ = _
      unfold m_X11_lasts_L19
      rw [hE, if_pos c1]
  | n + 1, e, f1 + 1, f2 + 1, s, x, y, he, hf1, hf2, hs, hE, h => by
    have c1 : ¬ (nI E).toInt ≤ (nI e).toInt := by rw [nI_t (by omega), nI_t (by omega)]; omega
    have x9 : x.1 2 9 = nI E := by rw [h.C.eaters, hE]
    have tc := taste_c (u := x) h.C hE hE1 (show e < E by omega) hp
    have tr := taste_r (v := y) (show e < 10 by omega) hp
    by_cases ht : (y.1 164 (86 + (5 * e + p)) + nI 5).toInt ≤ 0
    · obtain ⟨s2, x3, y3, b0, b1, b2, R3⟩ := lasts_it hp hE1 n (e + 1) f1 f2 s x y (by omega) (by omega) (by omega) (by omega) hE h
      refine ⟨s2, x3, y3, b0, fun K => ?_, fun K => ?_, R3⟩
      · rw [← b1 K]
        show m_X10_lasts_L17 _ _ (q_it2 (m_X10_lasts_L17 (nI p) K) f1) _ _ _ = _
        generalize q_it2 (m_X10_lasts_L17 (nI p) K) f1 = self
        unfold m_X10_lasts_L17
        rw [x9, if_neg c1, tc, q_bd_s', q_jn, if_pos ht, lit_n, nI_add]
      · rw [← b2 K]
        show m_X11_lasts_L19 _ _ (q_it2 (m_X11_lasts_L19 (nI p) K) f2) _ _ _ = _
        generalize q_it2 (m_X11_lasts_L19 (nI p) K) f2 = self
        unfold m_X11_lasts_L19
        rw [hE, if_neg c1, tr, q_bd_s', q_jn, if_pos ht, lit_n, nI_add]
    · obtain ⟨w, x1, y1, w1, a1, a2, R1, k1, k2, -⟩ := want_s h (show e < 10 by omega)
      obtain ⟨s2, x3, y3, b0, b1, b2, R3⟩ := lasts_it hp hE1 n (e + 1) f1 f2 (s + w) x1 y1 (by omega) (by omega) (by omega) (by omega) (by rw [k2 163 (by omega) (by omega)]; exact hE) R1
      refine ⟨s2, x3, y3, b0, fun K => ?_, fun K => ?_, R3⟩
      · rw [← b1 K]
        show m_X10_lasts_L17 _ _ (q_it2 (m_X10_lasts_L17 (nI p) K) f1) _ _ _ = _
        generalize q_it2 (m_X10_lasts_L17 (nI p) K) f1 = self
        unfold m_X10_lasts_L17
        rw [x9, if_neg c1, tc, q_bd_s', q_jn, if_neg ht, a1, q_bd_s', q_let_s, lit_n, nI_add, nI_add]
      · rw [← b2 K]
        show m_X11_lasts_L19 _ _ (q_it2 (m_X11_lasts_L19 (nI p) K) f2) _ _ _ = _
        generalize q_it2 (m_X11_lasts_L19 (nI p) K) f2 = self
        unfold m_X11_lasts_L19
        rw [hE, if_neg c1, tr, q_bd_s', q_jn, if_neg ht, a2, q_bd_s', q_let_s, lit_n, nI_add, nI_add]
theorem sim_lasts (a : Int32) : SIM (m_X10_lasts a) (m_X11_lasts a) := fun x y h => by
  obtain ⟨P, hP1, hP, hP2⟩ := h.G.P
  obtain ⟨E, hE1, hE, hE2⟩ := h.G.E
  have hx7 : x.1 2 7 = nI P := by rw [h.C.parties, hP]
  have p63 : (q_up y 163 0 (nI 0)).1 163 6 = nI P := hP
  unfold m_X10_lasts m_X11_lasts
  simp only [lit_n, mI_lit]
  rcases party_b a hx7 p63 hP1 with ⟨p, p1, p2, w1, w2⟩ | ⟨w1, w2⟩
  · subst p2
    obtain ⟨s, x2, y2, s2, b1, b2, R2⟩ := lasts_it (p := p) (by omega) hE1 E 0 q_F q_F 0 x (q_up y 163 0 (nI 0)) (by omega) (by rw [q_F_eq]; omega) (by rw [q_F_eq]; omega) (by omega) hE h.told
    obtain ⟨J, J9, J1, -⟩ := R2.B.jam (p := p) (by omega)
    have xj : q_ald x2 3 5 (nI p) = some (nI J) := by rw [ald_n (by omega) (by omega)]; exact congrArg some ((R2.C.store (p := p) (by omega)).trans J1)
    have yj : q_ald y2 164 136 (nI (15 + p)) = some (nI J) := by rw [ald_n (by omega) (by omega), J1]
    by_cases hs : s = 0
    · refine ⟨mI, x2, y2, ?_, ?_, R2⟩
      · rw [w1, q_bd_s', if_neg (by decide), b1, if_pos (by rw [nI_t (by omega)]; omega)]
      · rw [q_let_s, w2, q_bd_s', if_neg (by decide), b2, if_pos (by rw [nI_t (by omega)]; omega)]
    · have dv := q_div_n (a := J + s - 1) (d := s) (by omega) (by omega) (by omega)
      refine ⟨nI ((J + s - 1) / s), x2, y2, ?_, ?_, R2⟩
      · rw [w1, q_bd_s', if_neg (by decide), b1, if_neg (by rw [nI_t (by omega)]; omega), xj, Option.bind_some, nI_add, nI_sub (by omega), dv, Option.bind_some]
      · rw [q_let_s, w2, q_bd_s', if_neg (by decide), b2, if_neg (by rw [nI_t (by omega)]; omega), nI_add, yj, Option.bind_some, nI_add, nI_sub (by omega), dv, Option.bind_some]
  · refine ⟨mI, x, q_up y 163 0 (nI 0), ?_, ?_, h.told⟩
    · rw [w1, q_bd_s', if_pos (by decide)]
    · rw [q_let_s, w2, q_bd_s', if_pos (by decide)]
