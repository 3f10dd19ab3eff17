/-! LAYER 2: THE CALLS, 9: weeks, undo -/
theorem weeks_it {N : Nat} (hN : N ≤ 60) : ∀ (n i f1 f2 : Nat) (c : Int32) (x y : qS), i + n = N → n < f1 → n < f2 → Rel x y → (y.1 164 0).toInt + n ≤ 9999 →
    ∃ r x2 y2, (∀ K : Int32 → qS → qR, q_it2 (m_X10_weeks_L31 (nI N) K) f1 c (nI i) x = K r x2) ∧ (∀ K : Int32 → qS → qR, q_it2 (m_X11_weeks_L36 (nI N) K) f2 c (nI i) y = K r y2) ∧ Rel x2 y2
  | n, i, 0, f2, c, x, y, hi, hf1, hf2, h, hw => by omega
  | n, i, f1, 0, c, x, y, hi, hf1, hf2, h, hw => by omega
  | 0, i, f1 + 1, f2 + 1, c, x, y, hi, hf1, hf2, h, hw => by
    have c1 : (nI N).toInt ≤ (nI i).toInt := by rw [nI_t (by omega), nI_t (by omega)]; omega
    refine ⟨c, x, y, fun K => ?_, fun K => ?_, h⟩
    · show m_X10_weeks_L31 _ _ _ _ _ _ = _
      unfold m_X10_weeks_L31
      rw [if_pos c1]
    · show m_X11_weeks_L36 _ _ _ _ _ _ = _
      unfold m_X11_weeks_L36
      rw [if_pos c1]
  | n + 1, i, f1 + 1, f2 + 1, c, x, y, hi, hf1, hf2, h, hw => by
    have c1 : ¬ (nI N).toInt ≤ (nI i).toInt := by rw [nI_t (by omega), nI_t (by omega)]; omega
    obtain ⟨x1, y1, k1, k2, R1, F⟩ := keep_s h
    have w0 : y1.1 164 0 = y.1 164 0 := by rw [F.2.2.1 164 (by omega) (by omega)]
    obtain ⟨m, x2, y2, a1, a2, w, hn, h0⟩ := truth_s R1.st.1 R1.st R1.C R1.B R1.wk.2.2.1 (by rw [w0]; omega)
    obtain ⟨W, W1, W2, W3⟩ := h.B.week
    have t2 : (y2.1 164 0).toInt = (y.1 164 0).toInt + 1 := by rw [h0, w0, W2, nI_add, nI_t (by omega), nI_t (by omega)]; omega
    have R2 : Rel x2 y2 := R1.tr w (by rw [t2]; omega)
    obtain ⟨r, x3, y3, b1, b2, R3⟩ := weeks_it hN n (i + 1) f1 f2 (c + m) x2 y2 (by omega) (by omega) (by omega) R2 (by rw [t2]; omega)
    refine ⟨r, x3, y3, fun K => ?_, fun K => ?_, R3⟩
    · rw [← b1 K]
      show m_X10_weeks_L31 _ _ (q_it2 (m_X10_weeks_L31 (nI N) K) f1) _ _ _ = _
      generalize q_it2 (m_X10_weeks_L31 (nI N) K) f1 = self
      unfold m_X10_weeks_L31
      simp only [lit_n]
      rw [if_neg c1, k1, q_bd_s', a1, q_bd_s', q_let_s, hn, nI_add]
    · rw [← b2 K]
      show m_X11_weeks_L36 _ _ (q_it2 (m_X11_weeks_L36 (nI N) K) f2) _ _ _ = _
      generalize q_it2 (m_X11_weeks_L36 (nI N) K) f2 = self
      unfold m_X11_weeks_L36
      simp only [lit_n]
      rw [if_neg c1, k2, q_bd_s', a2, q_bd_s', q_let_s, nI_add]
theorem sim_weeks (a : Int32) : SIM (m_X10_weeks a) (m_X11_weeks a) := fun x y h => by
  unfold m_X10_weeks m_X11_weeks
  simp only [lit_n, mI_lit]
  rcases within_b a 1 60 (by omega) (by omega) with ⟨n, n0, n1, n2, u1, u2⟩ | ⟨u1, u2⟩
  · subst n2
    obtain ⟨W, W1, W2, W3⟩ := h.B.week
    have hx0 : x.1 2 0 = nI W := by rw [h.C.week, W2]
    have a0 : q_ald (q_up y 163 0 (nI 0)) 164 136 (nI 0) = some (nI W) := by rw [ald_n (by omega) (by omega)]; exact congrArg some W2
    by_cases hw : W + n ≤ 9999
    · have c1 : (nI (W + n)).toInt ≤ (nI 9999).toInt := by rw [nI_t (by omega), nI_t (by omega)]; omega
      obtain ⟨r, x2, y2, b1, b2, R2⟩ := weeks_it n1 n 0 q_F q_F (nI 0) x (q_up y 163 0 (nI 0)) (by omega) (by rw [q_F_eq]; omega) (by rw [q_F_eq]; omega) h.told (show (y.1 164 0).toInt + n ≤ 9999 by rw [W3]; omega)
      refine ⟨r, x2, y2, ?_, ?_, R2⟩
      · rw [u1, q_bd_s', if_neg (by decide), hx0, nI_add, if_pos c1, b1]
      · rw [q_let_s, u2, q_bd_s', if_neg (by decide), a0, Option.bind_some, nI_add, if_pos c1, b2]
    · have c1 : ¬ (nI (W + n)).toInt ≤ (nI 9999).toInt := by rw [nI_t (by omega), nI_t (by omega)]; omega
      refine ⟨mI, x, q_up y 163 0 (nI 0), ?_, ?_, h.told⟩
      · rw [u1, q_bd_s', if_neg (by decide), hx0, nI_add, if_neg c1]
      · rw [q_let_s, u2, q_bd_s', if_neg (by decide), a0, Option.bind_some, nI_add, if_neg c1]
  · refine ⟨mI, x, q_up y 163 0 (nI 0), ?_, ?_, h.told⟩
    · rw [u1, q_bd_s', if_pos (by decide)]
    · rw [q_let_s, u2, q_bd_s', if_pos (by decide)]
theorem back_it {K : qS → qR} {y : qS} {m : Nat} (hm : m < 6) (h3 : y.1 163 3 = nI m) : ∀ (n i f : Nat) (r : Nat → Int32), i + n = 136 → n < f → q_it1 (m_X11_undo_L26 K) f (nI i) (q_st y 164 (fun j => if j < i then y.1 165 (136 * m + j) else r j)) = K (q_st y 164 (fun j => if j < 136 then y.1 165 (136 * m + j) else r j))
  | n, i, 0, r, hi, hf => by omega
  | 0, i, f + 1, r, hi, hf => by
    have : i = 136 := by omega
    subst this
    show m_X11_undo_L26 _ _ _ _ = _
    unfold m_X11_undo_L26
    rw [lit_n, if_pos (by decide)]
  | n + 1, i, f + 1, r, hi, hf => by
    have ih := back_it (K := K) hm h3 n (i + 1) f r (by omega) (by omega)
    rw [← ih]
    show m_X11_undo_L26 _ (q_it1 (m_X11_undo_L26 K) f) _ _ = _
    generalize q_it1 (m_X11_undo_L26 K) f = self
    unfold m_X11_undo_L26
    have e3 : ∀ s, (q_st y 164 s).1 163 3 = nI m := fun s => h3
    have c1 : ¬ (nI 136).toInt ≤ (nI i).toInt := by rw [nI_t (by omega), nI_t (by omega)]; omega
    have a1 : q_ald (q_st y 164 (fun j => if j < i then y.1 165 (136 * m + j) else r j)) 165 816 (nI (136 * m + i)) = some (y.1 165 (136 * m + i)) := by rw [ald_n (by omega) (by omega), q_st_g, if_neg (by omega)]
    have b1 : q_ast (q_st y 164 (fun j => if j < i then y.1 165 (136 * m + j) else r j)) 164 136 (nI i) (y.1 165 (136 * m + i)) = some (q_st y 164 (fun j => if j < i + 1 then y.1 165 (136 * m + j) else r j)) := by
      rw [q_ast_ok (by omega) (by omega), q_st_st, q_st_g, if_pos rfl]
      congr 2
      funext j
      rw [upd_g]
      by_cases h : j = i
      · rw [if_pos h, if_pos (by omega), h]
      · rw [if_neg h]
        by_cases h2 : j < i
        · rw [if_pos h2, if_pos (by omega)]
        · rw [if_neg h2, if_neg (by omega)]
    simp only [lit_n, e3, pk_mul, nI_add, if_neg c1, a1, Option.bind_some, b1]
theorem sim_undo : SIM m_X10_undo m_X11_undo := fun x y h => by
  obtain ⟨m, q, m6, q6, k1, k2, k3, k4⟩ := h.2.1
  have p3 : (q_up y 163 0 (nI 0)).1 163 3 = nI m := k2
  unfold m_X10_undo m_X11_undo
  simp only [lit_n]
  by_cases hm : m = 0
  · subst hm
    refine ⟨nI 0, x, q_up y 163 0 (nI 0), ?_, ?_, h.told⟩
    · rw [k1, if_pos (by decide)]
    · rw [q_let_s, p3, if_pos (by decide)]
  · let x1 := q_up (q_up x 0 6 (nI ((q + 5) % 6))) 0 5 (nI (m - 1))
    let y1 := q_up (q_up y 163 0 (nI 0)) 163 3 (nI (m - 1))
    obtain ⟨x2, c1, c2⟩ := copy_c (u := x1) (k := 2) (k1 := q_kp ((q + 5) % 6)) (by unfold q_kp; omega)
    have y3 : y1.1 163 3 = nI (m - 1) := rfl
    have bk := fun K => back_it (K := K) (y := y1) (m := m - 1) (by omega) y3 136 0 q_F (y1.1 164) (by omega) (by rw [q_F_eq]; omega)
    simp only [Nat.not_lt_zero, if_false] at bk
    have self164 : q_st y1 164 (fun j => y1.1 164 j) = y1 := q_st_self rfl
    rw [self164] at bk
    let y2 := q_st y1 164 (fun j => if j < 136 then y1.1 165 (136 * (m - 1) + j) else y1.1 164 j)
    have hx2 : ∀ c, c ≠ 0 → (c < 2 ∨ 12 ≤ c) → x2.1 c = x.1 c := fun c h1 h2 => by
      rw [c2.1 c (by omega)]
      show (q_up (q_up x 0 6 _) 0 5 _).1 c = _
      rw [q_up_1, if_neg h1, q_up_1, if_neg h1]
    have hx20 : ∀ j, j ≠ 5 → j ≠ 6 → x2.1 0 j = x.1 0 j := fun j h1 h2 => by
      rw [c2.1 0 (by omega)]
      show (q_up (q_up x 0 6 _) 0 5 _).1 0 j = _
      rw [q_up_1, if_pos rfl, upd_g, if_neg h1, q_up_1, if_pos rfl, upd_g, if_neg h2]
    have hy2 : ∀ c, c ≠ 163 → c ≠ 164 → y2.1 c = y.1 c := fun c h1 h2 => by
      show (q_st (q_up (q_up y 163 0 (nI 0)) 163 3 (nI (m - 1))) 164 _).1 c = _
      rw [q_st_g, if_neg h2, q_up_1, if_neg h1, q_up_1, if_neg h1]
    have hj2 : ∀ j, j ≠ 0 → j ≠ 3 → y2.1 163 j = y.1 163 j := fun j h1 h2 => by
      show (q_up (q_up y 163 0 (nI 0)) 163 3 (nI (m - 1))).1 163 j = _
      rw [q_up_1, if_pos rfl, upd_g, if_neg h2, q_up_1, if_pos rfl, upd_g, if_neg h1]
    have row : ∀ j, j < 136 → y2.1 164 j = (fun j => y.1 165 (136 * (m - 1) + j)) j := fun j hj => by
      show (if j < 136 then y.1 165 (136 * (m - 1) + j) else y.1 164 j) = _
      rw [if_pos hj]
    have hg : ∀ j, j = 6 ∨ j = 7 ∨ j = 8 ∨ j = 9 ∨ j = 10 ∨ j = 11 → y2.1 163 j = y.1 163 j := fun j hj => hj2 j (by omega) (by omega)
    refine ⟨nI 1, x2, y2, ?_, ?_, ?_⟩
    · have ix : q_ix 6 (nI ((q + 5) % 6)) = some ((q + 5) % 6) := by unfold q_ix; rw [nI_t (by omega), if_pos (by omega)]; rfl
      have e5 : ∀ v, (q_up x 0 6 v).1 0 5 = nI m := fun v => k1
      have e6 : ∀ w v, (q_up (q_up x 0 6 v) 0 5 w).1 0 6 = v := fun w v => rfl
      have mm : nI m - nI 1 = nI (m - 1) := nI_sub (by omega)
      have c5 : ¬ (nI m).toInt = 0 := by rw [nI_t (by omega)]; omega
      have tail : (q_let (q_up x 0 6 (nI ((q + 5) % 6))) fun u_2 => q_let (q_up u_2 0 5 ((u_2.1 0 5) - nI 1)) fun u_3 => Option.bind (q_ix 6 (u_3.1 0 6)) fun j => q_bd (m_X0_copyFrom 2 (q_kp j) u_3) fun _ u_4 => some (nI 1, u_4)) = some (nI 1, x2) := by
        rw [q_let_s, q_let_s, e5, mm, e6, ix, Option.bind_some, c1, q_bd_s']
      rw [k1, if_neg c5, q_jn, k3]
      by_cases hq : q = 0
      · rw [if_pos (by rw [nI_t (by omega)]; omega)]
        subst hq
        exact tail
      · rw [if_neg (by rw [nI_t (by omega)]; omega), nI_sub (show 1 ≤ q by omega), show q - 1 = (q + 5) % 6 by omega]
        exact tail
    · have c5 : ¬ (nI m).toInt = 0 := by rw [nI_t (by omega)]; omega
      rw [q_let_s, p3, if_neg c5, q_let_s, nI_sub (show 1 ≤ m by omega)]
      exact bk _
    · obtain ⟨⟨r1, r2, r3, r4, r5, r6, r7, r8, r9⟩, -, h3, h4, h5⟩ := h
      obtain ⟨b1, b2, b3⟩ := k4 (m - 1) (by omega)
      have hidx : (q + 6 - m + (m - 1)) % 6 = (q + 5) % 6 := by omega
      rw [hidx] at b1
      refine ⟨⟨?_, (b2.rw row).gr (hg 6 (by omega)) (hg 7 (by omega)), ?_, r4.mv hg, ?_, ?_, ?_, ?_, ?_⟩, ?_, ?_, ?_, ?_⟩
      · exact b1.mv (fun o s ho hs => by
          rw [c2.2.1 o s ho hs]
          show (q_up (q_up x 0 6 _) 0 5 _).1 (q_kp _ + o) s = _
          rw [q_up_1, if_neg (by unfold q_kp; omega), q_up_1, if_neg (by unfold q_kp; omega)]) row hg
      · rw [row 0 (by omega)]; exact b3
      · exact r5.fr (fun c a b => hx2 c (by omega) (by omega)) (fun c a b => hy2 c (by omega) (by omega))
      · exact r6.fr (fun c a b => hx2 c (by omega) (by omega)) (hy2 178 (by omega) (by omega)) (hj2 36 (by omega) (by omega))
      · exact r7.fr (fun c a b => hx2 c (by omega) (by omega)) (hy2 179 (by omega) (by omega)) (hj2 38 (by omega) (by omega)) (hg 6 (by omega)) (hg 7 (by omega))
      · exact r8.fr (fun c a b => hx2 c (by omega) (by omega)) (hy2 184 (by omega) (by omega)) (hj2 48 (by omega) (by omega)) (hg 6 (by omega))
      · rw [hx2 32 (by omega) (by omega), hy2 167 (by omega) (by omega)]; exact r9
      · refine ⟨m - 1, (q + 5) % 6, by omega, by omega, ?_, rfl, ?_, fun i hi => ?_⟩
        · rw [c2.1 0 (by omega)]; rfl
        · rw [c2.1 0 (by omega)]; rfl
        · obtain ⟨d1, d2, d3⟩ := k4 i (by omega)
          have hid : ((q + 5) % 6 + 6 - (m - 1) + i) % 6 = (q + 6 - m + i) % 6 := by omega
          have hlt : (q + 6 - m + i) % 6 < 6 := Nat.mod_lt _ (by omega)
          unfold KRi
          rw [hid, hy2 165 (by omega) (by omega)]
          refine ⟨d1.mv (fun o s ho hs => ?_) (fun _ _ => rfl) hg, d2.gr (hg 6 (by omega)) (hg 7 (by omega)), d3⟩
          rw [hx2 _ (by unfold q_kp; omega) (by unfold q_kp; omega)]
      · exact h3.fr (by rw [hx2 67 (by omega) (by omega)]) (hx2 68 (by omega) (by omega)) (hx2 66 (by omega) (by omega)) (hj2 14 (by omega) (by omega)) (hj2 34 (by omega) (by omega)) (hj2 35 (by omega) (by omega)) (hy2 168 (by omega) (by omega))
      · exact h4.fr (by rw [hx2 88 (by omega) (by omega)]) (by rw [hx2 90 (by omega) (by omega)]) (hj2 5 (by omega) (by omega)) (hy2 169 (by omega) (by omega))
      · exact h5.fr (hx20 3 (by omega) (by omega)) (fun c a b _ _ => hx2 c (by omega) (by omega)) (hj2 53 (by omega) (by omega)) (hy2 187 (by omega) (by omega))
