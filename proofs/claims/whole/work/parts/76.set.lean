/-! LAYER 2: THE CALLS, 3: taste, set -/
theorem q8_0_1 : ((nI 0).toInt = (nI 1).toInt) = False := eq_false (by decide)
theorem q8_0_2 : ((nI 0).toInt = (nI 2).toInt) = False := eq_false (by decide)
theorem q8_0_3 : ((nI 0).toInt = (nI 3).toInt) = False := eq_false (by decide)
theorem q8_0_4 : ((nI 0).toInt = (nI 4).toInt) = False := eq_false (by decide)
theorem q8_0_5 : ((nI 0).toInt = (nI 5).toInt) = False := eq_false (by decide)
theorem q8_0_6 : ((nI 0).toInt = (nI 6).toInt) = False := eq_false (by decide)
theorem q8_0_7 : ((nI 0).toInt = (nI 7).toInt) = False := eq_false (by decide)
theorem q8l_0 : ((nI 4).toInt ≤ (nI 0).toInt) = False := eq_false (by decide)
theorem q8_1_0 : ((nI 1).toInt = (nI 0).toInt) = False := eq_false (by decide)
theorem q8_1_2 : ((nI 1).toInt = (nI 2).toInt) = False := eq_false (by decide)
theorem q8_1_3 : ((nI 1).toInt = (nI 3).toInt) = False := eq_false (by decide)
theorem q8_1_4 : ((nI 1).toInt = (nI 4).toInt) = False := eq_false (by decide)
theorem q8_1_5 : ((nI 1).toInt = (nI 5).toInt) = False := eq_false (by decide)
theorem q8_1_6 : ((nI 1).toInt = (nI 6).toInt) = False := eq_false (by decide)
theorem q8_1_7 : ((nI 1).toInt = (nI 7).toInt) = False := eq_false (by decide)
theorem q8z_1 : ((nI 1).toInt = 0) = False := eq_false (by decide)
theorem q8l_1 : ((nI 4).toInt ≤ (nI 1).toInt) = False := eq_false (by decide)
theorem q8_2_0 : ((nI 2).toInt = (nI 0).toInt) = False := eq_false (by decide)
theorem q8_2_1 : ((nI 2).toInt = (nI 1).toInt) = False := eq_false (by decide)
theorem q8_2_3 : ((nI 2).toInt = (nI 3).toInt) = False := eq_false (by decide)
theorem q8_2_4 : ((nI 2).toInt = (nI 4).toInt) = False := eq_false (by decide)
theorem q8_2_5 : ((nI 2).toInt = (nI 5).toInt) = False := eq_false (by decide)
theorem q8_2_6 : ((nI 2).toInt = (nI 6).toInt) = False := eq_false (by decide)
theorem q8_2_7 : ((nI 2).toInt = (nI 7).toInt) = False := eq_false (by decide)
theorem q8z_2 : ((nI 2).toInt = 0) = False := eq_false (by decide)
theorem q8l_2 : ((nI 4).toInt ≤ (nI 2).toInt) = False := eq_false (by decide)
theorem q8_3_0 : ((nI 3).toInt = (nI 0).toInt) = False := eq_false (by decide)
theorem q8_3_1 : ((nI 3).toInt = (nI 1).toInt) = False := eq_false (by decide)
theorem q8_3_2 : ((nI 3).toInt = (nI 2).toInt) = False := eq_false (by decide)
theorem q8_3_4 : ((nI 3).toInt = (nI 4).toInt) = False := eq_false (by decide)
theorem q8_3_5 : ((nI 3).toInt = (nI 5).toInt) = False := eq_false (by decide)
theorem q8_3_6 : ((nI 3).toInt = (nI 6).toInt) = False := eq_false (by decide)
theorem q8_3_7 : ((nI 3).toInt = (nI 7).toInt) = False := eq_false (by decide)
theorem q8z_3 : ((nI 3).toInt = 0) = False := eq_false (by decide)
theorem q8l_3 : ((nI 4).toInt ≤ (nI 3).toInt) = False := eq_false (by decide)
theorem q8_4_0 : ((nI 4).toInt = (nI 0).toInt) = False := eq_false (by decide)
theorem q8_4_1 : ((nI 4).toInt = (nI 1).toInt) = False := eq_false (by decide)
theorem q8_4_2 : ((nI 4).toInt = (nI 2).toInt) = False := eq_false (by decide)
theorem q8_4_3 : ((nI 4).toInt = (nI 3).toInt) = False := eq_false (by decide)
theorem q8_4_5 : ((nI 4).toInt = (nI 5).toInt) = False := eq_false (by decide)
theorem q8_4_6 : ((nI 4).toInt = (nI 6).toInt) = False := eq_false (by decide)
theorem q8_4_7 : ((nI 4).toInt = (nI 7).toInt) = False := eq_false (by decide)
theorem q8z_4 : ((nI 4).toInt = 0) = False := eq_false (by decide)
theorem q8l_4 : ((nI 4).toInt ≤ (nI 4).toInt) = True := eq_true (by decide)
theorem q8_5_0 : ((nI 5).toInt = (nI 0).toInt) = False := eq_false (by decide)
theorem q8_5_1 : ((nI 5).toInt = (nI 1).toInt) = False := eq_false (by decide)
theorem q8_5_2 : ((nI 5).toInt = (nI 2).toInt) = False := eq_false (by decide)
theorem q8_5_3 : ((nI 5).toInt = (nI 3).toInt) = False := eq_false (by decide)
theorem q8_5_4 : ((nI 5).toInt = (nI 4).toInt) = False := eq_false (by decide)
theorem q8_5_6 : ((nI 5).toInt = (nI 6).toInt) = False := eq_false (by decide)
theorem q8_5_7 : ((nI 5).toInt = (nI 7).toInt) = False := eq_false (by decide)
theorem q8z_5 : ((nI 5).toInt = 0) = False := eq_false (by decide)
theorem q8l_5 : ((nI 4).toInt ≤ (nI 5).toInt) = True := eq_true (by decide)
theorem q8_6_0 : ((nI 6).toInt = (nI 0).toInt) = False := eq_false (by decide)
theorem q8_6_1 : ((nI 6).toInt = (nI 1).toInt) = False := eq_false (by decide)
theorem q8_6_2 : ((nI 6).toInt = (nI 2).toInt) = False := eq_false (by decide)
theorem q8_6_3 : ((nI 6).toInt = (nI 3).toInt) = False := eq_false (by decide)
theorem q8_6_4 : ((nI 6).toInt = (nI 4).toInt) = False := eq_false (by decide)
theorem q8_6_5 : ((nI 6).toInt = (nI 5).toInt) = False := eq_false (by decide)
theorem q8_6_7 : ((nI 6).toInt = (nI 7).toInt) = False := eq_false (by decide)
theorem q8z_6 : ((nI 6).toInt = 0) = False := eq_false (by decide)
theorem q8l_6 : ((nI 4).toInt ≤ (nI 6).toInt) = True := eq_true (by decide)
theorem q8_7_0 : ((nI 7).toInt = (nI 0).toInt) = False := eq_false (by decide)
theorem q8_7_1 : ((nI 7).toInt = (nI 1).toInt) = False := eq_false (by decide)
theorem q8_7_2 : ((nI 7).toInt = (nI 2).toInt) = False := eq_false (by decide)
theorem q8_7_3 : ((nI 7).toInt = (nI 3).toInt) = False := eq_false (by decide)
theorem q8_7_4 : ((nI 7).toInt = (nI 4).toInt) = False := eq_false (by decide)
theorem q8_7_5 : ((nI 7).toInt = (nI 5).toInt) = False := eq_false (by decide)
theorem q8_7_6 : ((nI 7).toInt = (nI 6).toInt) = False := eq_false (by decide)
theorem q8z_7 : ((nI 7).toInt = 0) = False := eq_false (by decide)
theorem q8l_7 : ((nI 4).toInt ≤ (nI 7).toInt) = True := eq_true (by decide)
theorem q8z_0 : ((nI 0).toInt = 0) = True := eq_true (by decide)
theorem sim_taste (e p a : Int32) : SIM (m_X10_taste e p a) (m_X11_taste e p a) := fun x y h => by
  obtain ⟨P, hP5, hP, hP2⟩ := h.G.P
  obtain ⟨E, hE1, hE, hE2⟩ := h.G.E
  have hx7 : x.1 2 7 = nI P := by rw [h.C.parties, hP]
  have hx9 : x.1 2 9 = nI E := by rw [h.C.eaters, hE]
  unfold m_X10_taste m_X11_taste
  simp only [lit_n, mI_lit]
  rcases eater_b e (x := x) (y := q_up y 163 0 (nI 0)) hx9 hE hE1 with ⟨q, q1, q2, e1, e2⟩ | ⟨e1, e2⟩
  · rcases party_b p (x := x) (y := q_up y 163 0 (nI 0)) hx7 hP hP5 with ⟨t, t1, t2, p1, p2⟩ | ⟨p1, p2⟩
    · rcases within_b a 0 9 (by omega) (by omega) with ⟨n, n0, n1, n2, w1, w2⟩ | ⟨w1, w2⟩
      · subst n2
        have z1 : q_ast x 11 50 (nI (q * 5 + t)) (nI n) = some (q_up x 11 (5 * q + t) (nI n)) := by rw [ast_n (by omega) (by omega), show q * 5 + t = 5 * q + t by omega]
        have hh : m_X11_held (nI n) (nI 0) (nI 9) (q_up y 163 0 (nI 0)) = some (nI n, q_up y 163 0 (nI 0)) := by rw [held_eq (by omega), hd_n (by omega) (by omega), Nat.min_eq_right n1]
        have y1 : q_ast (q_up y 163 0 (nI 0)) 164 136 (nI (86 + 5 * q + t)) (nI n - nI 5) = some (q_up (q_up y 163 0 (nI 0)) 164 (86 + (5 * q + t)) (nI n - nI 5)) := by rw [ast_n (by omega) (by omega), show 86 + 5 * q + t = 86 + (5 * q + t) by omega]
        refine ⟨nI 1, q_up (q_up x 11 (5 * q + t) (nI n)) 0 5 (nI 0), q_up (q_up (q_up y 163 0 (nI 0)) 164 (86 + (5 * q + t)) (nI n - nI 5)) 163 3 (nI 0), ?_, ?_, ?_⟩
        · unfold m_X10_forget
          simp only [lit_n, e1, q_bd_some, z10, if_false, p1, w1]
          rw [q2, t2]
          simp only [pk_mul, nI_add, z1, Option.bind_some, q_let, q_bd_some]
        · unfold m_X11_tasteBe
          simp only [lit_n, q_let, e2, q_bd_some, z10, if_false, p2, w2]
          rw [q2, t2]
          simp only [hh, q_bd_some, pk_mul, nI_add, y1, Option.bind_some]
        · have e4 : ∀ i, i < 136 → (q_up (q_up (q_up y 163 0 (nI 0)) 164 (86 + (5 * q + t)) (nI n - nI 5)) 163 3 (nI 0)).1 164 i = if i = 86 + (5 * q + t) then nI n - nI 5 else y.1 164 i := fun i _ => rfl
          have eg : ∀ i, i ≠ 0 → i ≠ 3 → (q_up (q_up (q_up y 163 0 (nI 0)) 164 (86 + (5 * q + t)) (nI n - nI 5)) 163 3 (nI 0)).1 163 i = y.1 163 i := fun i h1 h2 => by
            rw [q_up_1, if_pos rfl, upd_g, if_neg h2]; show upd (y.1 163) 0 (nI 0) i = _; rw [upd_g, if_neg h1]
          have tn : (nI n - nI 5).toInt = (n : Int) - 5 := by
            have t5 : (nI 5).toInt = 5 := rfl
            rw [i32_sub] <;> rw [nI_t (by omega), t5] <;> omega
          refine h.set (fun c h1 h2 => ?_) rfl rfl rfl (fun c h1 h2 => ?_) (fun i h1 h2 _ => eg i h1 h2) rfl ?_ ?_ ?_ ?_ ?_ ?_
          · rw [q_up_1, if_neg h1, q_up_1, if_neg (by omega)]
          · rw [q_up_1, if_neg h1, q_up_1, if_neg h2, q_up_1, if_neg h1]
          · exact ((h.C.upTaste (s := 5 * q + t) (X' := (q_up x 11 (5 * q + t) (nI n)).1) (v := nI n - nI 5) (w := nI n) (by omega) (Int32.sub_add_cancel _ _).symm (fun c => q_up_1) e4).fr (fun c a1 a2 => by rw [q_up_1, if_neg (by omega)])).gr (eg 6 (by omega) (by omega)) (eg 7 (by omega) (by omega)) (eg 8 (by omega) (by omega)) (eg 9 (by omega) (by omega)) (eg 10 (by omega) (by omega)) (eg 11 (by omega) (by omega))
          · exact (h.B.up h.G (86 + (5 * q + t)) (by omega) (by rw [bLo_t, bHi_t, tn]; omega) e4 (by omega) (by omega) (by omega) (by omega) (fun _ h => by rw [hE2] at h; omega)).gr (eg 6 (by omega) (by omega)) (eg 7 (by omega) (by omega))
          · rw [e4 0 (by omega), if_neg (by omega)]; exact h.w
          · exact h.G.mv (fun i hi => eg i (by omega) (by omega))
          · rw [eg 6 (by omega) (by omega)]; omega
          · rw [eg 7 (by omega) (by omega)]; omega
      · exact ⟨nI 0, x, q_up y 163 0 (nI 0), by simp only [e1, q_bd_some, z10, if_false, p1, w1, z00, if_true], by simp only [q_let, e2, q_bd_some, z10, if_false, p2, w2, z00, if_true], h.told⟩
    · exact ⟨nI 0, x, q_up y 163 0 (nI 0), by simp only [e1, q_bd_some, z10, if_false, p1, z00, if_true], by simp only [q_let, e2, q_bd_some, z10, if_false, p2, z00, if_true], h.told⟩
  · exact ⟨nI 0, x, q_up y 163 0 (nI 0), by simp only [e1, q_bd_some, z00, if_true], by simp only [q_let, e2, q_bd_some, z00, if_true], h.told⟩
/-- a rule's number was told -/
theorem Rel.rule {x y : qS} {v w : Int32} (h : Rel x y) (s : Nat) (hs : s = 2 ∨ s = 3 ∨ s = 4 ∨ s = 5) (hv : (s = 2 ∨ s = 3 → v = w ∧ 0 ≤ w.toInt ∧ w.toInt ≤ 1000) ∧ (s = 4 → v = w + nI 9 ∧ -8 ≤ w.toInt ∧ w.toInt ≤ 90) ∧ (s = 5 → v = w + nI 4 ∧ -3 ≤ w.toInt ∧ w.toInt ≤ 48)) :
    Rel (q_up (q_up x 2 s v) 0 5 (nI 0)) (q_up (q_up (q_up y 163 0 (nI 0)) 163 (s + 6) w) 163 3 (nI 0)) := by
  have eg : ∀ i, i ≠ 0 → i ≠ 3 → i ≠ s + 6 → (q_up (q_up (q_up y 163 0 (nI 0)) 163 (s + 6) w) 163 3 (nI 0)).1 163 i = y.1 163 i := fun i h1 h2 h3 => by
    rw [q_up_1, if_pos rfl, upd_g, if_neg h2, q_up_1, if_pos rfl, upd_g, if_neg h3, q_up_1, if_pos rfl, upd_g, if_neg h1]
  have es : (q_up (q_up (q_up y 163 0 (nI 0)) 163 (s + 6) w) 163 3 (nI 0)).1 163 (s + 6) = w := by
    rw [q_up_1, if_pos rfl, upd_g, if_neg (by omega), q_up_1, if_pos rfl, upd_g, if_pos rfl]
  have e2 : ∀ i, i ≠ s → (q_up (q_up x 2 s v) 0 5 (nI 0)).1 2 i = x.1 2 i := fun i hi => by rw [q_up_1, if_neg (by omega), q_up_1, if_pos rfl, upd_g, if_neg hi]
  have e2s : (q_up (q_up x 2 s v) 0 5 (nI 0)).1 2 s = v := by rw [q_up_1, if_neg (by omega), q_up_1, if_pos rfl, upd_g, if_pos rfl]
  have hC := h.C
  have hG := h.G
  refine h.set (fun c h1 h2 => ?_) rfl rfl rfl (fun c h1 h2 => ?_) (fun i h1 h2 h3 => eg i h1 h2 (by omega)) ?_ ?_ ?_ h.w ?_ ?_ ?_
  · rw [q_up_1, if_neg h1, q_up_1, if_neg (by omega)]
  · rw [q_up_1, if_neg h1, q_up_1, if_neg h1, q_up_1, if_neg h1]
  · rw [q_up_1, if_pos rfl, upd_g, if_pos rfl]
  · have C0 : RC 2 (q_up x 0 5 (nI 0)).1 (y.1 164) (y.1 163) := hC.fr (fun c a1 a2 => by rw [q_up_1, if_neg (by omega)])
    refine RC.fld (s := s) (v := v) C0 (by omega) (fun c => ?_) (eg 7 (by omega) (by omega) (by omega)) ?_ ?_ ?_ ?_ ?_
    · by_cases h0 : c = 0
      · subst h0; rfl
      · rw [q_up_1, if_neg h0, q_up_1]
        split
        · rfl
        · rw [q_up_1, if_neg h0]
    · by_cases hs2 : s = 2
      · subst hs2; rw [e2s, es]; exact (hv.1 (by omega)).1
      · rw [e2 2 (by omega), eg 8 (by omega) (by omega) (by omega)]; exact hC.bad
    · by_cases hs2 : s = 3
      · subst hs2; rw [e2s, es]; exact (hv.1 (by omega)).1
      · rw [e2 3 (by omega), eg 9 (by omega) (by omega) (by omega)]; exact hC.wasps
    · by_cases hs2 : s = 4
      · subst hs2; rw [e2s, es]; exact (hv.2.1 rfl).1
      · rw [e2 4 (by omega), eg 10 (by omega) (by omega) (by omega)]; exact hC.chairs
    · by_cases hs2 : s = 5
      · subst hs2; rw [e2s, es]; exact (hv.2.2 rfl).1
      · rw [e2 5 (by omega), eg 11 (by omega) (by omega) (by omega)]; exact hC.every
    · rw [e2 7 (by omega), eg 6 (by omega) (by omega) (by omega)]; exact hC.parties
  · exact (h.B.rw (fun _ _ => rfl)).gr (eg 6 (by omega) (by omega) (by omega)) (eg 7 (by omega) (by omega) (by omega))
  · refine ⟨?_, ?_, ?_, ?_, ?_, ?_⟩
    · rw [eg 6 (by omega) (by omega) (by omega)]; exact hG.1
    · rw [eg 7 (by omega) (by omega) (by omega)]; exact hG.2.1
    · by_cases hs2 : s = 2
      · subst hs2; rw [es]; exact (hv.1 (by omega)).2
      · rw [eg 8 (by omega) (by omega) (by omega)]; exact hG.2.2.1
    · by_cases hs2 : s = 3
      · subst hs2; rw [es]; exact (hv.1 (by omega)).2
      · rw [eg 9 (by omega) (by omega) (by omega)]; exact hG.2.2.2.1
    · by_cases hs2 : s = 4
      · subst hs2; rw [es]; exact (hv.2.1 rfl).2
      · rw [eg 10 (by omega) (by omega) (by omega)]; exact hG.2.2.2.2.1
    · by_cases hs2 : s = 5
      · subst hs2; rw [es]; exact (hv.2.2 rfl).2
      · rw [eg 11 (by omega) (by omega) (by omega)]; exact hG.2.2.2.2.2
  · rw [eg 6 (by omega) (by omega) (by omega)]; omega
  · rw [eg 7 (by omega) (by omega) (by omega)]; omega
theorem sim_set (wh who a : Int32) : SIM (m_X10_set wh who a) (m_X11_set wh who a) := fun x y h => by
  obtain ⟨P, hP5, hP, hP2⟩ := h.G.P
  obtain ⟨E, hE1, hE, hE2⟩ := h.G.E
  obtain ⟨T, hT4, hT, hT2⟩ := h.B.trees
  have hx7 : x.1 2 7 = nI P := by rw [h.C.parties, hP]
  have hx9 : x.1 2 9 = nI E := by rw [h.C.eaters, hE]
  have hx8 : x.1 2 8 = nI T := by rw [h.C.trees, hT]
  have pb := party_b who (x := x) (y := q_up y 163 0 (nI 0)) hx7 hP hP5
  have eb := eater_b who (x := x) (y := q_up y 163 0 (nI 0)) hx9 hE hE1
  have tb := tree_b who (x := x) (y := q_up y 163 0 (nI 0)) hx8 hT hT4
  have s4 : ∀ q, q < 14 → ∀ (u : qS) z, q_ast u 9 14 (nI q) z = some (q_up u 9 q z) := fun q hq u z => ast_n hq (by omega)
  have s5 : ∀ q, q < 10 → ∀ (u : qS) z, q_ast u 10 10 (nI q) z = some (q_up u 10 q z) := fun q hq u z => ast_n hq (by omega)
  have s6 : ∀ q, q < 5 → ∀ (u : qS) z, q_ast u 3 5 (nI q) z = some (q_up u 3 q z) := fun q hq u z => ast_n hq (by omega)
  have s7 : ∀ q, q < 5 → ∀ (u : qS) z, q_ast u 4 5 (nI q) z = some (q_up u 4 q z) := fun q hq u z => ast_n hq (by omega)
  have r4 : ∀ j, j < 136 → ∀ (u : qS) z, q_ast u 164 136 (nI j) z = some (q_up u 164 j z) := fun j hj u z => ast_n hj (by omega)
  unfold m_X10_set m_X0_setValue m_X0_setRule m_X10_forget m_X11_set m_X11_canSet
  simp only [lit_n]
  by_cases hw : 0 ≤ wh.toInt ∧ wh.toInt ≤ 7
  · obtain ⟨kk, k1, k2, -⟩ := nI_ex (x := wh) (b := 7) hw.1 hw.2 (by omega)
    subst k2
    have hkk : kk = 0 ∨ kk = 1 ∨ kk = 2 ∨ kk = 3 ∨ kk = 4 ∨ kk = 5 ∨ kk = 6 ∨ kk = 7 := by omega
    have w67 : ∀ v, m_X11_isIn (nI 6) (nI 6) (nI 7) v = some (nI 1, v) := fun v => by unfold m_X11_isIn; rw [if_neg (by decide), if_neg (by decide)]; rfl
    have w77 : ∀ v, m_X11_isIn (nI 7) (nI 6) (nI 7) v = some (nI 1, v) := fun v => by unfold m_X11_isIn; rw [if_neg (by decide), if_neg (by decide)]; rfl
    rcases hkk with rfl | rfl | rfl | rfl | rfl | rfl | rfl | rfl
    · rcases within_b a 0 1000 (by omega) (by omega) with ⟨n, n0, n1, n2, w1, w2⟩ | ⟨w1, w2⟩
      · subst n2
        refine ⟨nI 1, q_up (q_up x 2 2 (nI n)) 0 5 (nI 0), q_up (q_up (q_up y 163 0 (nI 0)) 163 (2 + 6) (nI n)) 163 3 (nI 0), ?_, ?_, h.rule 2 (by omega) ?_⟩
        · simp only [q_jn_c, q_jn_0, q_jn_1, q_let, q_bd_some, Option.bind_some, if_true, if_false, z10, z00, bz_0, bz_1, nI_add, q8_0_1, q8_0_2, q8_0_3, q8_0_4, q8_0_5, q8_0_6, q8_0_7, q8l_0, q8z_0, w1]
        · simp only [q_jn_c, q_jn_0, q_jn_1, q_let, q_bd_some, Option.bind_some, if_true, if_false, z10, z00, bz_0, bz_1, nI_add, q8_0_1, q8_0_2, q8_0_3, q8_0_4, q8_0_5, q8_0_6, q8_0_7, q8l_0, q8z_0, w2]
        · exact ⟨fun _ => ⟨rfl, by rw [nI_t (by omega)]; omega, by rw [nI_t (by omega)]; omega⟩, fun h => by omega, fun h => by omega⟩
      · exact ⟨nI 0, x, q_up y 163 0 (nI 0), by simp only [q_jn_c, q_jn_0, q_jn_1, q_let, q_bd_some, Option.bind_some, if_true, if_false, z10, z00, bz_0, bz_1, nI_add, q8_0_1, q8_0_2, q8_0_3, q8_0_4, q8_0_5, q8_0_6, q8_0_7, q8l_0, q8z_0, w1], by simp only [q_jn_c, q_jn_0, q_jn_1, q_let, q_bd_some, Option.bind_some, if_true, if_false, z10, z00, bz_0, bz_1, nI_add, q8_0_1, q8_0_2, q8_0_3, q8_0_4, q8_0_5, q8_0_6, q8_0_7, q8l_0, q8z_0, w2], h.told⟩
    · rcases within_b a 0 1000 (by omega) (by omega) with ⟨n, n0, n1, n2, w1, w2⟩ | ⟨w1, w2⟩
      · subst n2
        refine ⟨nI 1, q_up (q_up x 2 3 (nI n)) 0 5 (nI 0), q_up (q_up (q_up y 163 0 (nI 0)) 163 (3 + 6) (nI n)) 163 3 (nI 0), ?_, ?_, h.rule 3 (by omega) ?_⟩
        · simp only [q_jn_c, q_jn_0, q_jn_1, q_let, q_bd_some, Option.bind_some, if_true, if_false, z10, z00, bz_0, bz_1, nI_add, q8_1_0, q8_1_2, q8_1_3, q8_1_4, q8_1_5, q8_1_6, q8_1_7, q8z_1, q8l_1, w1]
        · simp only [q_jn_c, q_jn_0, q_jn_1, q_let, q_bd_some, Option.bind_some, if_true, if_false, z10, z00, bz_0, bz_1, nI_add, q8_1_0, q8_1_2, q8_1_3, q8_1_4, q8_1_5, q8_1_6, q8_1_7, q8z_1, q8l_1, w2]
        · exact ⟨fun _ => ⟨rfl, by rw [nI_t (by omega)]; omega, by rw [nI_t (by omega)]; omega⟩, fun h => by omega, fun h => by omega⟩
      · exact ⟨nI 0, x, q_up y 163 0 (nI 0), by simp only [q_jn_c, q_jn_0, q_jn_1, q_let, q_bd_some, Option.bind_some, if_true, if_false, z10, z00, bz_0, bz_1, nI_add, q8_1_0, q8_1_2, q8_1_3, q8_1_4, q8_1_5, q8_1_6, q8_1_7, q8z_1, q8l_1, w1], by simp only [q_jn_c, q_jn_0, q_jn_1, q_let, q_bd_some, Option.bind_some, if_true, if_false, z10, z00, bz_0, bz_1, nI_add, q8_1_0, q8_1_2, q8_1_3, q8_1_4, q8_1_5, q8_1_6, q8_1_7, q8z_1, q8l_1, w2], h.told⟩
    · rcases within_b a 1 99 (by omega) (by omega) with ⟨n, n0, n1, n2, w1, w2⟩ | ⟨w1, w2⟩
      · subst n2
        refine ⟨nI 1, q_up (q_up x 2 4 (nI n)) 0 5 (nI 0), q_up (q_up (q_up y 163 0 (nI 0)) 163 (4 + 6) (nI n - nI 9)) 163 3 (nI 0), ?_, ?_, h.rule 4 (by omega) ?_⟩
        · simp only [q_jn_c, q_jn_0, q_jn_1, q_let, q_bd_some, Option.bind_some, if_true, if_false, z10, z00, bz_0, bz_1, nI_add, q8_2_0, q8_2_1, q8_2_3, q8_2_4, q8_2_5, q8_2_6, q8_2_7, q8z_2, q8l_2, w1]
        · simp only [q_jn_c, q_jn_0, q_jn_1, q_let, q_bd_some, Option.bind_some, if_true, if_false, z10, z00, bz_0, bz_1, nI_add, q8_2_0, q8_2_1, q8_2_3, q8_2_4, q8_2_5, q8_2_6, q8_2_7, q8z_2, q8l_2, w2]
        · have t9 : (nI 9).toInt = 9 := rfl
          have tn : (nI n - nI 9).toInt = (n : Int) - 9 := by rw [i32_sub] <;> rw [nI_t (by omega), t9] <;> omega
          exact ⟨fun h => by omega, fun _ => ⟨(Int32.sub_add_cancel _ _).symm, by rw [tn]; omega, by rw [tn]; omega⟩, fun h => by omega⟩
      · exact ⟨nI 0, x, q_up y 163 0 (nI 0), by simp only [q_jn_c, q_jn_0, q_jn_1, q_let, q_bd_some, Option.bind_some, if_true, if_false, z10, z00, bz_0, bz_1, nI_add, q8_2_0, q8_2_1, q8_2_3, q8_2_4, q8_2_5, q8_2_6, q8_2_7, q8z_2, q8l_2, w1], by simp only [q_jn_c, q_jn_0, q_jn_1, q_let, q_bd_some, Option.bind_some, if_true, if_false, z10, z00, bz_0, bz_1, nI_add, q8_2_0, q8_2_1, q8_2_3, q8_2_4, q8_2_5, q8_2_6, q8_2_7, q8z_2, q8l_2, w2], h.told⟩
    · rcases within_b a 1 52 (by omega) (by omega) with ⟨n, n0, n1, n2, w1, w2⟩ | ⟨w1, w2⟩
      · subst n2
        refine ⟨nI 1, q_up (q_up x 2 5 (nI n)) 0 5 (nI 0), q_up (q_up (q_up y 163 0 (nI 0)) 163 (5 + 6) (nI n - nI 4)) 163 3 (nI 0), ?_, ?_, h.rule 5 (by omega) ?_⟩
        · simp only [q_jn_c, q_jn_0, q_jn_1, q_let, q_bd_some, Option.bind_some, if_true, if_false, z10, z00, bz_0, bz_1, nI_add, q8_3_0, q8_3_1, q8_3_2, q8_3_4, q8_3_5, q8_3_6, q8_3_7, q8z_3, q8l_3, w1]
        · simp only [q_jn_c, q_jn_0, q_jn_1, q_let, q_bd_some, Option.bind_some, if_true, if_false, z10, z00, bz_0, bz_1, nI_add, q8_3_0, q8_3_1, q8_3_2, q8_3_4, q8_3_5, q8_3_6, q8_3_7, q8z_3, q8l_3, w2]
        · have t4 : (nI 4).toInt = 4 := rfl
          have tn : (nI n - nI 4).toInt = (n : Int) - 4 := by rw [i32_sub] <;> rw [nI_t (by omega), t4] <;> omega
          exact ⟨fun h => by omega, fun h => by omega, fun _ => ⟨(Int32.sub_add_cancel _ _).symm, by rw [tn]; omega, by rw [tn]; omega⟩⟩
      · exact ⟨nI 0, x, q_up y 163 0 (nI 0), by simp only [q_jn_c, q_jn_0, q_jn_1, q_let, q_bd_some, Option.bind_some, if_true, if_false, z10, z00, bz_0, bz_1, nI_add, q8_3_0, q8_3_1, q8_3_2, q8_3_4, q8_3_5, q8_3_6, q8_3_7, q8z_3, q8l_3, w1], by simp only [q_jn_c, q_jn_0, q_jn_1, q_let, q_bd_some, Option.bind_some, if_true, if_false, z10, z00, bz_0, bz_1, nI_add, q8_3_0, q8_3_1, q8_3_2, q8_3_4, q8_3_5, q8_3_6, q8_3_7, q8z_3, q8l_3, w2], h.told⟩
    · rcases tb with ⟨q, q1, q2, p1, p2⟩ | ⟨p1, p2⟩
      · rcases within_b a 0 99 (by omega) (by omega) with ⟨n, n0, n1, n2, w1, w2⟩ | ⟨w1, w2⟩
        · subst n2
          subst q2
          refine ⟨nI 1, q_up (q_up x (2 + 7) q (nI n)) 0 5 (nI 0), q_up (q_up (q_up y 163 0 (nI 0)) 164 (62 + q) (nI n)) 163 3 (nI 0), ?_, ?_, h.slot (62 + q) 7 q (by omega) (by unfold cC; simp (disch := omega) only [if_pos, if_neg]) (by unfold cS; simp (disch := omega) only [if_pos, if_neg]; omega) (by omega) (by rw [nI_t (by omega), bLo_0 (by omega) (by omega), bHi_h (by omega)]; omega) (by omega) (by omega) (by omega) (by omega)⟩
          · simp only [q_jn_c, q_jn_0, q_jn_1, q_let, q_bd_some, Option.bind_some, if_true, if_false, z10, z00, bz_0, bz_1, nI_add, q8_4_0, q8_4_1, q8_4_2, q8_4_3, q8_4_5, q8_4_6, q8_4_7, q8z_4, q8l_4, p1, w1, s4 q (by omega)]
          · simp only [q_jn_c, q_jn_0, q_jn_1, q_let, q_bd_some, Option.bind_some, if_true, if_false, z10, z00, bz_0, bz_1, nI_add, q8_4_0, q8_4_1, q8_4_2, q8_4_3, q8_4_5, q8_4_6, q8_4_7, q8z_4, q8l_4, p2, w2, r4 (62 + q) (by omega)]
        · exact ⟨nI 0, x, q_up y 163 0 (nI 0), by simp only [q_jn_c, q_jn_0, q_jn_1, q_let, q_bd_some, Option.bind_some, if_true, if_false, z10, z00, bz_0, bz_1, nI_add, q8_4_0, q8_4_1, q8_4_2, q8_4_3, q8_4_5, q8_4_6, q8_4_7, q8z_4, q8l_4, p1, w1], by simp only [q_jn_c, q_jn_0, q_jn_1, q_let, q_bd_some, Option.bind_some, if_true, if_false, z10, z00, bz_0, bz_1, nI_add, q8_4_0, q8_4_1, q8_4_2, q8_4_3, q8_4_5, q8_4_6, q8_4_7, q8z_4, q8l_4, p2, w2], h.told⟩
      · exact ⟨nI 0, x, q_up y 163 0 (nI 0), by simp only [q_jn_c, q_jn_0, q_jn_1, q_let, q_bd_some, Option.bind_some, if_true, if_false, z10, z00, bz_0, bz_1, nI_add, q8_4_0, q8_4_1, q8_4_2, q8_4_3, q8_4_5, q8_4_6, q8_4_7, q8z_4, q8l_4, p1], by simp only [q_jn_c, q_jn_0, q_jn_1, q_let, q_bd_some, Option.bind_some, if_true, if_false, z10, z00, bz_0, bz_1, nI_add, q8_4_0, q8_4_1, q8_4_2, q8_4_3, q8_4_5, q8_4_6, q8_4_7, q8z_4, q8l_4, p2], h.told⟩
    · rcases eb with ⟨q, q1, q2, p1, p2⟩ | ⟨p1, p2⟩
      · rcases within_b a 0 20 (by omega) (by omega) with ⟨n, n0, n1, n2, w1, w2⟩ | ⟨w1, w2⟩
        · subst n2
          subst q2
          refine ⟨nI 1, q_up (q_up x (2 + 8) q (nI n)) 0 5 (nI 0), q_up (q_up (q_up y 163 0 (nI 0)) 164 (76 + q) (nI n)) 163 3 (nI 0), ?_, ?_, h.slot (76 + q) 8 q (by omega) (by unfold cC; simp (disch := omega) only [if_pos, if_neg]) (by unfold cS; simp (disch := omega) only [if_pos, if_neg]; omega) (by omega) (by rw [nI_t (by omega), bLo_0 (by omega) (by omega), bHi_u (by omega)]; omega) (by omega) (by omega) (by omega) (by omega)⟩
          · simp only [q_jn_c, q_jn_0, q_jn_1, q_let, q_bd_some, Option.bind_some, if_true, if_false, z10, z00, bz_0, bz_1, nI_add, q8_5_0, q8_5_1, q8_5_2, q8_5_3, q8_5_4, q8_5_6, q8_5_7, q8z_5, q8l_5, p1, w1, s5 q (by omega)]
          · simp only [q_jn_c, q_jn_0, q_jn_1, q_let, q_bd_some, Option.bind_some, if_true, if_false, z10, z00, bz_0, bz_1, nI_add, q8_5_0, q8_5_1, q8_5_2, q8_5_3, q8_5_4, q8_5_6, q8_5_7, q8z_5, q8l_5, p2, w2, r4 (76 + q) (by omega)]
        · exact ⟨nI 0, x, q_up y 163 0 (nI 0), by simp only [q_jn_c, q_jn_0, q_jn_1, q_let, q_bd_some, Option.bind_some, if_true, if_false, z10, z00, bz_0, bz_1, nI_add, q8_5_0, q8_5_1, q8_5_2, q8_5_3, q8_5_4, q8_5_6, q8_5_7, q8z_5, q8l_5, p1, w1], by simp only [q_jn_c, q_jn_0, q_jn_1, q_let, q_bd_some, Option.bind_some, if_true, if_false, z10, z00, bz_0, bz_1, nI_add, q8_5_0, q8_5_1, q8_5_2, q8_5_3, q8_5_4, q8_5_6, q8_5_7, q8z_5, q8l_5, p2, w2], h.told⟩
      · exact ⟨nI 0, x, q_up y 163 0 (nI 0), by simp only [q_jn_c, q_jn_0, q_jn_1, q_let, q_bd_some, Option.bind_some, if_true, if_false, z10, z00, bz_0, bz_1, nI_add, q8_5_0, q8_5_1, q8_5_2, q8_5_3, q8_5_4, q8_5_6, q8_5_7, q8z_5, q8l_5, p1], by simp only [q_jn_c, q_jn_0, q_jn_1, q_let, q_bd_some, Option.bind_some, if_true, if_false, z10, z00, bz_0, bz_1, nI_add, q8_5_0, q8_5_1, q8_5_2, q8_5_3, q8_5_4, q8_5_6, q8_5_7, q8z_5, q8l_5, p2], h.told⟩
    · rcases pb with ⟨q, q1, q2, p1, p2⟩ | ⟨p1, p2⟩
      · rcases within_b a 0 999 (by omega) (by omega) with ⟨n, n0, n1, n2, w1, w2⟩ | ⟨w1, w2⟩
        · subst n2
          subst q2
          refine ⟨nI 1, q_up (q_up x (2 + 1) q (nI n)) 0 5 (nI 0), q_up (q_up (q_up y 163 0 (nI 0)) 164 (15 + q) (nI n)) 163 3 (nI 0), ?_, ?_, h.slot (15 + q) 1 q (by omega) (by unfold cC; simp (disch := omega) only [if_pos, if_neg]) (by unfold cS; simp (disch := omega) only [if_pos, if_neg]; omega) (by omega) (by rw [nI_t (by omega), bLo_0 (by omega) (by omega), bHi_j (by omega)]; omega) (by omega) (by omega) (by omega) (by omega)⟩
          · simp only [q_jn_c, q_jn_0, q_jn_1, q_let, q_bd_some, Option.bind_some, if_true, if_false, z10, z00, bz_0, bz_1, nI_add, q8_6_0, q8_6_1, q8_6_2, q8_6_3, q8_6_4, q8_6_5, q8_6_7, q8z_6, q8l_6, p1, w1, s6 q (by omega)]
          · simp only [q_jn_c, q_jn_0, q_jn_1, q_let, q_bd_some, Option.bind_some, if_true, if_false, z10, z00, bz_0, bz_1, nI_add, q8_6_0, q8_6_1, q8_6_2, q8_6_3, q8_6_4, q8_6_5, q8_6_7, q8z_6, q8l_6, p2, w2, r4 (15 + q) (by omega), w67]
        · exact ⟨nI 0, x, q_up y 163 0 (nI 0), by simp only [q_jn_c, q_jn_0, q_jn_1, q_let, q_bd_some, Option.bind_some, if_true, if_false, z10, z00, bz_0, bz_1, nI_add, q8_6_0, q8_6_1, q8_6_2, q8_6_3, q8_6_4, q8_6_5, q8_6_7, q8z_6, q8l_6, p1, w1], by simp only [q_jn_c, q_jn_0, q_jn_1, q_let, q_bd_some, Option.bind_some, if_true, if_false, z10, z00, bz_0, bz_1, nI_add, q8_6_0, q8_6_1, q8_6_2, q8_6_3, q8_6_4, q8_6_5, q8_6_7, q8z_6, q8l_6, p2, w2, w67], h.told⟩
      · exact ⟨nI 0, x, q_up y 163 0 (nI 0), by simp only [q_jn_c, q_jn_0, q_jn_1, q_let, q_bd_some, Option.bind_some, if_true, if_false, z10, z00, bz_0, bz_1, nI_add, q8_6_0, q8_6_1, q8_6_2, q8_6_3, q8_6_4, q8_6_5, q8_6_7, q8z_6, q8l_6, p1], by simp only [q_jn_c, q_jn_0, q_jn_1, q_let, q_bd_some, Option.bind_some, if_true, if_false, z10, z00, bz_0, bz_1, nI_add, q8_6_0, q8_6_1, q8_6_2, q8_6_3, q8_6_4, q8_6_5, q8_6_7, q8z_6, q8l_6, p2, w67], h.told⟩
    · rcases pb with ⟨q, q1, q2, p1, p2⟩ | ⟨p1, p2⟩
      · rcases within_b a 0 9999 (by omega) (by omega) with ⟨n, n0, n1, n2, w1, w2⟩ | ⟨w1, w2⟩
        · subst n2
          subst q2
          refine ⟨nI 1, q_up (q_up x (2 + 2) q (nI n)) 0 5 (nI 0), q_up (q_up (q_up y 163 0 (nI 0)) 164 (5 + q) (nI n)) 163 3 (nI 0), ?_, ?_, h.slot (5 + q) 2 q (by omega) (by unfold cC; simp (disch := omega) only [if_pos, if_neg]) (by unfold cS; simp (disch := omega) only [if_pos, if_neg]; omega) (by omega) (by rw [nI_t (by omega), bLo_0 (by omega) (by omega), bHi_v (by omega)]; omega) (by omega) (by omega) (fun _ _ h => by rw [hP2] at h; omega) (by omega)⟩
          · simp only [q_jn_c, q_jn_0, q_jn_1, q_let, q_bd_some, Option.bind_some, if_true, if_false, z10, z00, bz_0, bz_1, nI_add, q8_7_0, q8_7_1, q8_7_2, q8_7_3, q8_7_4, q8_7_5, q8_7_6, q8z_7, q8l_7, p1, w1, s7 q (by omega)]
          · simp only [q_jn_c, q_jn_0, q_jn_1, q_let, q_bd_some, Option.bind_some, if_true, if_false, z10, z00, bz_0, bz_1, nI_add, q8_7_0, q8_7_1, q8_7_2, q8_7_3, q8_7_4, q8_7_5, q8_7_6, q8z_7, q8l_7, p2, w2, r4 (5 + q) (by omega), w77]
        · exact ⟨nI 0, x, q_up y 163 0 (nI 0), by simp only [q_jn_c, q_jn_0, q_jn_1, q_let, q_bd_some, Option.bind_some, if_true, if_false, z10, z00, bz_0, bz_1, nI_add, q8_7_0, q8_7_1, q8_7_2, q8_7_3, q8_7_4, q8_7_5, q8_7_6, q8z_7, q8l_7, p1, w1], by simp only [q_jn_c, q_jn_0, q_jn_1, q_let, q_bd_some, Option.bind_some, if_true, if_false, z10, z00, bz_0, bz_1, nI_add, q8_7_0, q8_7_1, q8_7_2, q8_7_3, q8_7_4, q8_7_5, q8_7_6, q8z_7, q8l_7, p2, w2, w77], h.told⟩
      · exact ⟨nI 0, x, q_up y 163 0 (nI 0), by simp only [q_jn_c, q_jn_0, q_jn_1, q_let, q_bd_some, Option.bind_some, if_true, if_false, z10, z00, bz_0, bz_1, nI_add, q8_7_0, q8_7_1, q8_7_2, q8_7_3, q8_7_4, q8_7_5, q8_7_6, q8z_7, q8l_7, p1], by simp only [q_jn_c, q_jn_0, q_jn_1, q_let, q_bd_some, Option.bind_some, if_true, if_false, z10, z00, bz_0, bz_1, nI_add, q8_7_0, q8_7_1, q8_7_2, q8_7_3, q8_7_4, q8_7_5, q8_7_6, q8z_7, q8l_7, p2, w77], h.told⟩
  · have d : ∀ m : Nat, m ≤ 7 → ¬ wh.toInt = (nI m).toInt := fun m hm => by rw [nI_t (by omega)]; omega
    have d0 : ¬ wh.toInt = 0 := by omega
    have w0 : ∀ v, m_X11_isIn wh (nI 6) (nI 7) v = some (nI 0, v) := fun v => by
      unfold m_X11_isIn
      rw [nI_t (show 6 < 2147483648 by omega), nI_t (show 7 < 2147483648 by omega)]
      by_cases h1 : wh.toInt < ((6 : Nat) : Int)
      · rw [if_pos h1]; rfl
      · rw [if_neg h1, if_pos (by omega)]; rfl
    refine ⟨nI 0, x, q_up y 163 0 (nI 0), ?_, ?_, h.told⟩
    · by_cases h4 : (nI 4).toInt ≤ wh.toInt
      · simp only [q_jn_c, q_jn_0, q_jn_1, q_let, q_bd_some, Option.bind_some, if_true, if_false, z10, z00, bz_0, bz_1, nI_add, if_pos h4, if_neg (d 0 (by omega)), if_neg (d 1 (by omega)), if_neg (d 2 (by omega)), if_neg (d 3 (by omega)), if_neg (d 4 (by omega)), if_neg (d 5 (by omega)), if_neg (d 6 (by omega)), if_neg (d 7 (by omega))]
      · simp only [q_jn_c, q_jn_0, q_jn_1, q_let, q_bd_some, Option.bind_some, if_true, if_false, z10, z00, bz_0, bz_1, nI_add, if_neg h4, if_neg d0, if_neg (d 0 (by omega)), if_neg (d 1 (by omega)), if_neg (d 2 (by omega)), if_neg (d 3 (by omega)), if_neg (d 4 (by omega)), if_neg (d 5 (by omega)), if_neg (d 6 (by omega)), if_neg (d 7 (by omega))]
    · simp only [q_jn_c, q_jn_0, q_jn_1, q_let, q_bd_some, Option.bind_some, if_true, if_false, z10, z00, bz_0, bz_1, nI_add, if_neg d0, if_neg (d 0 (by omega)), if_neg (d 1 (by omega)), if_neg (d 2 (by omega)), if_neg (d 3 (by omega)), if_neg (d 4 (by omega)), if_neg (d 5 (by omega)), if_neg (d 6 (by omega)), if_neg (d 7 (by omega)), w0]
