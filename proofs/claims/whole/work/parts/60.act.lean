/-! LAYER 2: fences; what a plan's line does -/
section
variable {tr th tg : Bool} {k k2 : Nat} {u v : qS}
theorem fenced_c {q : Nat} (hC : RC k2 u.1 (v.1 164) (v.1 163)) (hB : BC (v.1 164) (v.1 163)) (hq : q < 10) : ∃ F b : Nat, F < 1024 ∧ b < 2 ∧ v.1 164 3 = nI F ∧ m_X0_isFenced k2 (nI q) u = some (nI b, u) ∧ m_X11_isFenced (nI q) v = some (nI b, v) ∧
    ((b = 0 ∧ nI F ^^^ (nI 1 <<< (nI q &&& nI 31)) = nI (F + 2 ^ q) ∧ nI F ||| (nI 1 <<< (nI q &&& nI 31)) = nI (F + 2 ^ q) ∧ F + 2 ^ q < 1024) ∨ (b = 1 ∧ nI F ^^^ (nI 1 <<< (nI q &&& nI 31)) = nI (F - 2 ^ q) ∧ nI F &&& ((nI 1 <<< (nI q &&& nI 31)) ^^^ mI) = nI (F - 2 ^ q) ∧ F - 2 ^ q < 1024)) := by
  obtain ⟨F, hF, F1, -⟩ := hB.fences
  have hc3 : u.1 k2 6 = nI F := by rw [hC.fences, F1]
  have a3 : q_ald v 164 136 (nI 3) = some (nI F) := by rw [ald_n (by omega) (by omega), F1]
  have n1 : (nI 0).toInt = (nI 1).toInt ↔ False := by decide
  rcases fence_t q hq F (by omega) with ⟨h1, h2, h3, h4⟩ | ⟨h1, h2, h3, h4⟩
  · refine ⟨F, 0, by omega, by omega, F1, ?_, ?_, Or.inl ⟨rfl, h2, h3, h4⟩⟩
    · unfold m_X0_isFenced
      simp only [lit_n, hc3, h1, n1, if_false]
    · unfold m_X11_isFenced m_X11_has
      simp only [lit_n, a3, Option.bind_some, h1, n1, if_false, q_bd_some, bz_0]
  · refine ⟨F, 1, by omega, by omega, F1, ?_, ?_, Or.inr ⟨rfl, h2, h3, h4⟩⟩
    · unfold m_X0_isFenced
      simp only [lit_n, hc3, h1, if_true]
    · unfold m_X11_isFenced m_X11_has
      simp only [lit_n, a3, Option.bind_some, h1, if_true, q_bd_some, bz_1]
theorem WQ.fences {F x : Nat} (h : WK tr th tg k k2 u v) (hS : ST tr k k2 u v) (hx : x < 1024) : WQ tr th tg k k2 u v (fun i => i = 3) (q_up u k2 6 (nI x)) (q_up v 164 3 (nI x)) :=
  WQ.up (c := 0) (s := 6) h hS.1 hS.2.1 3 (by omega) rfl rfl (by rw [nI_t (by omega), bLo_0 (by omega) (by omega)]; have : bHi 3 = 1023 := rfl; omega) (by omega) (by omega) (by omega) (by omega)
/-- a place is fenced (is = 1) or opened (is = 0) that wasn't so -/
theorem fence_s {q b : Nat} (hS : ST tr k k2 u v) (hW : WK tr th tg k k2 u v) (hq : q < 10) (hb : b < 2) (hf : m_X0_isFenced k2 (nI q) u = some (nI b, u)) : ∃ u2 v2, m_X0_turnFence k2 (nI q) u = some (nI 0, u2) ∧
    m_X11_fences (nI q) (nI (1 - b)) v = q_bd (m_X11_notes (nI (b + 1)) (nI q) (nI 0) v2) (fun _ z => some (nI 0, z)) ∧ WQ tr th tg k k2 u v (fun j => j = 3) u2 v2 := by
  obtain ⟨F, b2, hF, hb2, F1, e1, -, hc⟩ := fenced_c (k2 := k2) (u := u) (v := v) hW.1 hW.2.1 hq
  rw [e1] at hf
  have : b2 = b := nI_inj (by omega) (by omega) (Prod.mk.inj (Option.some.inj hf)).1
  subst this
  have hc3 : u.1 k2 6 = nI F := by rw [hW.1.fences, F1]
  have a3 : q_ald v 164 136 (nI 3) = some (nI F) := by rw [ald_n (by omega) (by omega), F1]
  have b3 : ∀ x, q_ast v 164 136 (nI 3) x = some (q_up v 164 3 x) := fun x => ast_n (by omega) (by omega)
  rcases hc with ⟨rfl, h2, h3, h4⟩ | ⟨rfl, h2, h3, h4⟩
  · refine ⟨_, _, ?_, ?_, WQ.fences (F := F) (x := F + 2 ^ q) hW hS h4⟩
    · unfold m_X0_turnFence
      simp only [lit_n, q_let, hc3, h2]
    · unfold m_X11_fences
      simp only [lit_n, mI_lit, q_jn, nI_e0 (show 1 - 0 < 2147483648 by omega), show ¬ (1 - 0 = 0) by omega, if_false, a3, Option.bind_some, h3, b3]
  · refine ⟨_, _, ?_, ?_, WQ.fences (F := F) (x := F - 2 ^ q) hW hS h4⟩
    · unfold m_X0_turnFence
      simp only [lit_n, q_let, hc3, h2]
    · unfold m_X11_fences
      simp only [lit_n, mI_lit, q_jn, nI_e0 (show 1 - 1 < 2147483648 by omega), show (1 - 1 = 0) by omega, if_true, a3, Option.bind_some, h3, b3]
theorem act_s {i : Nat} (hS : ST tr k k2 u v) (hW : WK tr th tg k k2 u v) (hi : i < 16) (hL : PL 23 u.1 v.1 (v.1 163) i) :
    ∃ u2 v2, m_X7_act k k2 (nI i) u = some (nI 0, u2) ∧ m_X11_does (nI (4 * i)) v = some (nI 0, v2) ∧ WQ tr th tg k k2 u v (fun j => j = 2 ∨ j = 3 ∨ j = 4 ∨ (15 ≤ j ∧ j < 86)) u2 v2 := by
  have hk := hS.1.k
  obtain ⟨d, q, o, hd5, -, hd, xd, xq, yq, xo, yo, hq10, hqP, hqE, hoP, ho1, ho99⟩ := hL
  have y1 : ∀ w : qS, w.1 179 = v.1 179 → q_ald w 179 128 (nI (4 * i + 1)) = some (nI d) := fun w hw => by rw [ald_n (by omega) (by omega), hw, hd]
  have y2 : q_ald v 179 128 (nI (4 * i + 2)) = some (nI q) := by rw [ald_n (by omega) (by omega), yq]
  have y3 : ∀ w : qS, w.1 179 = v.1 179 → q_ald w 179 128 (nI (4 * i + 3)) = some (nI o) := fun w hw => by rw [ald_n (by omega) (by omega), hw, yo]
  have fy : ∀ w : qS, FY tr v w → w.1 179 = v.1 179 := fun w hw => hw.1 179 (by omega) (by omega) (by omega) (Or.inr (by omega))
  have x1 : q_ald u 25 16 (nI i) = some (nI (if d = 0 then 257 else 258 + d)) := by rw [ald_n (by omega) (by omega), xd]
  have x2 : q_ald u 26 16 (nI i) = some (nI q) := by rw [ald_n (by omega) (by omega), xq]
  have x3 : q_ald u 27 16 (nI i) = some (nI o) := by rw [ald_n (by omega) (by omega), xo]
  obtain ⟨P, hP5, hP, hP2⟩ := hS.2.1.P
  obtain ⟨E, hE1, hE, hE2⟩ := hS.2.1.E
  rw [hP2] at hqP
  rw [hE2] at hqE
  obtain ⟨T, hT4, hT, hT2⟩ := hW.2.1.trees
  have xT : u.1 k2 8 = nI T := by rw [hW.1.trees, hT]
  have yT : q_ald v 164 136 (nI 4) = some (nI T) := by rw [ald_n (by omega) (by omega), hT]
  unfold m_X7_act m_X11_does
  have hd' : d = 0 ∨ d = 1 ∨ d = 2 ∨ d = 3 ∨ d = 4 := by omega
  rcases hd' with rfl | rfl | rfl | rfl | rfl
  · by_cases hT14 : T = 14
    · refine ⟨u, v, ?_, ?_, WQ.rfl' hW⟩
      · simp (disch := omega) only [lit_n, x1, x2, x3, Option.bind_some, if_true, xT, nI_ll, hT14, Nat.le_refl]
      · simp (disch := omega) only [lit_n, nI_add, ne01, ne02, ne03, ne04, ne05, ne10, ne12, ne13, ne14, ne15, ne20, ne21, ne23, ne24, ne25, ne30, ne31, ne32, ne34, ne35, ne40, ne41, ne42, ne43, ne45, ne50, ne51, ne52, ne53, ne54, y1 v rfl, y2, Option.bind_some, q_jn_c, q_jn_0, q_jn_1, q_jn_2, nI_e0, if_true, if_false, yT, nI_ll, hT14, Nat.le_refl, nI_ee]
    · obtain ⟨u2, v2, e1, w1, e2, e3⟩ := tree_s (p := q) (q := o) (a := 0) hS hW hT (by omega) hP hP5 (by omega) (by omega) (by omega)
      obtain ⟨u3, v3, e4, e5, w2⟩ := note_s (w := nI 0) (x := nI T) (y := nI 0) (w1.st hS) w1.2.2.1
      rw [e5, q_bd_some] at e2
      have w3 := w1.trans w2 (S3 := fun j => j = 2 ∨ j = 3 ∨ j = 4 ∨ (15 ≤ j ∧ j < 86)) (by omega)
      have z1 := y1 v3 (fy v3 w3.2.1)
      refine ⟨u3, v3, ?_, ?_, w3⟩
      · simp (disch := omega) only [lit_n, x1, x2, x3, Option.bind_some, if_true, xT, nI_ll, show ¬ (14 ≤ T) by omega, if_false, e1, q_bd_some, e4]
      · simp (disch := omega) only [lit_n, nI_add, ne01, ne02, ne03, ne04, ne05, ne10, ne12, ne13, ne14, ne15, ne20, ne21, ne23, ne24, ne25, ne30, ne31, ne32, ne34, ne35, ne40, ne41, ne42, ne43, ne45, ne50, ne51, ne52, ne53, ne54, y1 v rfl, y2, y3 v rfl, Option.bind_some, q_jn_c, q_jn_0, q_jn_1, q_jn_2, nI_e0, if_true, yT, nI_ll, show ¬ (14 ≤ T) by omega, if_false, nI_ee, e2, q_bd_some, z1]
  · obtain ⟨F, b, hF, hb, F1, f1, f2, hc⟩ := fenced_c (k2 := k2) (u := u) (v := v) (q := q) hW.1 hW.2.1 hq10
    have hb' : b = 0 ∨ b = 1 := by omega
    rcases hb' with rfl | rfl
    · obtain ⟨u2, v2, e1, e2, w1⟩ := fence_s hS hW hq10 (by omega) f1
      obtain ⟨u3, v3, e4, e5, w2⟩ := note_s (w := nI (0 + 1)) (x := nI q) (y := nI 0) (w1.st hS) w1.2.2.1
      rw [e5, q_bd_some] at e2
      have e2' : m_X11_fences (nI q) (nI 1) v = some (nI 0, v3) := e2
      have w3 := w1.trans w2 (S3 := fun j => j = 2 ∨ j = 3 ∨ j = 4 ∨ (15 ≤ j ∧ j < 86)) (by omega)
      have z1 := y1 v3 (fy v3 w3.2.1)
      refine ⟨u3, v3, ?_, ?_, w3⟩
      · simp (disch := omega) only [lit_n, x1, x2, x3, Option.bind_some, if_neg (show ¬ (1 = 0) by omega), nI_ee, show ¬ (258 + 1 = 257) by omega, show ¬ (258 + 1 = 261) by omega, show ¬ (258 + 1 = 262) by omega, show (258 + 1 = 259) by omega, if_false, if_true, f1, q_bd_some, q_jn_c, q_jn_0, q_jn_1, q_jn_2, show ¬ ((0 : Nat) = 1) by omega, e1]
        rw [show (nI 1) = nI (0 + 1) from rfl, e4, q_bd_some]
      · simp (disch := omega) only [lit_n, nI_add, ne01, ne02, ne03, ne04, ne05, ne10, ne12, ne13, ne14, ne15, ne20, ne21, ne23, ne24, ne25, ne30, ne31, ne32, ne34, ne35, ne40, ne41, ne42, ne43, ne45, ne50, ne51, ne52, ne53, ne54, y1 v rfl, y2, Option.bind_some, q_jn_c, q_jn_0, q_jn_1, q_jn_2, nI_e0, nI_ee, if_true, if_false, f2, e2', z1, q_bd_some]
    · refine ⟨u, v, ?_, ?_, WQ.rfl' hW⟩
      · simp (disch := omega) only [lit_n, x1, x2, x3, Option.bind_some, if_neg (show ¬ (1 = 0) by omega), nI_ee, show ¬ (258 + 1 = 257) by omega, show ¬ (258 + 1 = 261) by omega, show ¬ (258 + 1 = 262) by omega, show (258 + 1 = 259) by omega, if_false, if_true, f1, q_bd_some, q_jn_c, q_jn_0, q_jn_1, q_jn_2]
      · simp (disch := omega) only [lit_n, nI_add, ne01, ne02, ne03, ne04, ne05, ne10, ne12, ne13, ne14, ne15, ne20, ne21, ne23, ne24, ne25, ne30, ne31, ne32, ne34, ne35, ne40, ne41, ne42, ne43, ne45, ne50, ne51, ne52, ne53, ne54, y1 v rfl, y2, Option.bind_some, q_jn_c, q_jn_0, q_jn_1, q_jn_2, nI_e0, nI_ee, if_true, if_false, f2, q_bd_some]
  · obtain ⟨F, b, hF, hb, F1, f1, f2, hc⟩ := fenced_c (k2 := k2) (u := u) (v := v) (q := q) hW.1 hW.2.1 hq10
    have hb' : b = 0 ∨ b = 1 := by omega
    rcases hb' with rfl | rfl
    · refine ⟨u, v, ?_, ?_, WQ.rfl' hW⟩
      · simp (disch := omega) only [lit_n, x1, x2, x3, Option.bind_some, if_neg (show ¬ (2 = 0) by omega), nI_ee, show ¬ (258 + 2 = 257) by omega, show ¬ (258 + 2 = 261) by omega, show ¬ (258 + 2 = 262) by omega, show ¬ (258 + 2 = 259) by omega, if_false, if_true, f1, q_bd_some, q_jn_c, q_jn_0, q_jn_1, q_jn_2]
      · simp (disch := omega) only [lit_n, nI_add, ne01, ne02, ne03, ne04, ne05, ne10, ne12, ne13, ne14, ne15, ne20, ne21, ne23, ne24, ne25, ne30, ne31, ne32, ne34, ne35, ne40, ne41, ne42, ne43, ne45, ne50, ne51, ne52, ne53, ne54, y1 v rfl, y2, Option.bind_some, q_jn_c, q_jn_0, q_jn_1, q_jn_2, nI_e0, nI_ee, if_true, if_false, f2, q_bd_some]
    · obtain ⟨u2, v2, e1, e2, w1⟩ := fence_s hS hW hq10 (by omega) f1
      obtain ⟨u3, v3, e4, e5, w2⟩ := note_s (w := nI (1 + 1)) (x := nI q) (y := nI 0) (w1.st hS) w1.2.2.1
      rw [e5, q_bd_some] at e2
      have e2' : m_X11_fences (nI q) (nI 0) v = some (nI 0, v3) := e2
      have w3 := w1.trans w2 (S3 := fun j => j = 2 ∨ j = 3 ∨ j = 4 ∨ (15 ≤ j ∧ j < 86)) (by omega)
      have z1 := y1 v3 (fy v3 w3.2.1)
      refine ⟨u3, v3, ?_, ?_, w3⟩
      · simp (disch := omega) only [lit_n, x1, x2, x3, Option.bind_some, if_neg (show ¬ (2 = 0) by omega), nI_ee, show ¬ (258 + 2 = 257) by omega, show ¬ (258 + 2 = 261) by omega, show ¬ (258 + 2 = 262) by omega, show ¬ (258 + 2 = 259) by omega, if_false, if_true, f1, q_bd_some, q_jn_c, q_jn_0, q_jn_1, q_jn_2, show ¬ ((1 : Nat) = 0) by omega, e1]
        rw [show (nI 2) = nI (1 + 1) from rfl, e4, q_bd_some]
      · simp (disch := omega) only [lit_n, nI_add, ne01, ne02, ne03, ne04, ne05, ne10, ne12, ne13, ne14, ne15, ne20, ne21, ne23, ne24, ne25, ne30, ne31, ne32, ne34, ne35, ne40, ne41, ne42, ne43, ne45, ne50, ne51, ne52, ne53, ne54, y1 v rfl, y2, Option.bind_some, q_jn_c, q_jn_0, q_jn_1, q_jn_2, nI_e0, nI_ee, if_true, if_false, f2, e2', z1, q_bd_some]
  · obtain ⟨m, u2, v2, hm, e1, e2, w1⟩ := cook_s (p := q) (n := o) hS hW hP hP5 (by omega) (by omega)
    obtain ⟨u3, v3, e4, e5, w2⟩ := note_s (w := nI 3) (x := nI q) (y := nI m) (w1.st hS) w1.2.2.1
    rw [e5, q_bd_some] at e2
    have w3 := w1.trans w2 (S3 := fun j => j = 2 ∨ j = 3 ∨ j = 4 ∨ (15 ≤ j ∧ j < 86)) (by omega)
    have z1 := y1 v3 (fy v3 w3.2.1)
    refine ⟨u3, v3, ?_, ?_, w3⟩
    · simp (disch := omega) only [lit_n, x1, x2, x3, Option.bind_some, if_neg (show ¬ (3 = 0) by omega), nI_ee, show ¬ (258 + 3 = 257) by omega, show (258 + 3 = 261) by omega, if_false, if_true, e1, q_bd_some, e4]
    · simp (disch := omega) only [lit_n, nI_add, ne01, ne02, ne03, ne04, ne05, ne10, ne12, ne13, ne14, ne15, ne20, ne21, ne23, ne24, ne25, ne30, ne31, ne32, ne34, ne35, ne40, ne41, ne42, ne43, ne45, ne50, ne51, ne52, ne53, ne54, y1 v rfl, y2, y3 v rfl, Option.bind_some, q_jn_c, q_jn_0, q_jn_1, q_jn_2, nI_e0, nI_ee, if_true, if_false, e2, q_bd_some, z1]
  · obtain ⟨h, hh, h1, h2⟩ := hW.2.1.hunger (e := q) (by omega)
    have w1 := WQ.hunger (e := q) (x := min 20 (2 * h)) hW hS (by omega) (by omega)
    have x8 : q_ald u (k2 + 8) 10 (nI q) = some (nI h) := by rw [ald_n (by omega) (by omega), hW.1.hunger (by omega), h1]
    have y8 : q_ald v 164 136 (nI (76 + q)) = some (nI h) := by rw [ald_n (by omega) (by omega), h1]
    have z8 : q_ast u (k2 + 8) 10 (nI q) (nI (min 20 (2 * h))) = some (q_up u (k2 + 8) q (nI (min 20 (2 * h)))) := ast_n (by omega) (by omega)
    have t8 : q_ast v 164 136 (nI (76 + q)) (nI (min 20 (2 * h))) = some (q_up v 164 (76 + q) (nI (min 20 (2 * h)))) := ast_n (by omega) (by omega)
    have m8 : q_min (nI 20) (nI (2 * h)) = nI (min 20 (2 * h)) := q_min_n (by omega) (by omega)
    have n8 : m_X11_held (nI (2 * h)) (nI 0) (nI 20) v = some (nI (min 20 (2 * h)), v) := by rw [held_eq (by omega), hd_n (by omega) (by omega)]
    refine ⟨_, _, ?_, ?_, w1.sub (by omega)⟩
    · simp (disch := omega) only [lit_n, pk_mul, x1, x2, x3, Option.bind_some, if_neg (show ¬ (4 = 0) by omega), nI_ee, show ¬ (258 + 4 = 257) by omega, show ¬ (258 + 4 = 261) by omega, show (258 + 4 = 262) by omega, if_false, if_true, x8, m8, z8]
    · simp (disch := omega) only [lit_n, nI_add, pk_mul, ne01, ne02, ne03, ne04, ne05, ne10, ne12, ne13, ne14, ne15, ne20, ne21, ne23, ne24, ne25, ne30, ne31, ne32, ne34, ne35, ne40, ne41, ne42, ne43, ne45, ne50, ne51, ne52, ne53, ne54, y1 v rfl, y2, Option.bind_some, q_jn_c, q_jn_0, q_jn_1, q_jn_2, nI_e0, nI_ee, if_true, if_false, y8, n8, q_bd_some, t8]
end
