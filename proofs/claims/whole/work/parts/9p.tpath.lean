/-! LAYER 2: THE CALLS, 42: text, paths, the call -/
theorem clr_it : ∀ (n i f : Nat) (u : qS), i + n = 10 → n < f → (∀ e, e < i → u.1 80 e = nI 0 ∧ u.1 82 e = nI 0) → ∃ u2, (∀ K, q_it1 (m_X4_clear_L7 79 K) f (nI i) u = K u2) ∧ (∀ e, e < 10 → u2.1 80 e = nI 0 ∧ u2.1 82 e = nI 0) ∧ (∀ c, c ≠ 80 → c ≠ 82 → u2.1 c = u.1 c) ∧ u2.2 = u.2
  | n, i, 0, u, hi, hf, h => by omega
  | 0, i, f + 1, u, hi, hf, h => by
    refine ⟨u, fun K => ?_, fun e he => h e (by omega), fun _ _ _ => rfl, rfl⟩
    show m_X4_clear_L7 _ _ _ _ _ = _
    unfold m_X4_clear_L7
    rw [lit_n, if_pos (by rw [nI_t (by omega), nI_t (by omega)]; omega)]
  | n + 1, i, f + 1, u, hi, hf, h => by
    obtain ⟨u2, a1, a2, a3, a4⟩ := clr_it n (i + 1) f (q_up (q_up u 80 i (nI 0)) 82 i (nI 0)) (by omega) (by omega) (fun e he => by
      have s1 : (q_up (q_up u 80 i (nI 0)) 82 i (nI 0)).1 80 e = if e = i then nI 0 else u.1 80 e := rfl
      have s2 : (q_up (q_up u 80 i (nI 0)) 82 i (nI 0)).1 82 e = if e = i then nI 0 else u.1 82 e := rfl
      rw [s1, s2]
      by_cases e1 : e = i
      · rw [if_pos e1, if_pos e1]; exact ⟨rfl, rfl⟩
      · rw [if_neg e1, if_neg e1]; exact h e (by omega))
    refine ⟨u2, fun K => ?_, a2, fun c h1 h2 => ?_, a4⟩
    · rw [← a1 K]
      show m_X4_clear_L7 _ _ (q_it1 (m_X4_clear_L7 79 K) f) _ _ = _
      generalize q_it1 (m_X4_clear_L7 79 K) f = self
      unfold m_X4_clear_L7 m_X4_clearPath
      simp only [lit_n]
      rw [if_neg (by rw [nI_t (by omega), nI_t (by omega)]; omega), show 79 + 1 = 80 from rfl, ast_n (by omega) (by omega), Option.bind_some, show 79 + 3 = 82 from rfl, ast_n (by omega) (by omega), Option.bind_some, q_bd_s', nI_add]
    · rw [a3 c h1 h2, q_up_1, if_neg h2, q_up_1, if_neg h1]
theorem clrR_it : ∀ (n i f : Nat) (v : qS), i + n = 10 → n < f → (∀ e, e < i → v.1 178 (90 + 9 * e) = nI 0) → ∃ v2, (∀ K, q_it1 (m_X11_readPaths_L2 K) f (nI i) v = K v2) ∧ (∀ e, e < 10 → v2.1 178 (90 + 9 * e) = nI 0) ∧ (∀ j, j < 90 → v2.1 178 j = v.1 178 j) ∧ (∀ c, c ≠ 178 → v2.1 c = v.1 c) ∧ v2.2 = v.2
  | n, i, 0, v, hi, hf, h => by omega
  | 0, i, f + 1, v, hi, hf, h => by
    refine ⟨v, fun K => ?_, fun e he => h e (by omega), fun _ _ => rfl, fun _ _ => rfl, rfl⟩
    show m_X11_readPaths_L2 _ _ _ _ = _
    unfold m_X11_readPaths_L2
    rw [lit_n, if_pos (by rw [nI_t (by omega), nI_t (by omega)]; omega)]
  | n + 1, i, f + 1, v, hi, hf, h => by
    obtain ⟨v2, a1, a2, a3, a4, a5⟩ := clrR_it n (i + 1) f (q_up v 178 (90 + 9 * i) (nI 0)) (by omega) (by omega) (fun e he => by
      rw [q_up_1, if_pos rfl, upd_g]
      by_cases e1 : e = i
      · rw [if_pos (by omega)]
      · rw [if_neg (by omega)]; exact h e (by omega))
    refine ⟨v2, fun K => ?_, a2, fun j hj => ?_, fun c hc => ?_, a5⟩
    · rw [← a1 K]
      show m_X11_readPaths_L2 _ (q_it1 (m_X11_readPaths_L2 K) f) _ _ = _
      generalize q_it1 (m_X11_readPaths_L2 K) f = self
      unfold m_X11_readPaths_L2
      simp only [lit_n]
      rw [if_neg (by rw [nI_t (by omega), nI_t (by omega)]; omega), pk_mul, nI_add, ast_n (by omega) (by omega), Option.bind_some, nI_add]
    · rw [a3 j hj, q_up_1, if_pos rfl, upd_g, if_neg (by omega)]
    · rw [a4 c hc, q_up_1, if_neg hc]
theorem cp4_c {u : qS} : ∃ u2, m_X4_copyFrom 19 79 u = some (nI 0, u2) ∧ u2.1 19 0 = u.1 79 0 ∧ (∀ j, j < 10 → u2.1 20 j = u.1 80 j) ∧ (∀ j, j < 80 → u2.1 21 j = u.1 81 j) ∧ (∀ j, j < 10 → u2.1 22 j = u.1 82 j) ∧ (∀ c, (c < 19 ∨ 22 < c) → u2.1 c = u.1 c) ∧ u2.2 = u.2 := by
  refine ⟨q_st (q_st (q_st (q_up u 19 0 (u.1 79 0)) 22 (q_cp (u.1 82) (u.1 22) 10)) 20 (q_cp (u.1 80) (u.1 20) 10)) 21 (q_cp (u.1 81) (u.1 21) 80), ?_, rfl, fun j hj => ?_, fun j hj => ?_, fun j hj => ?_, fun c hc => ?_, rfl⟩
  · unfold m_X4_copyFrom
    simp only [lit_n]
    rw [q_let_s, q_let_s, q_let_s, q_let_s]
    rfl
  · show q_cp (u.1 80) (u.1 20) 10 j = _
    rw [q_cp_g, if_pos hj]
  · show q_cp (u.1 81) (u.1 21) 80 j = _
    rw [q_cp_g, if_pos hj]
  · show q_cp (u.1 82) (u.1 22) 10 j = _
    rw [q_cp_g, if_pos hj]
  · rw [q_st_g, if_neg (by omega), q_st_g, if_neg (by omega), q_st_g, if_neg (by omega), q_up_1, if_neg (by omega)]
theorem tko1_it {x2 : Int32} : ∀ (n i f : Nat) (v : qS), i + n = 90 → n < f → ∃ v2, (∀ K, q_it1 (m_X11_takesOther_L7 x2 K) f (nI i) v = K v2) ∧ (∀ j, v2.1 178 j = if i ≤ j ∧ j < 90 then v.1 178 (90 + j) else v.1 178 j) ∧ (∀ c, c ≠ 178 → v2.1 c = v.1 c) ∧ v2.2 = v.2
  | n, i, 0, v, hi, hf => by omega
  | 0, i, f + 1, v, hi, hf => by
    refine ⟨v, fun K => ?_, fun j => by rw [if_neg (by omega)], fun _ _ => rfl, rfl⟩
    show m_X11_takesOther_L7 _ _ _ _ _ = _
    unfold m_X11_takesOther_L7
    rw [lit_n, if_pos (by rw [nI_t (by omega), nI_t (by omega)]; omega)]
  | n + 1, i, f + 1, v, hi, hf => by
    obtain ⟨v2, a1, a2, a3, a4⟩ := tko1_it (x2 := x2) n (i + 1) f (q_up v 178 i (v.1 178 (90 + i))) (by omega) (by omega)
    refine ⟨v2, fun K => ?_, fun j => ?_, fun c hc => ?_, a4⟩
    · rw [← a1 K]
      show m_X11_takesOther_L7 _ _ (q_it1 (m_X11_takesOther_L7 x2 K) f) _ _ = _
      generalize q_it1 (m_X11_takesOther_L7 x2 K) f = self
      unfold m_X11_takesOther_L7
      simp only [lit_n]
      rw [if_neg (by rw [nI_t (by omega), nI_t (by omega)]; omega), nI_add, ald_n (by omega) (by omega), Option.bind_some, ast_n (by omega) (by omega), Option.bind_some, nI_add]
    · have s1 : ∀ t, (q_up v 178 i (v.1 178 (90 + i))).1 178 t = if t = i then v.1 178 (90 + i) else v.1 178 t := fun t => by rw [q_up_1, if_pos rfl, upd_g]
      rw [a2 j, s1, s1, if_neg (show ¬ 90 + j = i by omega)]
      by_cases e : j = i
      · rw [if_neg (show ¬ (i + 1 ≤ j ∧ _) by omega), if_pos e, if_pos (by omega), e]
      · rw [if_neg e]
        by_cases e2 : i + 1 ≤ j ∧ j < 90
        · rw [if_pos e2, if_pos (by omega)]
        · rw [if_neg e2, if_neg (by omega)]
    · rw [a3 c hc, q_up_1, if_neg hc]
theorem text_paths {x y : qS} (h : Rel x y) : ∃ r x2 y2, m_X10_text (nI 1) x = some (r, x2) ∧ m_X11_text (nI 1) y = some (r, y2) ∧ Rel x2 y2 := by
  obtain ⟨N, z, hT, hC, hV, hW⟩ := ctx_s h
  obtain ⟨E, hE1, hE, hE2⟩ := h.G.E
  obtain ⟨T, uc, c1, c2, c3, c4, c5, c6, c7⟩ := cut_s (si := 1) (by omega) hT hC
  have hN := hT.1
  obtain ⟨ud, k1, k2, k3, k4⟩ := clr_it 10 0 q_F (q_up uc 79 0 (nI 0)) (by omega) (by rw [q_F_eq]; omega) (fun e he => by omega)
  have ud_o : ∀ c, c ≠ 79 → c ≠ 80 → c ≠ 82 → ud.1 c = uc.1 c := fun c h1 h2 h3 => by rw [k3 c h2 h3, q_up_1, if_neg h1]
  have hX : CX N z 1 T ud (yB y) := by
    refine ⟨hT, by omega, c2, c3, ?_, hV, hW⟩
    unfold LX
    rw [ud_o 67 (by omega) (by omega) (by omega), ud_o 69 (by omega) (by omega) (by omega), ud_o 70 (by omega) (by omega) (by omega), ud_o 71 (by omega) (by omega) (by omega)]; exact c4
  have hT4 := hX.T4
  obtain ⟨va, r1, r2, r3, r4⟩ := read_r (v := yB y) (i := 0) hX rfl GV.rfl'
  obtain ⟨vb, q1, q2, q3, q4, q5⟩ := clrR_it 10 0 q_F va (by omega) (by rw [q_F_eq]; omega) (fun e he => by omega)
  have ud66 : ud.1 66 = (xB x).1 66 := by rw [ud_o 66 (by omega) (by omega) (by omega), c5 66 (by omega) (by omega) (by omega) (by omega)]
  have gvb : GV (yB y) vb := by
    refine ⟨fun c a b => ?_, fun j a b c d e f => ?_, fun c j a b d => ?_, fun c j a b d => ?_, fun j a => ?_, fun j a => ?_, q5.trans r3.2.2.2.2.2.2⟩
    · rw [q4 c (by omega)]; exact r3.1 c a b
    · rw [q4 163 (by omega)]; exact r3.2.1 j a b c d e f
    · rw [q4 c (by omega)]; exact r3.2.2.1 c j a b d
    · rw [q4 c (by omega)]; exact r3.2.2.2.1 c j a b d
    · rw [q3 j a]; exact r3.2.2.2.2.1 j a
    · rw [q4 179 (by omega)]; exact r3.2.2.2.2.2.1 j a
  have hB : BS N z T ud (yB y) ud vb 0 := ⟨⟨fun _ _ => rfl, rfl⟩, ⟨by rw [ud66]; rfl, fun _ _ => rfl⟩, Nat.zero_le _, gvb, by
    unfold AT
    rw [q4 163 (by omega)]; exact r2⟩
  have udx : ∀ c, (c < 66 ∨ 88 ≤ c) → ud.1 c = x.1 c := fun c hc => by rw [ud_o c (by omega) (by omega) (by omega), c5 c (by omega) (by omega) (by omega) (by omega), xB_o (by omega)]
  have u8 : ud.1 66 8 = nI E := by
    rw [ud66]
    show x.1 2 9 = _
    rw [h.C.eaters, hE]
  have v7 : (yB y).1 163 7 = nI E := hE
  have stR : m_X11_readPaths va = RQl q_F (nI 0) vb := by
    unfold m_X11_readPaths RQl
    simp only [lit_n, mI_lit]
    rw [q1]
  have stC : m_X6_readPaths 66 19 (xB x) = q_it1 (m_X6_readPaths_L18 66 19 (fun u_6 => some (mI, u_6)) (fun u_7 => q_bd (m_X4_copyFrom 19 79 u_7) fun _ u_8 => some (u_8.1 79 0, u_8))) q_F (nI 0) ud := by
    have cl : m_X4_clear 79 uc = some (nI 0, ud) := by
      unfold m_X4_clear
      simp only [lit_n]
      rw [q_let_s, k1]
    unfold m_X6_readPaths
    simp only [lit_n, mI_lit]
    rw [show 66 + 1 = 67 from rfl, c1, q_bd_s', show 66 + 13 = 79 from rfl, cl, q_bd_s']
  rcases pll hX hE1 u8 v7 (T + 1) 0 0 q_F q_F ud vb (by omega) (by rw [q_F_eq]; omega) (by rw [q_F_eq]; omega) (by omega) hB (by rw [k3 79 (by omega) (by omega)]; rfl) (fun e he => ⟨0, by omega, (k2 e he).1, q2 e he, fun i hi => by omega, (k2 e he).2⟩) with ⟨u2, v2, w, p, a1, a2, a3, a4⟩ | ⟨u2, v2, k, i2, a1, a2, a3, a4, a5, a6⟩
  · have eC := text_c (x := x) (t := 1) (r := mI) (u := u2) (by omega) (fun e => by omega) (fun _ => by rw [stC, a1]) (fun e => by omega)
    have eR := text_r (y := y) (t := 1) (r := mI) (v2 := v2) (by omega) r1 (fun e => by omega) (fun _ => by rw [stR]; exact a2) (fun e => by omega)
    rw [if_pos rfl] at eR
    rw [eC, eR]
    exact text_bad h (by omega) (fun c hc => by rw [a3.2.2.1 c (by omega)]; exact udx c hc) a3.1 a3.2.1 a4.2.2 a4.1 a4.2.1
  · obtain ⟨g, nx, i2T, gv, at'⟩ := a4
    obtain ⟨u9, b1, b2, b3, b4, b5, b6, b7⟩ := cp4_c (u := u2)
    have eC := text_c (x := x) (t := 1) (r := nI k) (u := u9) (by omega) (fun e => by omega) (fun _ => by
      rw [stC, a1, b1, q_bd_s', b6 79 (by omega)]
      exact congrArg (fun q => some (q, u9)) a5) (fun e => by omega)
    have eR := text_r (y := y) (t := 1) (r := nI k) (v2 := v2) (by omega) r1 (fun e => by omega) (fun _ => by rw [stR]; exact a2) (fun e => by omega)
    have nk : ¬ (nI k).toInt = mI.toInt := by rw [nI_t (by omega), mI_t]; omega
    rw [if_neg nk] at eR
    obtain ⟨v9, d1, d2, d3, d4⟩ := tko1_it (x2 := nI k) 90 0 q_F (q_up v2 163 14 (nI 0)) (by omega) (by rw [q_F_eq]; omega)
    refine ⟨nI k, q_up (q_up u9 67 1 (nI 0)) 0 5 (nI 0), q_up (q_up v9 163 36 (nI k)) 163 3 (nI 0), ?_, ?_, ?_⟩
    · rw [eC]
      unfold JX m_X10_forget
      simp only [lit_n]
      rw [q_let_s, if_neg nk, if_neg (by decide), q_let_s, q_bd_s']
    · rw [eR]
      unfold JY m_X11_takesOther
      simp only [lit_n]
      rw [q_let_s, if_neg nk, if_neg (by decide), q_jn, if_pos trivial, d1, q_let_s]
      dsimp only
      rw [q_let_s, q_bd_s']
    · have cx9 : ∀ c, c ≠ 0 → (c < 19 ∨ (22 < c ∧ c < 66) ∨ 88 ≤ c) → (q_up (q_up u9 67 1 (nI 0)) 0 5 (nI 0)).1 c = x.1 c := fun c h0 hc => by
        rw [q_up_1, if_neg h0, q_up_1, if_neg (by omega), b6 c (by omega), g.1 c (by omega)]; exact udx c (by omega)
      have cx0 : ∀ j, j ≠ 5 → (q_up (q_up u9 67 1 (nI 0)) 0 5 (nI 0)).1 0 j = x.1 0 j := fun j hj => by
        rw [q_up_1, if_pos rfl, upd_g, if_neg hj, q_up_1, if_neg (by omega), b6 0 (by omega), g.1 0 (by omega), udx 0 (by omega)]
      have cyv : ∀ c, c ≠ 163 → c ≠ 178 → (q_up (q_up v9 163 36 (nI k)) 163 3 (nI 0)).1 c = v2.1 c := fun c h1 h2 => by
        rw [q_up_1, if_neg h1, q_up_1, if_neg h1, d3 c h2, q_up_1, if_neg h1]
      have gj : ∀ j, j ≠ 3 → j ≠ 36 → j ≠ 14 → (j < 15 ∨ 18 < j) → j ≠ 28 → j ≠ 29 → j ≠ 31 → j ≠ 32 → j ≠ 33 → (q_up (q_up v9 163 36 (nI k)) 163 3 (nI 0)).1 163 j = (yB y).1 163 j := fun j h1 h2 h3 h4 h5 h6 h7 h8 h9 => by
        rw [up163 h1, up163 h2, d3 163 (by omega), up163 h3, gv.2.1 j h4 h5 h6 h7 h8 h9]
      have gy : ∀ j, j = 5 ∨ j = 6 ∨ j = 7 ∨ j = 8 ∨ j = 9 ∨ j = 10 ∨ j = 11 ∨ j = 38 ∨ j = 48 ∨ j = 53 → (q_up (q_up v9 163 36 (nI k)) 163 3 (nI 0)).1 163 j = y.1 163 j := fun j hj => by
        rw [gj j (by omega) (by omega) (by omega) (by omega) (by omega) (by omega) (by omega) (by omega) (by omega), yB_j (by omega) (by omega) (by omega) (by omega) (by omega) (by omega) (by omega)]
      have hL : RLw 12 (q_up (q_up u9 67 1 (nI 0)) 0 5 (nI 0)).1 (q_up (q_up v9 163 36 (nI k)) 163 3 (nI 0)).1 := by
        obtain ⟨n, n1, n2, n3, n4, n5⟩ := h.1.2.2.2.2.1
        have x12 : ∀ c, 12 ≤ c → c < 17 → (q_up (q_up u9 67 1 (nI 0)) 0 5 (nI 0)).1 c = x.1 c := fun c a b => cx9 c (by omega) (by omega)
        refine ⟨n, n1, by rw [x12 12 (by omega) (by omega)]; exact n2, by rw [cyv 170 (by omega) (by omega), gv.1 170 (by omega) (by omega), yB_o (by omega)]; exact n3, by rw [x12 12 (by omega) (by omega)]; exact n4, fun i hi => ?_⟩
        exact (n5 i hi).mv (by omega) (by rw [x12 12 (by omega) (by omega)]) (by rw [x12 (12 + 1) (by omega) (by omega)]) (by rw [x12 (12 + 2) (by omega) (by omega)]) (by rw [x12 (12 + 2) (by omega) (by omega)]) (by rw [x12 (12 + 3) (by omega) (by omega)]) (fun j _ => by rw [x12 (12 + 4) (by omega) (by omega)]) (by rw [cyv 171 (by omega) (by omega), gv.2.2.1 171 i (by omega) (by omega) (by omega), yB_o (by omega)]) (by rw [cyv 172 (by omega) (by omega), gv.2.2.1 172 i (by omega) (by omega) (by omega), yB_o (by omega)]) (by rw [cyv 173 (by omega) (by omega), gv.2.2.1 173 i (by omega) (by omega) (by omega), yB_o (by omega)]) (by rw [cyv 174 (by omega) (by omega), gv.2.2.1 174 i (by omega) (by omega) (by omega), yB_o (by omega)]) (fun j hj => by rw [cyv 175 (by omega) (by omega), gv.2.2.2.1 175 j (by omega) (by omega) (by omega), yB_o (by omega)]) (fun j hj => by rw [cyv 176 (by omega) (by omega), gv.2.2.2.1 176 j (by omega) (by omega) (by omega), yB_o (by omega)])
      have hNn : RPn 23 (q_up (q_up u9 67 1 (nI 0)) 0 5 (nI 0)).1 (q_up (q_up v9 163 36 (nI k)) 163 3 (nI 0)).1 ((q_up (q_up v9 163 36 (nI k)) 163 3 (nI 0)).1 163) := by
        obtain ⟨n, n1, n2, n3, n4⟩ := h.1.2.2.2.2.2.2.1
        have z179 : ∀ j, j < 64 → (q_up (q_up v9 163 36 (nI k)) 163 3 (nI 0)).1 179 j = y.1 179 j := fun j hj => by rw [cyv 179 (by omega) (by omega), gv.2.2.2.2.2.1 j hj, yB_o (by omega)]
        refine ⟨n, n1, by rw [cx9 23 (by omega) (by omega)]; exact n2, by rw [gy 38 (by omega)]; exact n3, fun i hi => ?_⟩
        obtain ⟨d, q, o, p1, p2, p3, p4, p5, p6, p7, p8, p9⟩ := n4 i hi
        refine ⟨d, q, o, p1, by rw [cx9 (23 + 1) (by omega) (by omega), z179 _ (by omega)]; exact p2, by rw [z179 _ (by omega)]; exact p3, by rw [cx9 (23 + 2) (by omega) (by omega)]; exact p4, by rw [cx9 (23 + 3) (by omega) (by omega)]; exact p5, by rw [z179 _ (by omega)]; exact p6, by rw [cx9 (23 + 4) (by omega) (by omega)]; exact p7, by rw [z179 _ (by omega)]; exact p8, ?_⟩
        rw [gy 6 (by omega), gy 7 (by omega)]; exact p9
      have hP : RPa 19 (q_up (q_up u9 67 1 (nI 0)) 0 5 (nI 0)).1 (q_up (q_up v9 163 36 (nI k)) 163 3 (nI 0)).1 := by
        have z178 : ∀ j, j < 90 → (q_up (q_up v9 163 36 (nI k)) 163 3 (nI 0)).1 178 j = v2.1 178 (90 + j) := fun j hj => by
          rw [q_up_1, if_neg (by omega), q_up_1, if_neg (by omega), d2 j, if_pos (by omega)]
          rfl
        refine ⟨?_, fun e he => ?_⟩
        · show u9.1 19 0 = nI k
          rw [b2]; exact a5
        · obtain ⟨m, m1, m2, m3, m4, m5⟩ := a6 e he
          have hps : ∀ n, n ≤ 8 → pset (fun i => (q_up (q_up v9 163 36 (nI k)) 163 3 (nI 0)).1 178 (9 * e + 1 + i)) n = pset (fun i => v2.1 178 (90 + 9 * e + 1 + i)) n := by
            intro n
            induction n with
            | zero => intro _; rfl
            | succ n ih => intro hn; unfold pset; rw [ih (by omega), z178 _ (by omega), show 90 + (9 * e + 1 + n) = 90 + 9 * e + 1 + n by omega]
          refine ⟨m, m1, ?_, by rw [z178 _ (by omega)]; exact m3, fun i hi => ?_, ?_⟩
          · show u9.1 20 e = nI m
            rw [b3 e he]; exact m2
          · obtain ⟨q, q1', q2', q3'⟩ := m4 i hi
            refine ⟨q, q1', ?_, by rw [z178 _ (by omega), show 90 + (9 * e + 1 + i) = 90 + 9 * e + 1 + i by omega]; exact q3'⟩
            show u9.1 21 (8 * e + i) = nI q
            rw [b4 _ (by omega)]; exact q2'
          · rw [hps m m1]
            show u9.1 22 e = _
            rw [b5 e he]; exact m5
      refine h.txt (fun c hc => cx9 c (by omega) (by omega)) (cx0 3 (by omega)) (cx0 6 (by omega)) hL hP hNn (Or.inr ⟨rfl, rfl⟩) (fun c h1 h2 => by rw [cyv c h1 (by omega), gv.1 c h1 (by omega), yB_o h1]) (fun j hj => gy j (by omega)) rfl ?_ ?_ ?_
      · rw [up163 (by omega), up163 (by omega), d3 163 (by omega)]; rfl
      · rw [gj 34 (by omega) (by omega) (by omega) (by omega) (by omega) (by omega) (by omega) (by omega) (by omega)]
        show u9.1 66 0 = nI 0
        rw [b6 66 (by omega), nx.2 0 (by omega), ud66]; rfl
      · rw [gj 35 (by omega) (by omega) (by omega) (by omega) (by omega) (by omega) (by omega) (by omega) (by omega)]
        show u9.1 66 1 = mI
        rw [b6 66 (by omega), nx.2 1 (by omega), ud66]; rfl
