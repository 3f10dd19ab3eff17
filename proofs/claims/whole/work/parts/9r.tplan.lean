/-! LAYER 2: THE CALLS, 44: text, plans; the call text -/
def RNl (g : Nat) (k : Int32) (v : qS) : qR := q_it1 (m_X11_readPlan_L2 (fun u_4 => q_bd (m_X11_errs (nI 3) u_4) fun r u_5 => some (r, u_5)) (fun u_6 => some (mI, u_6)) (fun x1 u_7 => if (u_7.1 163 17).toInt = 0 then some (x1, u_7) else q_bd (m_X11_errs (nI 1) u_7) fun r_8 u_9 => some (r_8, u_9))) g k v
section
variable {N T : Nat} {z : Nat → Int} {u0 v0 : qS}
theorem pnl {P E : Nat} (hX : CX N z 2 T u0 v0) (hP : P ≤ 5) (hE : E ≤ 10) (u7 : u0.1 66 7 = nI P) (u8 : u0.1 66 8 = nI E) (v6 : v0.1 163 6 = nI P) (v7 : v0.1 163 7 = nI E) : ∀ (n i k f g : Nat) (u v : qS), T - i < n → T - i < f → T - i < g → k ≤ 16 → BS N z T u0 v0 u v i → u.1 83 0 = nI k → (∀ j, j < k → PLd u v P E j) →
    (∃ u2 v2 w p, (∀ KA KB, q_it1 (m_X6_readPlan_L19 66 23 KA KB) f (nI k) u = KA u2) ∧ RNl g (nI k) v = some (mI, v2) ∧ FC u0 u2 w p ∧ FV v0 v2 w p) ∨
    (∃ u2 v2 k2 i2, (∀ KA KB, q_it1 (m_X6_readPlan_L19 66 23 KA KB) f (nI k) u = KB u2) ∧ RNl g (nI k) v = some (nI k2, v2) ∧ k2 ≤ 16 ∧ BS N z T u0 v0 u2 v2 i2 ∧ u2.1 83 0 = nI k2 ∧ ∀ j, j < k2 → PLd u2 v2 P E j)
  | 0, i, k, f, g, u, v, hn, hf, hg, hk, hB, h83, hL => by omega
  | n + 1, i, k, 0, g, u, v, hn, hf, hg, hk, hB, h83, hL => by omega
  | n + 1, i, k, f, 0, u, v, hn, hf, hg, hk, hB, h83, hL => by omega
  | n + 1, i, k, f + 1, g + 1, u, v, hn, hf, hg, hk, hB, h83, hL => by
    have hT := hX.T4
    have hB' := hB
    obtain ⟨hG, hN, hiT, gv, hA⟩ := hB
    have ha := ck_all (si := 2) (hX.tok i) hX.se
    have kd := kind_c hX hG hN.1 hiT
    have kl := ck_lt hX i
    have h4 := (hX.tok i).1
    have hsA : sA 2 = 18 := rfl
    have hsE : sE 2 = 25 := rfl
    have w18 := word_is (w := 18) hX hA (by decide) (by decide)
    rw [show 256 + (18 - sA 2) = 256 from rfl] at w18
    have g16 : ¬ (nI 16).toInt < (nI k).toInt := by rw [nI_t (by omega), nI_t (by omega)]; omega
    have stC0 : ck 2 (tx N z i) ≠ 0 → ∀ KA KB, q_it1 (m_X6_readPlan_L19 66 23 KA KB) (f + 1) (nI k) u = q_bd (m_X6_planLine 66 (nI k) u) fun r_4 u_5 => if r_4.toInt = 0 then KA u_5 else q_it1 (m_X6_readPlan_L19 66 23 KA KB) f (nI (k + 1)) u_5 := fun h0 KA KB => by
      show m_X6_readPlan_L19 _ _ _ _ (q_it1 (m_X6_readPlan_L19 66 23 KA KB) f) _ _ = _
      generalize q_it1 (m_X6_readPlan_L19 66 23 KA KB) f = self
      unfold m_X6_readPlan_L19
      simp only [lit_n]
      rw [if_neg g16, kd, q_bd_s', if_neg (by rw [nI_t (by omega)]; omega), nI_add]
    by_cases c256 : ck 2 (tx N z i) = 256
    · by_cases k16 : k < 16
      · have stR0 : RNl (g + 1) (nI k) v = q_bd (m_X11_readPlanLine (nI (64 + 4 * k)) v) fun r_2 u_3 => if r_2.toInt = mI.toInt then some (mI, u_3) else RNl g (nI (k + 1)) u_3 := by
          unfold RNl
          show m_X11_readPlan_L2 _ _ _ (RNl g) _ _ = _
          unfold m_X11_readPlan_L2
          simp only [lit_n, mI_lit]
          rw [w18, q_bd_s', decide_eq_true c256, if_neg bI_1, if_neg (by rw [nI_t (by omega), nI_t (by omega)]; omega), pk_mul, nI_add, nI_add]
          rfl
        rcases pln hX k16 hP hE hB' c256 h83 u7 u8 v6 v7 with ⟨u2, v2, w, p, x1, x2, x3, x4⟩ | ⟨u2, v2, i2, x1, x2, x3, x4, x5, x6, x7⟩
        · refine Or.inl ⟨u2, v2, w, p, fun KA KB => ?_, ?_, x3, x4⟩
          · rw [stC0 (by omega), x1, q_bd_s', if_pos (by decide)]
          · rw [stR0, x2, q_bd_s', if_pos rfl]
        · have i2T : i2 ≤ T := x4.2.2.1
          have hL2 : ∀ j, j < k + 1 → PLd u2 v2 P E j := fun j hj => by
            by_cases e : j = k
            · rw [e]; exact x6
            · have h0 := hL j (by omega)
              unfold PLd at h0 ⊢
              rw [x7.1 84 j (by omega) (by omega) e, x7.1 85 j (by omega) (by omega) e, x7.1 86 j (by omega) (by omega) e, x7.1 87 j (by omega) (by omega) e, x7.2 (64 + 4 * j) (by omega), x7.2 (64 + 4 * j + 1) (by omega), x7.2 (64 + 4 * j + 2) (by omega), x7.2 (64 + 4 * j + 3) (by omega)]
              exact h0
          rcases pnl hX hP hE u7 u8 v6 v7 n i2 (k + 1) f g u2 v2 (by omega) (by omega) (by omega) (by omega) x4 x5 hL2 with ⟨ua, va, w, p, d1, d2, d3, d4⟩ | ⟨ua, va, k2, i5, d1, d2, d3⟩
          · refine Or.inl ⟨ua, va, w, p, fun KA KB => ?_, ?_, d3, d4⟩
            · rw [stC0 (by omega), x1, q_bd_s', if_neg (by decide)]; exact d1 KA KB
            · rw [stR0, x2, q_bd_s', if_neg (by decide)]; exact d2
          · refine Or.inr ⟨ua, va, k2, i5, fun KA KB => ?_, ?_, d3⟩
            · rw [stC0 (by omega), x1, q_bd_s', if_neg (by decide)]; exact d1 KA KB
            · rw [stR0, x2, q_bd_s', if_neg (by decide)]; exact d2
      · obtain ⟨u2, c1, c2⟩ := fail_c (w := 3) hX hG hN.1 hiT
        obtain ⟨v2, d1, d2⟩ := errs_r (w := 3) hA gv
        have bg : m_X6_begins 66 (nI 256) (nI k) u = some (nI 0, u2) := by
          unfold m_X6_begins
          simp only [lit_n]
          rw [kd, q_bd_s', q_jn, c256, if_pos rfl, if_neg (by rw [nI_t (by omega), nI_t (by omega)]; omega), c1, q_bd_s', bz_0]
        refine Or.inl ⟨u2, v2, 3, _, fun KA KB => ?_, ?_, c2, d2⟩
        · rw [stC0 (by omega)]
          unfold m_X6_planLine
          simp only [lit_n, mI_lit]
          rw [bg, q_bd_s', if_pos (by decide), q_bd_s', if_pos (by decide)]
        · unfold RNl
          show m_X11_readPlan_L2 _ _ _ (RNl g) _ _ = _
          unfold m_X11_readPlan_L2
          simp only [lit_n, mI_lit]
          rw [w18, q_bd_s', decide_eq_true c256, if_neg bI_1, if_pos (by rw [nI_t (by omega), nI_t (by omega)]; omega), d1, q_bd_s']
    · by_cases k0 : ck 2 (tx N z i) = 0
      · refine Or.inr ⟨u, v, k, i, fun KA KB => ?_, ?_, hk, hB', h83, hL⟩
        · show m_X6_readPlan_L19 _ _ _ _ (q_it1 (m_X6_readPlan_L19 66 23 KA KB) f) _ _ = _
          generalize q_it1 (m_X6_readPlan_L19 66 23 KA KB) f = self
          unfold m_X6_readPlan_L19
          simp only [lit_n]
          rw [if_neg g16, kd, q_bd_s', k0, if_pos (by decide)]
        · unfold RNl
          show m_X11_readPlan_L2 _ _ _ (RNl g) _ _ = _
          unfold m_X11_readPlan_L2
          simp only [lit_n, mI_lit]
          rw [w18, q_bd_s', decide_eq_false c256, if_pos bI_0, hA.2.2.1, if_pos (by rw [nI_t (by omega)]; omega)]
      · obtain ⟨u2, c1, c2⟩ := fail_c (w := 1) hX hG hN.1 hiT
        obtain ⟨v2, d1, d2⟩ := errs_r (w := 1) hA gv
        have tk : m_X6_takes 66 (nI 256) u = some (nI 0, u2) := by
          unfold m_X6_takes
          simp only [lit_n]
          rw [kd, q_bd_s', if_neg (by rw [nI_t (by omega), nI_t (by omega)]; omega), c1, q_bd_s', bz_0]
        have bg : m_X6_begins 66 (nI 256) (nI k) u = some (nI 0, u2) := by
          unfold m_X6_begins
          simp only [lit_n]
          rw [kd, q_bd_s', q_jn, if_neg (by rw [nI_t (by omega), nI_t (by omega)]; omega)]
          dsimp only
          rw [tk, q_bd_s', bz_0]
        refine Or.inl ⟨u2, v2, 1, _, fun KA KB => ?_, ?_, c2, d2⟩
        · rw [stC0 k0]
          unfold m_X6_planLine
          simp only [lit_n, mI_lit]
          rw [bg, q_bd_s', if_pos (by decide), q_bd_s', if_pos (by decide)]
        · unfold RNl
          show m_X11_readPlan_L2 _ _ _ (RNl g) _ _ = _
          unfold m_X11_readPlan_L2
          simp only [lit_n, mI_lit]
          rw [w18, q_bd_s', decide_eq_false c256, if_pos bI_0, hA.2.2.1, if_neg (by rw [nI_t (by omega)]; omega), d1, q_bd_s']
end
theorem cp5_c {u : qS} : ∃ u2, m_X5_copyFrom 23 83 u = some (nI 0, u2) ∧ u2.1 23 0 = u.1 83 0 ∧ (∀ j, j < 16 → u2.1 24 j = u.1 84 j) ∧ (∀ j, j < 16 → u2.1 25 j = u.1 85 j) ∧ (∀ j, j < 16 → u2.1 26 j = u.1 86 j) ∧ (∀ j, j < 16 → u2.1 27 j = u.1 87 j) ∧ (∀ c, (c < 23 ∨ 27 < c) → u2.1 c = u.1 c) ∧ u2.2 = u.2 := by
  refine ⟨q_st (q_st (q_st (q_st (q_up u 23 0 (u.1 83 0)) 24 (q_cp (u.1 84) (u.1 24) 16)) 25 (q_cp (u.1 85) (u.1 25) 16)) 26 (q_cp (u.1 86) (u.1 26) 16)) 27 (q_cp (u.1 87) (u.1 27) 16), ?_, rfl, fun j hj => ?_, fun j hj => ?_, fun j hj => ?_, fun j hj => ?_, fun c hc => ?_, rfl⟩
  · unfold m_X5_copyFrom
    simp only [lit_n]
    rw [q_let_s, q_let_s, q_let_s, q_let_s, q_let_s]
    rfl
  · show q_cp (u.1 84) (u.1 24) 16 j = _
    rw [q_cp_g, if_pos hj]
  · show q_cp (u.1 85) (u.1 25) 16 j = _
    rw [q_cp_g, if_pos hj]
  · show q_cp (u.1 86) (u.1 26) 16 j = _
    rw [q_cp_g, if_pos hj]
  · show q_cp (u.1 87) (u.1 27) 16 j = _
    rw [q_cp_g, if_pos hj]
  · rw [q_st_g, if_neg (by omega), q_st_g, if_neg (by omega), q_st_g, if_neg (by omega), q_st_g, if_neg (by omega), q_up_1, if_neg (by omega)]
theorem tko2_it {k : Nat} (hk : k ≤ 16) : ∀ (n i f : Nat) (v : qS), i + n = 4 * k → n < f → ∃ v2, (∀ K, q_it1 (m_X11_takesOther_L44 (nI k) K) f (nI i) v = K v2) ∧ (∀ j, v2.1 179 j = if i ≤ j ∧ j < 4 * k then v.1 179 (64 + j) else v.1 179 j) ∧ (∀ c, c ≠ 179 → v2.1 c = v.1 c) ∧ v2.2 = v.2
  | n, i, 0, v, hi, hf => by omega
  | 0, i, f + 1, v, hi, hf => by
    refine ⟨v, fun K => ?_, fun j => by rw [if_neg (by omega)], fun _ _ => rfl, rfl⟩
    show m_X11_takesOther_L44 _ _ _ _ _ = _
    unfold m_X11_takesOther_L44
    rw [lit_n, pk_mul, if_pos (by rw [nI_t (by omega), nI_t (by omega)]; omega)]
  | n + 1, i, f + 1, v, hi, hf => by
    obtain ⟨v2, a1, a2, a3, a4⟩ := tko2_it hk n (i + 1) f (q_up v 179 i (v.1 179 (64 + i))) (by omega) (by omega)
    refine ⟨v2, fun K => ?_, fun j => ?_, fun c hc => ?_, a4⟩
    · rw [← a1 K]
      show m_X11_takesOther_L44 _ _ (q_it1 (m_X11_takesOther_L44 (nI k) K) f) _ _ = _
      generalize q_it1 (m_X11_takesOther_L44 (nI k) K) f = self
      unfold m_X11_takesOther_L44
      simp only [lit_n]
      rw [pk_mul, if_neg (by rw [nI_t (by omega), nI_t (by omega)]; omega), nI_add, ald_n (by omega) (by omega), Option.bind_some, ast_n (by omega) (by omega), Option.bind_some, nI_add]
    · have s1 : ∀ t, (q_up v 179 i (v.1 179 (64 + i))).1 179 t = if t = i then v.1 179 (64 + i) else v.1 179 t := fun t => by rw [q_up_1, if_pos rfl, upd_g]
      rw [a2 j, s1, s1, if_neg (show ¬ 64 + j = i by omega)]
      by_cases e : j = i
      · rw [if_neg (show ¬ (i + 1 ≤ j ∧ _) by omega), if_pos e, if_pos (by omega), e]
      · rw [if_neg e]
        by_cases e2 : i + 1 ≤ j ∧ j < 4 * k
        · rw [if_pos e2, if_pos (by omega)]
        · rw [if_neg e2, if_neg (by omega)]
    · rw [a3 c hc, q_up_1, if_neg hc]
theorem text_plan {x y : qS} (h : Rel x y) : ∃ r x2 y2, m_X10_text (nI 2) x = some (r, x2) ∧ m_X11_text (nI 2) y = some (r, y2) ∧ Rel x2 y2 := by
  obtain ⟨N, z, hT, hC, hV, hW⟩ := ctx_s h
  obtain ⟨P, hP1, hP, hP2⟩ := h.G.P
  obtain ⟨E, hE1, hE, hE2⟩ := h.G.E
  obtain ⟨T, uc, c1, c2, c3, c4, c5, c6, c7⟩ := cut_s (si := 2) (by omega) hT hC
  have hN := hT.1
  obtain ⟨ud, hud⟩ : ∃ ud, q_up uc 83 0 (nI 0) = ud := ⟨_, rfl⟩
  have ud_o : ∀ c, c ≠ 83 → ud.1 c = uc.1 c := fun c h1 => by rw [← hud, q_up_1, if_neg h1]
  have hX : CX N z 2 T ud (yB y) := by
    refine ⟨hT, by omega, c2, c3, ?_, hV, hW⟩
    unfold LX
    rw [ud_o 67 (by omega), ud_o 69 (by omega), ud_o 70 (by omega), ud_o 71 (by omega)]; exact c4
  have hT4 := hX.T4
  obtain ⟨va, r1, r2, r3, r4⟩ := read_r (v := yB y) (i := 0) hX rfl GV.rfl'
  have ud66 : ud.1 66 = (xB x).1 66 := by rw [ud_o 66 (by omega), c5 66 (by omega) (by omega) (by omega) (by omega)]
  have hB : BS N z T ud (yB y) ud va 0 := ⟨⟨fun _ _ => rfl, rfl⟩, ⟨by rw [ud66]; rfl, fun _ _ => rfl⟩, Nat.zero_le _, r3, r2⟩
  have udx : ∀ c, (c < 66 ∨ 88 ≤ c) → ud.1 c = x.1 c := fun c hc => by rw [ud_o c (by omega), c5 c (by omega) (by omega) (by omega) (by omega), xB_o (by omega)]
  have u7 : ud.1 66 7 = nI P := by
    rw [ud66]
    show x.1 2 7 = _
    rw [h.C.parties, hP]
  have u8 : ud.1 66 8 = nI E := by
    rw [ud66]
    show x.1 2 9 = _
    rw [h.C.eaters, hE]
  have v6 : (yB y).1 163 6 = nI P := hP
  have v7 : (yB y).1 163 7 = nI E := hE
  have stR : m_X11_readPlan va = RNl q_F (nI 0) va := by
    unfold m_X11_readPlan RNl
    simp only [lit_n, mI_lit]
  have stC : m_X6_readPlan 66 23 (xB x) = q_it1 (m_X6_readPlan_L19 66 23 (fun u_6 => some (mI, u_6)) (fun u_7 => q_bd (m_X5_copyFrom 23 83 u_7) fun _ u_8 => some (u_8.1 83 0, u_8))) q_F (nI 0) ud := by
    unfold m_X6_readPlan
    simp only [lit_n, mI_lit]
    rw [show 66 + 1 = 67 from rfl, c1, q_bd_s', show 66 + 17 = 83 from rfl, q_let_s, hud]
  rcases pnl hX hP1 hE1 u7 u8 v6 v7 (T + 1) 0 0 q_F q_F ud va (by omega) (by rw [q_F_eq]; omega) (by rw [q_F_eq]; omega) (by omega) hB (by rw [← hud]; rfl) (fun j hj => by omega) with ⟨u2, v2, w, p, a1, a2, a3, a4⟩ | ⟨u2, v2, k, i2, a1, a2, a3, a4, a5, a6⟩
  · have eC := text_c (x := x) (t := 2) (r := mI) (u := u2) (by omega) (fun e => by omega) (fun e => by omega) (fun _ => by rw [stC, a1])
    have eR := text_r (y := y) (t := 2) (r := mI) (v2 := v2) (by omega) r1 (fun e => by omega) (fun e => by omega) (fun _ => by rw [stR]; exact a2)
    rw [if_pos rfl] at eR
    rw [eC, eR]
    exact text_bad h (by omega) (fun c hc => by rw [a3.2.2.1 c (by omega)]; exact udx c hc) a3.1 a3.2.1 a4.2.2 a4.1 a4.2.1
  · obtain ⟨g, nx, i2T, gv, at'⟩ := a4
    obtain ⟨u9, b1, b2, b3, b4, b5, b6, b7, b8⟩ := cp5_c (u := u2)
    have eC := text_c (x := x) (t := 2) (r := nI k) (u := u9) (by omega) (fun e => by omega) (fun e => by omega) (fun _ => by
      rw [stC, a1, b1, q_bd_s', b7 83 (by omega)]
      exact congrArg (fun q => some (q, u9)) a5)
    have eR := text_r (y := y) (t := 2) (r := nI k) (v2 := v2) (by omega) r1 (fun e => by omega) (fun e => by omega) (fun _ => by rw [stR]; exact a2)
    have nk : ¬ (nI k).toInt = mI.toInt := by rw [nI_t (by omega), mI_t]; omega
    rw [if_neg nk] at eR
    obtain ⟨v9, d1, d2, d3, d4⟩ := tko2_it a3 (4 * k) 0 q_F (q_up v2 163 14 (nI 0)) (by omega) (by rw [q_F_eq]; omega)
    refine ⟨nI k, q_up (q_up u9 67 1 (nI 0)) 0 5 (nI 0), q_up (q_up v9 163 38 (nI k)) 163 3 (nI 0), ?_, ?_, ?_⟩
    · rw [eC]
      unfold JX m_X10_forget
      simp only [lit_n]
      rw [q_let_s, if_neg nk, if_neg (by decide), q_let_s, q_bd_s']
    · rw [eR]
      unfold JY m_X11_takesOther
      simp only [lit_n]
      rw [q_let_s, if_neg nk, if_neg (by decide), q_jn, if_neg (by decide), d1, q_let_s]
      dsimp only
      rw [q_let_s, q_bd_s']
    · have cx9 : ∀ c, c ≠ 0 → (c < 23 ∨ (27 < c ∧ c < 66) ∨ 88 ≤ c) → (q_up (q_up u9 67 1 (nI 0)) 0 5 (nI 0)).1 c = x.1 c := fun c h0 hc => by
        rw [q_up_1, if_neg h0, q_up_1, if_neg (by omega), b7 c (by omega), g.1 c (by omega)]; exact udx c (by omega)
      have cx0 : ∀ j, j ≠ 5 → (q_up (q_up u9 67 1 (nI 0)) 0 5 (nI 0)).1 0 j = x.1 0 j := fun j hj => by
        rw [q_up_1, if_pos rfl, upd_g, if_neg hj, q_up_1, if_neg (by omega), b7 0 (by omega), g.1 0 (by omega), udx 0 (by omega)]
      have cyv : ∀ c, c ≠ 163 → c ≠ 179 → (q_up (q_up v9 163 38 (nI k)) 163 3 (nI 0)).1 c = v2.1 c := fun c h1 h2 => by
        rw [q_up_1, if_neg h1, q_up_1, if_neg h1, d3 c h2, q_up_1, if_neg h1]
      have gj : ∀ j, j ≠ 3 → j ≠ 38 → j ≠ 14 → (j < 15 ∨ 18 < j) → j ≠ 28 → j ≠ 29 → j ≠ 31 → j ≠ 32 → j ≠ 33 → (q_up (q_up v9 163 38 (nI k)) 163 3 (nI 0)).1 163 j = (yB y).1 163 j := fun j h1 h2 h3 h4 h5 h6 h7 h8 h9 => by
        rw [up163 h1, up163 h2, d3 163 (by omega), up163 h3, gv.2.1 j h4 h5 h6 h7 h8 h9]
      have gy : ∀ j, j = 5 ∨ j = 6 ∨ j = 7 ∨ j = 8 ∨ j = 9 ∨ j = 10 ∨ j = 11 ∨ j = 36 ∨ j = 48 ∨ j = 53 → (q_up (q_up v9 163 38 (nI k)) 163 3 (nI 0)).1 163 j = y.1 163 j := fun j hj => by
        rw [gj j (by omega) (by omega) (by omega) (by omega) (by omega) (by omega) (by omega) (by omega) (by omega), yB_j (by omega) (by omega) (by omega) (by omega) (by omega) (by omega) (by omega)]
      have hL : RLw 12 (q_up (q_up u9 67 1 (nI 0)) 0 5 (nI 0)).1 (q_up (q_up v9 163 38 (nI k)) 163 3 (nI 0)).1 := by
        obtain ⟨n, n1, n2, n3, n4, n5⟩ := h.1.2.2.2.2.1
        have x12 : ∀ c, 12 ≤ c → c < 17 → (q_up (q_up u9 67 1 (nI 0)) 0 5 (nI 0)).1 c = x.1 c := fun c a b => cx9 c (by omega) (by omega)
        refine ⟨n, n1, by rw [x12 12 (by omega) (by omega)]; exact n2, by rw [cyv 170 (by omega) (by omega), gv.1 170 (by omega) (by omega), yB_o (by omega)]; exact n3, by rw [x12 12 (by omega) (by omega)]; exact n4, fun i hi => ?_⟩
        exact (n5 i hi).mv (by omega) (by rw [x12 12 (by omega) (by omega)]) (by rw [x12 (12 + 1) (by omega) (by omega)]) (by rw [x12 (12 + 2) (by omega) (by omega)]) (by rw [x12 (12 + 2) (by omega) (by omega)]) (by rw [x12 (12 + 3) (by omega) (by omega)]) (fun j _ => by rw [x12 (12 + 4) (by omega) (by omega)]) (by rw [cyv 171 (by omega) (by omega), gv.2.2.1 171 i (by omega) (by omega) (by omega), yB_o (by omega)]) (by rw [cyv 172 (by omega) (by omega), gv.2.2.1 172 i (by omega) (by omega) (by omega), yB_o (by omega)]) (by rw [cyv 173 (by omega) (by omega), gv.2.2.1 173 i (by omega) (by omega) (by omega), yB_o (by omega)]) (by rw [cyv 174 (by omega) (by omega), gv.2.2.1 174 i (by omega) (by omega) (by omega), yB_o (by omega)]) (fun j hj => by rw [cyv 175 (by omega) (by omega), gv.2.2.2.1 175 j (by omega) (by omega) (by omega), yB_o (by omega)]) (fun j hj => by rw [cyv 176 (by omega) (by omega), gv.2.2.2.1 176 j (by omega) (by omega) (by omega), yB_o (by omega)])
      have hPa : RPa 19 (q_up (q_up u9 67 1 (nI 0)) 0 5 (nI 0)).1 (q_up (q_up v9 163 38 (nI k)) 163 3 (nI 0)).1 := by
        have hp := h.1.2.2.2.2.2.1
        have z178 : ∀ j, j < 90 → (q_up (q_up v9 163 38 (nI k)) 163 3 (nI 0)).1 178 j = y.1 178 j := fun j hj => by rw [cyv 178 (by omega) (by omega), gv.2.2.2.2.1 j hj, yB_o (by omega)]
        refine ⟨?_, fun e he => ?_⟩
        · rw [cx9 19 (by omega) (by omega), gy 36 (by omega)]; exact hp.1
        · obtain ⟨m, m1, m2, m3, m4, m5⟩ := hp.2 e he
          have hps : ∀ n, n ≤ 8 → pset (fun i => (q_up (q_up v9 163 38 (nI k)) 163 3 (nI 0)).1 178 (9 * e + 1 + i)) n = pset (fun i => y.1 178 (9 * e + 1 + i)) n := by
            intro n
            induction n with
            | zero => intro _; rfl
            | succ n ih => intro hn; unfold pset; rw [ih (by omega), z178 _ (by omega)]
          refine ⟨m, m1, by rw [cx9 (19 + 1) (by omega) (by omega)]; exact m2, by rw [z178 _ (by omega)]; exact m3, fun i hi => ?_, by rw [cx9 (19 + 3) (by omega) (by omega), hps m m1]; exact m5⟩
          obtain ⟨q, q1, q2, q3⟩ := m4 i hi
          exact ⟨q, q1, by rw [cx9 (19 + 2) (by omega) (by omega)]; exact q2, by rw [z178 _ (by omega)]; exact q3⟩
      have hNn : RPn 23 (q_up (q_up u9 67 1 (nI 0)) 0 5 (nI 0)).1 (q_up (q_up v9 163 38 (nI k)) 163 3 (nI 0)).1 ((q_up (q_up v9 163 38 (nI k)) 163 3 (nI 0)).1 163) := by
        have z179 : ∀ j, j < 4 * k → (q_up (q_up v9 163 38 (nI k)) 163 3 (nI 0)).1 179 j = v2.1 179 (64 + j) := fun j hj => by
          rw [q_up_1, if_neg (by omega), q_up_1, if_neg (by omega), d2 j, if_pos (by omega)]
          rfl
        refine ⟨k, a3, ?_, rfl, fun j hj => ?_⟩
        · show u9.1 23 0 = nI k
          rw [b2]; exact a5
        · obtain ⟨d, q, o, p1, p2, p3, p4, p5, p6, p7, p8, p9, p10, p11, p12, p13, p14⟩ := a6 j hj
          refine ⟨d, q, o, p1, ?_, ?_, ?_, ?_, ?_, ?_, ?_, p9, fun hd => ?_, fun hd => ?_, p12, p13, p14⟩
          · show u9.1 24 j = _
            rw [b3 j (by omega), z179 _ (by omega)]; exact p2
          · rw [z179 _ (by omega)]; exact p3
          · show u9.1 25 j = _
            rw [b4 j (by omega)]; exact p4
          · show u9.1 26 j = _
            rw [b5 j (by omega)]; exact p5
          · rw [z179 _ (by omega)]; exact p6
          · show u9.1 27 j = _
            rw [b6 j (by omega)]; exact p7
          · rw [z179 _ (by omega)]; exact p8
          · rw [gy 6 (by omega), hP2]
            have := p10 hd; omega
          · rw [gy 7 (by omega), hE2]
            have := p11 hd; omega
      refine h.txt (fun c hc => cx9 c (by omega) (by omega)) (cx0 3 (by omega)) (cx0 6 (by omega)) hL hPa hNn (Or.inr ⟨rfl, rfl⟩) (fun c h1 h2 => by rw [cyv c h1 (by omega), gv.1 c h1 (by omega), yB_o h1]) (fun j hj => gy j (by omega)) rfl ?_ ?_ ?_
      · rw [up163 (by omega), up163 (by omega), d3 163 (by omega)]; rfl
      · rw [gj 34 (by omega) (by omega) (by omega) (by omega) (by omega) (by omega) (by omega) (by omega) (by omega)]
        show u9.1 66 0 = nI 0
        rw [b7 66 (by omega), nx.2 0 (by omega), ud66]; rfl
      · rw [gj 35 (by omega) (by omega) (by omega) (by omega) (by omega) (by omega) (by omega) (by omega) (by omega)]
        show u9.1 66 1 = mI
        rw [b7 66 (by omega), nx.2 1 (by omega), ud66]; rfl
/-- no such text -/
theorem text_no {x y : qS} {a : Int32} (h : Rel x y) (ha : ¬ (0 ≤ a.toInt ∧ a.toInt ≤ 2)) : ∃ r x2 y2, m_X10_text a x = some (r, x2) ∧ m_X11_text a y = some (r, y2) ∧ Rel x2 y2 := by
  have hi := in_r a 0 2 (q_up (q_up (q_up (q_up (q_up (q_up y 163 0 (nI 0)) 163 34 (nI 0)) 163 35 mI) 163 15 (nI 0)) 163 28 (nI 0)) 163 29 (nI 0)) (by omega) (by omega)
  rw [decide_eq_false (by omega)] at hi
  refine ⟨mI, q_up (xB x) 67 1 (nI 0), q_up (q_up (q_up (q_up (q_up (q_up (q_up y 163 0 (nI 0)) 163 34 (nI 0)) 163 35 mI) 163 15 (nI 0)) 163 28 (nI 0)) 163 29 (nI 0)) 163 14 (nI 0), ?_, ?_, ?_⟩
  · unfold m_X10_text
    simp only [lit_n, mI_lit]
    rw [begin_t, q_bd_s', q_jn, if_neg (by omega), if_neg (by omega), if_neg (by omega)]
    dsimp only
    rw [q_let_s, if_pos rfl]
  · unfold m_X11_text
    simp only [lit_n, mI_lit]
    rw [q_let_s, q_let_s, q_let_s, q_let_s, q_let_s, q_let_s, hi, q_bd_s', q_jn, if_pos bI_0]
    dsimp only
    rw [q_let_s, if_pos rfl]
  · have cx : ∀ c, c ≠ 66 → c ≠ 67 → (q_up (xB x) 67 1 (nI 0)).1 c = x.1 c := fun c h1 h2 => by rw [q_up_1, if_neg h2, xB_o h1]
    have cy : ∀ c, c ≠ 163 → (q_up (q_up (q_up (q_up (q_up (q_up (q_up y 163 0 (nI 0)) 163 34 (nI 0)) 163 35 mI) 163 15 (nI 0)) 163 28 (nI 0)) 163 29 (nI 0)) 163 14 (nI 0)).1 c = y.1 c := fun c hc => by rw [q_up_1, if_neg hc, q_up_1, if_neg hc, q_up_1, if_neg hc, q_up_1, if_neg hc, q_up_1, if_neg hc, q_up_1, if_neg hc, q_up_1, if_neg hc]
    have gj : ∀ j, j ≠ 0 → j ≠ 34 → j ≠ 35 → j ≠ 15 → j ≠ 28 → j ≠ 29 → j ≠ 14 → (q_up (q_up (q_up (q_up (q_up (q_up (q_up y 163 0 (nI 0)) 163 34 (nI 0)) 163 35 mI) 163 15 (nI 0)) 163 28 (nI 0)) 163 29 (nI 0)) 163 14 (nI 0)).1 163 j = y.1 163 j := fun j h1 h2 h3 h4 h5 h6 h7 => by rw [up163 h7, up163 h6, up163 h5, up163 h4, up163 h3, up163 h2, up163 h1]
    have hW := h.1.mv (X2 := (q_up (xB x) 67 1 (nI 0)).1) (Z2 := (q_up (q_up (q_up (q_up (q_up (q_up (q_up y 163 0 (nI 0)) 163 34 (nI 0)) 163 35 mI) 163 15 (nI 0)) 163 28 (nI 0)) 163 29 (nI 0)) 163 14 (nI 0)).1) (XP.of (fun c a1 a2 _ _ => cx c (by omega) (by omega))) ⟨fun j hj => by rw [cy 164 (by omega)], fun j hj => gj j (by unfold gsl at hj; omega) (by unfold gsl at hj; omega) (by unfold gsl at hj; omega) (by unfold gsl at hj; omega) (by unfold gsl at hj; omega) (by unfold gsl at hj; omega) (by unfold gsl at hj; omega), fun j hj => by rw [cy 167 (by omega)], by rw [cy 170 (by omega)], fun c a1 a2 j hj => by rw [cy c (by omega)], fun c a1 a2 j hj => by rw [cy c (by omega)], fun j hj => by rw [cy 178 (by omega)], fun j hj => by rw [cy 179 (by omega)], fun j hj => by rw [cy 184 (by omega)]⟩
    exact h.txt (fun c hc => cx c (by omega) (by omega)) (by rw [cx 0 (by omega) (by omega)]) (by rw [cx 0 (by omega) (by omega)]) hW.2.2.2.2.1 hW.2.2.2.2.2.1 hW.2.2.2.2.2.2.1 (Or.inl ⟨by rw [cx 0 (by omega) (by omega)], gj 3 (by omega) (by omega) (by omega) (by omega) (by omega) (by omega) (by omega)⟩) (fun c h1 h2 => cy c h1) (fun j hj => gj j (by omega) (by omega) (by omega) (by omega) (by omega) (by omega) (by omega)) rfl rfl rfl rfl
theorem sim_text (a : Int32) : SIM (m_X10_text a) (m_X11_text a) := fun x y h => by
  by_cases ha : 0 ≤ a.toInt ∧ a.toInt ≤ 2
  · obtain ⟨n, n1, n2, n3⟩ := nI_ex (x := a) (b := 2) ha.1 ha.2 (by omega)
    have : n = 0 ∨ n = 1 ∨ n = 2 := by omega
    rw [n2]
    rcases this with rfl | rfl | rfl
    · exact text_law h
    · exact text_paths h
    · exact text_plan h
  · exact text_no h ha
