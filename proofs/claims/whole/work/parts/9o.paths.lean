/-! LAYER 2: THE CALLS, 41: text, paths -/
theorem e1_t : ∀ E, E < 11 → (nI E - nI 1).toInt = (E : Int) - 1 := by decide
def RQl (g : Nat) (k : Int32) (v : qS) : qR := q_it1 (m_X11_readPaths_L29 (fun u_6 => q_bd (m_X11_errs (nI 3) u_6) fun r u_7 => some (r, u_7)) (fun u_8 => some (mI, u_8)) (fun x1 u_9 => if (u_9.1 163 17).toInt = 0 then some (x1, u_9) else q_bd (m_X11_errs (nI 1) u_9) fun r_10 u_11 => some (r_10, u_11))) g k v
section
variable {N T : Nat} {z : Nat → Int} {u0 v0 : qS}
theorem mark_b {si : Nat} {u v : qS} {i : Nat} (hX : CX N z si T u0 v0) (h : BS N z T u0 v0 u v i) : (∃ u2 v2 w p, m_X6_takes 66 (nI 59) u = some (nI 0, u2) ∧ m_X11_readMark (nI 59) v = some (mI, v2) ∧ FC u0 u2 w p ∧ FV v0 v2 w p) ∨ (∃ v2, i < T ∧ m_X6_takes 66 (nI 59) u = some (nI 1, q_up u 66 6 (u.1 66 6 + nI 1)) ∧ m_X11_readMark (nI 59) v = some (nI 0, v2) ∧ BS N z T u0 v0 (q_up u 66 6 (u.1 66 6 + nI 1)) v2 (i + 1) ∧ KP v v2) := by
  have s59 := sign_r (c := 59) hX h.2.2.2.2 (by omega) (by omega)
  rcases take_b (c := 59) hX h (by omega) (by omega) with ⟨t1, t2, t3, v2, r1, r2, r3⟩ | ⟨t1, u2, v2, t2, t3, t4, t5⟩
  · refine Or.inr ⟨v2, t2, t3, ?_, r2, r3⟩
    unfold m_X11_readMark
    simp only [lit_n]
    rw [s59, q_bd_s', decide_eq_true t1, if_neg bI_1, r1, q_bd_s']
  · refine Or.inl ⟨u2, v2, 1, _, t2, ?_, t4, t5⟩
    unfold m_X11_readMark
    simp only [lit_n]
    rw [s59, q_bd_s', decide_eq_false t1, if_pos bI_0, t3, q_bd_s']
theorem pll {E : Nat} (hX : CX N z 1 T u0 v0) (hE : E ≤ 10) (hu : u0.1 66 8 = nI E) (hv : v0.1 163 7 = nI E) : ∀ (n i k f g : Nat) (u v : qS), T - i < n → T - i < f → T - i < g → k ≤ 16 → BS N z T u0 v0 u v i → u.1 79 0 = nI k → (∀ e, e < 10 → ∃ m, PE u v e m) →
    (∃ u2 v2 w p, (∀ KA KB, q_it1 (m_X6_readPaths_L18 66 19 KA KB) f (nI k) u = KA u2) ∧ RQl g (nI k) v = some (mI, v2) ∧ FC u0 u2 w p ∧ FV v0 v2 w p) ∨
    (∃ u2 v2 k2 i2, (∀ KA KB, q_it1 (m_X6_readPaths_L18 66 19 KA KB) f (nI k) u = KB u2) ∧ RQl g (nI k) v = some (nI k2, v2) ∧ k2 ≤ 16 ∧ BS N z T u0 v0 u2 v2 i2 ∧ u2.1 79 0 = nI k2 ∧ ∀ e, e < 10 → ∃ m, PE u2 v2 e m)
  | 0, i, k, f, g, u, v, hn, hf, hg, hk, hB, h79, hP => by omega
  | n + 1, i, k, 0, g, u, v, hn, hf, hg, hk, hB, h79, hP => by omega
  | n + 1, i, k, f, 0, u, v, hn, hf, hg, hk, hB, h79, hP => by omega
  | n + 1, i, k, f + 1, g + 1, u, v, hn, hf, hg, hk, hB, h79, hP => by
    have hT := hX.T4
    have hB' := hB
    obtain ⟨hG, hN, hiT, gv, hA⟩ := hB
    have ha := ck_all (si := 1) (hX.tok i) hX.se
    have kd := kind_c hX hG hN.1 hiT
    have kl := ck_lt hX i
    have h4 := (hX.tok i).1
    have hsA : sA 1 = 16 := rfl
    have hsE : sE 1 = 18 := rfl
    have w16 := word_is (w := 16) hX hA (by decide) (by decide)
    rw [show 256 + (16 - sA 1) = 256 from rfl] at w16
    have g16 : ¬ (nI 16).toInt < (nI k).toInt := by rw [nI_t (by omega), nI_t (by omega)]; omega
    have u68 : u.1 66 8 = nI E := by rw [hN.2 8 (by omega)]; exact hu
    have v67 : v.1 163 7 = nI E := by rw [gv.2.1 7 (by omega) (by omega) (by omega) (by omega) (by omega) (by omega)]; exact hv
    have stC0 : ck 1 (tx N z i) ≠ 0 → ∀ KA KB, q_it1 (m_X6_readPaths_L18 66 19 KA KB) (f + 1) (nI k) u = q_bd (m_X6_pathLine 66 (nI k) u) fun r_4 u_5 => if r_4.toInt = 0 then KA u_5 else q_it1 (m_X6_readPaths_L18 66 19 KA KB) f (nI (k + 1)) u_5 := fun h0 KA KB => by
      show m_X6_readPaths_L18 _ _ _ _ (q_it1 (m_X6_readPaths_L18 66 19 KA KB) f) _ _ = _
      generalize q_it1 (m_X6_readPaths_L18 66 19 KA KB) f = self
      unfold m_X6_readPaths_L18
      simp only [lit_n]
      rw [if_neg g16, kd, q_bd_s', if_neg (by rw [nI_t (by omega)]; omega), nI_add]
    by_cases c256 : ck 1 (tx N z i) = 256
    · by_cases k16 : k < 16
      · rcases take_b (c := 256) hX hB' (by omega) (by omega) with ⟨t1, t2, t3, v2, r1, r2, r3⟩ | ⟨t1, _⟩
        · have bg : m_X6_begins 66 (nI 256) (nI k) u = some (nI 1, q_up u 66 6 (u.1 66 6 + nI 1)) := by
            unfold m_X6_begins
            simp only [lit_n]
            rw [kd, q_bd_s', q_jn, c256, if_pos rfl, if_pos (by rw [nI_t (by omega), nI_t (by omega)]; omega)]
            dsimp only
            rw [t3, q_bd_s', bz_1]
          have un8 : (q_up u 66 6 (u.1 66 6 + nI 1)).1 66 8 = nI E := u68
          generalize hun : q_up u 66 6 (u.1 66 6 + nI 1) = un at *
          have stR0 : RQl (g + 1) (nI k) v = q_bd (m_X11_readPath v) fun r_4 u_5 => if r_4.toInt = mI.toInt then some (mI, u_5) else RQl g (nI (k + 1)) u_5 := by
            unfold RQl
            show m_X11_readPaths_L29 _ _ _ (RQl g) _ _ = _
            unfold m_X11_readPaths_L29
            simp only [lit_n, mI_lit]
            rw [w16, q_bd_s', decide_eq_true c256, if_neg bI_1, if_neg (by rw [nI_t (by omega), nI_t (by omega)]; omega), nI_add]
            rfl
          have rt : ∀ r v3, m_X11_readNumber (nI 0) (nI E - nI 1) v2 = some (r, v3) → m_X11_readTold (nI 16) (nI 0) (nI E - nI 1) v = some (r, v3) := fun r v3 hr => by
            unfold m_X11_readTold
            simp only [lit_n]
            rw [w16, q_bd_s', decide_eq_true c256, if_neg bI_1, r1, q_bd_s', hr, q_bd_s']
          rcases num_b hX r2 0 (nI E - nI 1) (by omega) with ⟨u3, v3, w, p, x1, x2, x3, x4⟩ | ⟨v3, x1, x2, x3, x4, x5, x6, x7, x8, x9⟩
          · refine Or.inl ⟨u3, v3, w, p, fun KA KB => ?_, ?_, x3, x4⟩
            · rw [stC0 (by omega)]
              unfold m_X6_pathLine
              simp only [lit_n, mI_lit]
              rw [bg, q_bd_s', if_neg (by decide), un8, x1, q_bd_s', if_pos rfl, q_bd_s', if_pos (by decide)]
            · rw [stR0]
              unfold m_X11_readPath
              simp only [lit_n, mI_lit]
              rw [v67, rt _ _ x2, q_bd_s', if_pos rfl, q_bd_s', if_pos rfl]
          · rw [e1_t E (by omega)] at x3
            generalize hee : (tx N z (i + 1)).2 = e at *
            have he : e < 10 := by omega
            have ne : ¬ (nI e).toInt = mI.toInt := by rw [nI_t (by omega), mI_t]; omega
            generalize hum : q_up un 66 6 (un.1 66 6 + nI 1) = um at *
            have w17 := word_is (w := 17) hX x8.2.2.2.2 (by decide) (by decide)
            rw [show 256 + (17 - sA 1) = 257 from rfl] at w17
            rcases take_b (c := 257) hX x8 (by omega) (by omega) with ⟨s1, s2, s3, v4, q1, q2, q3⟩ | ⟨s1, u4, v4, s2, s3, s4, s5⟩
            · generalize huo : q_up um 66 6 (um.1 66 6 + nI 1) = uo at *
              -- the path is cleared
              have cp : m_X4_clearPath 79 (nI e) uo = some (nI 0, q_up (q_up uo 80 e (nI 0)) 82 e (nI 0)) := by
                unfold m_X4_clearPath
                simp only [lit_n]
                rw [show 79 + 1 = 80 from rfl, ast_n (by omega) (by omega), Option.bind_some, show 79 + 3 = 82 from rfl, ast_n (by omega) (by omega), Option.bind_some]
              generalize hu6 : q_up (q_up uo 80 e (nI 0)) 82 e (nI 0) = u6 at cp
              generalize hv6 : q_up v4 178 (90 + 9 * e) (nI 0) = v6
              have hB6 : BS N z T u0 v0 u6 v6 (i + 1 + 1 + 1) := by
                rw [← hu6, ← hv6]
                exact ((q2.uc (by omega)).uc (by omega)).vc (Or.inl ⟨rfl, by omega⟩)
              have uo_c : ∀ c, c ≠ 66 → uo.1 c = u.1 c := fun c hc => by rw [← huo, q_up_1, if_neg hc, ← hum, q_up_1, if_neg hc, ← hun, q_up_1, if_neg hc]
              have v4_178 : v4.1 178 = v.1 178 := by rw [q3.1 178 (by omega), x9.1 178 (by omega), r3.1 178 (by omega)]
              have u6_80 : ∀ j, u6.1 80 j = if j = e then nI 0 else u.1 80 j := fun j => by
                rw [← hu6]
                show (if j = e then nI 0 else uo.1 80 j) = _
                rw [uo_c 80 (by omega)]
              have u6_81 : ∀ j, u6.1 81 j = u.1 81 j := fun j => by
                rw [← hu6]
                show uo.1 81 j = _
                rw [uo_c 81 (by omega)]
              have u6_82 : ∀ j, u6.1 82 j = if j = e then nI 0 else u.1 82 j := fun j => by
                rw [← hu6]
                show (if j = e then nI 0 else uo.1 82 j) = _
                rw [uo_c 82 (by omega)]
              have v6_j : ∀ j, v6.1 178 j = if j = 90 + 9 * e then nI 0 else v.1 178 j := fun j => by
                rw [← hv6, q_up_1, if_pos rfl, upd_g, v4_178]
              have hP0 : PE u6 v6 e 0 := ⟨by omega, by rw [u6_80, if_pos rfl], by rw [v6_j, if_pos rfl], fun t ht => by omega, by rw [u6_82, if_pos rfl]; rfl⟩
              have hPo : ∀ e', e' < 10 → e' ≠ e → ∃ m, PE u6 v6 e' m := fun e' h1 h2 => by
                obtain ⟨m, hm⟩ := hP e' h1
                exact ⟨m, hm.fr (by rw [u6_80, if_neg h2]) (fun t ht => u6_81 _) (by rw [u6_82, if_neg h2]) (fun j j1 j2 => by rw [v6_j, if_neg (by omega)])⟩
              have stC1 : m_X6_pathLine 66 (nI k) u = q_it1 (m_X6_pathLine_L52 66 (nI e) KAc KPb (fun u_17 => q_let (q_up u_17 79 0 ((u_17.1 79 0) + nI 1)) fun u_18 => q_bd (m_X6_takes 66 (nI 59) u_18) fun r_19 u_20 => q_bz r_19 (some (r_19, u_20)))) q_F (nI 0) u6 := by
                unfold m_X6_pathLine
                simp only [lit_n, mI_lit]
                rw [bg, q_bd_s', if_neg (by decide), un8, x6, q_bd_s', if_neg ne, s3, q_bd_s', if_neg (by decide), show 66 + 13 = 79 from rfl, cp, q_bd_s']
                rfl
              have stR1 : m_X11_readPath v = RPl (fun u_18 => q_bd (m_X11_readMark (nI 59) u_18) fun r_19 u_20 => some (r_19, u_20)) (nI (90 + 9 * e)) q_F v6 := by
                unfold m_X11_readPath RPl
                simp only [lit_n, mI_lit]
                rw [v67, rt _ _ x7, q_bd_s', if_neg ne, w17, q_bd_s', decide_eq_true s1, if_neg bI_1, q1, q_bd_s', pk_mul, nI_add, q_let_s, ast_n (by omega) (by omega), Option.bind_some, hv6]
              rcases plp hX he (T + 1) (i + 1 + 1 + 1) 0 q_F q_F u6 v6 (by omega) (by rw [q_F_eq]; omega) (by rw [q_F_eq]; omega) hB6 hP0 with ⟨u7, v7, w, p, y1, y2, y3, y4⟩ | ⟨u7, v7, i7, m7, y1, y2, y3, y4, y5, y6, y7⟩
              · refine Or.inl ⟨u7, v7, w, p, fun KA KB => ?_, ?_, y3, y4⟩
                · rw [stC0 (by omega), stC1, y1, q_bd_s', if_pos (by decide)]
                · rw [stR0, stR1, y2, q_bd_s', if_pos rfl]
              · have hB8 := y4.uc (c := 79) (j := 0) (x := u7.1 79 0 + nI 1) (by omega)
                have u79 : u7.1 79 0 = nI k := by
                  rw [y6, ← hu6]
                  show uo.1 79 0 = _
                  rw [uo_c 79 (by omega)]; exact h79
                rcases mark_b hX hB8 with ⟨u9, v9, w, p, z1, z2, z3, z4⟩ | ⟨v9, z1, z2, z3, z4, z5⟩
                · refine Or.inl ⟨u9, v9, w, p, fun KA KB => ?_, ?_, z3, z4⟩
                  · rw [stC0 (by omega), stC1, y1, q_let_s, z1, q_bd_s', bz_0, q_bd_s', if_pos (by decide)]
                  · rw [stR0, stR1, y2, z2, q_bd_s', q_bd_s', if_pos rfl]
                · have hPn : ∀ e', e' < 10 → ∃ m, PE (q_up (q_up u7 79 0 (u7.1 79 0 + nI 1)) 66 6 ((q_up u7 79 0 (u7.1 79 0 + nI 1)).1 66 6 + nI 1)) v9 e' m := fun e' h1 => by
                    have base : ∃ m, PE u7 v7 e' m := by
                      by_cases e2 : e' = e
                      · exact ⟨m7, by rw [e2]; exact y5⟩
                      · obtain ⟨m, hm⟩ := hPo e' h1 e2
                        exact ⟨m, y7 e' h1 e2 m hm⟩
                    obtain ⟨m, hm⟩ := base
                    exact ⟨m, hm.fr rfl (fun _ _ => rfl) rfl (fun j _ _ => by rw [z5.1 178 (by omega)])⟩
                  have n79 : (q_up (q_up u7 79 0 (u7.1 79 0 + nI 1)) 66 6 ((q_up u7 79 0 (u7.1 79 0 + nI 1)).1 66 6 + nI 1)).1 79 0 = nI (k + 1) := by
                    show u7.1 79 0 + nI 1 = _
                    rw [u79, nI_add]
                  have i7T : i7 ≤ T := y4.2.2.1
                  rcases pll hX hE hu hv n (i7 + 1) (k + 1) f g _ v9 (by omega) (by omega) (by omega) (by omega) z4 n79 hPn with ⟨ua, va, w, p, d1, d2, d3, d4⟩ | ⟨ua, va, k2, i2, d1, d2, d3⟩
                  · refine Or.inl ⟨ua, va, w, p, fun KA KB => ?_, ?_, d3, d4⟩
                    · rw [stC0 (by omega), stC1, y1, q_let_s, z2, q_bd_s', bz_1, q_bd_s', if_neg (by decide)]; exact d1 KA KB
                    · rw [stR0, stR1, y2, z3, q_bd_s', q_bd_s', if_neg (by decide)]; exact d2
                  · refine Or.inr ⟨ua, va, k2, i2, fun KA KB => ?_, ?_, d3⟩
                    · rw [stC0 (by omega), stC1, y1, q_let_s, z2, q_bd_s', bz_1, q_bd_s', if_neg (by decide)]; exact d1 KA KB
                    · rw [stR0, stR1, y2, z3, q_bd_s', q_bd_s', if_neg (by decide)]; exact d2
            · refine Or.inl ⟨u4, v4, 1, _, fun KA KB => ?_, ?_, s4, s5⟩
              · rw [stC0 (by omega)]
                unfold m_X6_pathLine
                simp only [lit_n, mI_lit]
                rw [bg, q_bd_s', if_neg (by decide), un8, x6, q_bd_s', if_neg ne, s2, q_bd_s', if_pos (by decide), q_bd_s', if_pos (by decide)]
              · rw [stR0]
                unfold m_X11_readPath
                simp only [lit_n, mI_lit]
                rw [v67, rt _ _ x7, q_bd_s', if_neg ne, w17, q_bd_s', decide_eq_false s1, if_pos bI_0, s3, q_bd_s', q_bd_s', if_pos rfl]
        · exact absurd c256 t1
      · obtain ⟨u2, c1, c2⟩ := fail_c (w := 3) hX hG hN.1 hiT
        obtain ⟨v2, d1, d2⟩ := errs_r (w := 3) hA gv
        refine Or.inl ⟨u2, v2, 3, _, fun KA KB => ?_, ?_, c2, d2⟩
        · rw [stC0 (by omega)]
          unfold m_X6_pathLine m_X6_begins
          simp only [lit_n, mI_lit]
          rw [kd, q_bd_s', q_jn, c256, if_pos rfl, if_neg (by rw [nI_t (by omega), nI_t (by omega)]; omega), c1, q_bd_s', bz_0, q_bd_s', if_pos (by decide), q_bd_s', if_pos (by decide)]
        · unfold RQl
          show m_X11_readPaths_L29 _ _ _ (RQl g) _ _ = _
          unfold m_X11_readPaths_L29
          simp only [lit_n, mI_lit]
          rw [w16, q_bd_s', decide_eq_true c256, if_neg bI_1, if_pos (by rw [nI_t (by omega), nI_t (by omega)]; omega), d1, q_bd_s']
    · by_cases k0 : ck 1 (tx N z i) = 0
      · refine Or.inr ⟨u, v, k, i, fun KA KB => ?_, ?_, hk, hB', h79, hP⟩
        · show m_X6_readPaths_L18 _ _ _ _ (q_it1 (m_X6_readPaths_L18 66 19 KA KB) f) _ _ = _
          generalize q_it1 (m_X6_readPaths_L18 66 19 KA KB) f = self
          unfold m_X6_readPaths_L18
          simp only [lit_n]
          rw [if_neg g16, kd, q_bd_s', k0, if_pos (by decide)]
        · unfold RQl
          show m_X11_readPaths_L29 _ _ _ (RQl g) _ _ = _
          unfold m_X11_readPaths_L29
          simp only [lit_n, mI_lit]
          rw [w16, q_bd_s', decide_eq_false c256, if_pos bI_0, hA.2.2.1, if_pos (by rw [nI_t (by omega)]; omega)]
      · obtain ⟨u2, c1, c2⟩ := fail_c (w := 1) hX hG hN.1 hiT
        obtain ⟨v2, d1, d2⟩ := errs_r (w := 1) hA gv
        have tk : m_X6_takes 66 (nI 256) u = some (nI 0, u2) := by
          unfold m_X6_takes
          simp only [lit_n]
          rw [kd, q_bd_s', if_neg (by rw [nI_t (by omega), nI_t (by omega)]; omega), c1, q_bd_s', bz_0]
        refine Or.inl ⟨u2, v2, 1, _, fun KA KB => ?_, ?_, c2, d2⟩
        · rw [stC0 k0]
          unfold m_X6_pathLine m_X6_begins
          simp only [lit_n, mI_lit]
          rw [kd, q_bd_s', q_jn, if_neg (by rw [nI_t (by omega), nI_t (by omega)]; omega)]
          dsimp only
          rw [tk, q_bd_s', bz_0, q_bd_s', if_pos (by decide), q_bd_s', if_pos (by decide)]
        · unfold RQl
          show m_X11_readPaths_L29 _ _ _ (RQl g) _ _ = _
          unfold m_X11_readPaths_L29
          simp only [lit_n, mI_lit]
          rw [w16, q_bd_s', decide_eq_false c256, if_pos bI_0, hA.2.2.1, if_neg (by rw [nI_t (by omega)]; omega), d1, q_bd_s']
end
