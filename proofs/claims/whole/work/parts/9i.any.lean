/-! LAYER 2: THE CALLS, 35: brackets, not; a whole condition -/
section
variable {N T si : Nat} {z : Nat → Int} {u0 v0 u1 v1 : qS} {k w : Nat}
theorem takes_c {u : qS} {i c : Nat} (hX : CX N z si T u0 v0) (hG : GC u0 u) (hN : NX u0 u i) (hi : i ≤ T) (hc : c < 300) (h0 : c ≠ 0) : (ck si (tx N z i) = c ∧ i < T ∧ m_X6_takes 66 (nI c) u = some (nI 1, q_up u 66 6 (u.1 66 6 + nI 1))) ∨ (ck si (tx N z i) ≠ c ∧ ∃ u2, m_X6_takes 66 (nI c) u = some (nI 0, u2) ∧ FC u0 u2 1 (tq N z i)) := by
  have kd := kind_c hX hG hN.1 hi
  have kl := ck_lt hX i
  unfold m_X6_takes
  simp only [lit_n]
  rw [kd, q_bd_s', nI_t (by omega), nI_t (by omega)]
  by_cases e : ck si (tx N z i) = c
  · rw [if_pos (by omega), q_let_s]
    exact Or.inl ⟨e, hX.lt hi (by omega), rfl⟩
  · obtain ⟨u2, c1, c2⟩ := fail_c (w := 1) hX hG hN.1 hi
    rw [if_neg (by omega), c1, q_bd_s', bz_0]
    exact Or.inr ⟨e, u2, rfl, c2⟩
theorem sng_s {Cf Sf : Int32 → qS → qR} {o : Nat} (hX : CX N z 0 T u0 v0) (hk : k ≤ 15) (hw : u1.1 73 k = nI w) (hw3 : w < 3) (ho : o ≤ 8) (hS : o < 8 → SNGp N z T u0 v0 u1 v1 k w Sf (o + 1)) (hCn : o < 8 → CNDp N z T u0 v0 u1 v1 k w Cf (o + 1)) : SNGp N z T u0 v0 u1 v1 k w (b_X6_single 66 Cf Sf) o := by
  intro u v i h pre rpre np S kn b fr hkn hknp hb hC hV hD tS hS4 hSl b1 b2 hfr
  have hT := hX.T4
  have hiT : i ≤ T := hC.2.2.1
  have kl := ck_lt hX i
  have hA := hV.2.1
  have kd := kind_c hX hC.1 hC.2.1.1 hiT
  have w6 := word_is (w := 6) hX hA (by decide) (by decide)
  rw [show 256 + (6 - sA 0) = 262 from rfl] at w6
  have s40 := sign_r (c := 40) hX hA (by omega) (by omega)
  have h29 : v.1 163 29 = nI o := hV.2.2.1.2.1
  have lD : (S ++ rep 9 kn).length = S.length + kn := by rw [List.length_append, rep_len]
  cases fr with
  | zero => omega
  | succ fr =>
    by_cases cN : ck 0 (tx N z i) = 262
    · have hlt := hX.lt hiT (by omega)
      by_cases o8 : o < 8
      · have hC1 := nx_c hC hlt
        have hV1 := hV.op (o2 := o + 1)
        have hD1 : PD (q_up v 163 29 (nI (o + 1))) (S ++ rep 9 kn) := hD
        obtain ⟨vb, d1, d2, d3⟩ := wait_r hV1 hD1 (by omega) 9
        obtain ⟨vc, f1, f2, f3⟩ := rd_r hX d2
        have hD3 := d3.hp f3
        rw [List.append_assoc] at hD3
        have stR : RA (fr + 1) (nI b) (nI 1) v = RA fr (nI b) (nI 1) vc := by
          unfold RA
          show m_X11_readAny_L9 _ _ _ _ (RA fr) _ _ _ = _
          unfold m_X11_readAny_L9
          simp only [lit_n, mI_lit]
          rw [if_neg (by decide), w6, q_bd_s', q_jn, decide_eq_true cN, if_neg bI_1]
          dsimp only
          rw [h29, if_neg (by rw [nI_t (by omega), nI_t (by omega)]; omega), nI_add, q_let_s, q_jn, if_neg bI_1]
          dsimp only
          rw [q_jn, if_neg bI_1]
          dsimp only
          rw [d1, q_bd_s', f1, q_bd_s']
          rfl
        have stC : b_X6_single 66 Cf Sf (nI o) u = q_bd (Sf (nI (o + 1)) (q_up u 66 6 (u.1 66 6 + nI 1))) fun r_4 u_5 => if r_4.toInt = 0 then some (nI 0, u_5) else q_bd (m_X2_emit 72 (nI 3) (nI 0) u_5) fun _ u_6 => some (nI 1, u_6) := by
          unfold b_X6_single
          simp only [lit_n]
          rw [kd, q_bd_s', q_jn, cN, if_pos rfl]
          dsimp only
          rw [if_pos (by rw [nI_t (by omega), nI_t (by omega)]; omega), q_let_s, if_neg (by decide), nI_add]
        rcases hS o8 (q_up u 66 6 (u.1 66 6 + nI 1)) vc (i + 1) h pre rpre (np + 1) S (kn + 1) b fr (by omega) (by omega) (by omega) hC1 f2 hD3 tS hS4 (by omega) (by omega) (by omega) (by omega) with ⟨u2, v2, w', p, x1, x2, x3, x4⟩ | ⟨u2, v2, i2, h2, its, fr2, x1, x2, x3, x4, x5, x6, x7, x8, x9, x10, x11, x12⟩
        · refine Or.inl ⟨u2, v2, w', p, ?_, stR.trans x2, x3, x4⟩
          rw [stC, x1, q_bd_s', if_pos (by decide)]
        · have i2T : i2 ≤ T := x5.2.2.1
          obtain ⟨u3, y1, y2⟩ := emit_c x5 (by omega) (3, 0)
          have eR : rpre ++ xp its ++ repI 9 (kn + 1) = rpre ++ xp (its ++ [(3, 0)]) ++ repI 9 kn := by
            rw [xp_app]
            show rpre ++ xp its ++ ([(9, 0)] ++ repI 9 kn) = rpre ++ (xp its ++ [(9, 0)]) ++ repI 9 kn
            rw [← List.append_assoc, ← List.append_assoc rpre]
          have lC : (pre ++ its ++ [(3, 0)]).length = (pre ++ its).length + 1 := ln1
          have lR : (rpre ++ xp (its ++ [(3, 0)])).length = (rpre ++ xp its).length + 1 := by
            rw [xp_app, ← List.append_assoc]
            exact ln1
          rw [eR, show o + 1 - (kn + 1) = o - kn by omega] at x6
          rw [List.append_assoc] at y2 lC
          refine Or.inr ⟨u3, v2, i2, h2, its ++ [(3, 0)], fr2, ?_, stR.trans x2, by omega, x4, y2, x6, x7, by omega, by omega, x10.no.mono (by omega), x11.app (okA.one ⟨by show 3 < 12; omega, by show 0 < 10000; omega⟩), x12.app (HG.op (by omega) 0)⟩
          dsimp only at y1
          rw [stC, x1, q_bd_s', if_neg (by decide), y1, q_bd_s']
      · obtain ⟨u2, c1, c2⟩ := fail_c (w := 3) hX hC.1 hC.2.1.1 hiT
        obtain ⟨v2, d1, d2⟩ := errs_r (w := 3) hA hV.1
        refine Or.inl ⟨u2, v2, 3, tq N z i, ?_, ?_, c2, d2⟩
        · unfold b_X6_single
          simp only [lit_n]
          rw [kd, q_bd_s', q_jn, cN, if_pos rfl]
          dsimp only
          rw [if_neg (by rw [nI_t (by omega), nI_t (by omega)]; omega), c1, q_bd_s', bz_0]
        · unfold RA
          show m_X11_readAny_L9 _ _ _ _ (RA fr) _ _ _ = _
          unfold m_X11_readAny_L9
          simp only [lit_n, mI_lit]
          rw [if_neg (by decide), w6, q_bd_s', q_jn, decide_eq_true cN, if_neg bI_1]
          dsimp only
          rw [h29, if_pos (by rw [nI_t (by omega), nI_t (by omega)]; omega), d1, q_bd_s']
    · by_cases cB : ck 0 (tx N z i) = 40
      · have hlt := hX.lt hiT (by omega)
        by_cases o8 : o < 8
        · have hC1 := nx_c hC hlt
          have hV1 := hV.op (o2 := o + 1)
          have hD1 : PD (q_up v 163 29 (nI (o + 1))) (S ++ rep 9 kn) := hD
          obtain ⟨vb, d1, d2, d3⟩ := wait_r hV1 hD1 (by omega) 12
          obtain ⟨vc, f1, f2, f3⟩ := rd_r hX d2
          have hD3 := d3.hp f3
          have stR : RA (fr + 1) (nI b) (nI 1) v = RA fr (nI (b + 1)) (nI 1) vc := by
            unfold RA
            show m_X11_readAny_L9 _ _ _ _ (RA fr) _ _ _ = _
            unfold m_X11_readAny_L9
            simp only [lit_n, mI_lit]
            rw [if_neg (by decide), w6, q_bd_s', q_jn, decide_eq_false cN, if_pos bI_0, s40, q_bd_s', decide_eq_true cB, if_neg bI_1]
            dsimp only
            rw [h29, if_neg (by rw [nI_t (by omega), nI_t (by omega)]; omega), nI_add, q_let_s, q_jn, if_pos bI_0, q_let_s]
            dsimp only
            rw [q_jn, if_pos bI_0]
            dsimp only
            rw [d1, q_bd_s', f1, q_bd_s', nI_add]
            rfl
          have stC : b_X6_single 66 Cf Sf (nI o) u = q_bd (Cf (nI (o + 1)) (q_up u 66 6 (u.1 66 6 + nI 1))) fun r_7 u_8 => if r_7.toInt = 0 then some (nI 0, u_8) else q_bd (m_X6_takes 66 (nI 41) u_8) fun r_9 u_10 => if r_9.toInt = 0 then some (nI 0, u_10) else some (nI 1, u_10) := by
            unfold b_X6_single
            simp only [lit_n]
            rw [kd, q_bd_s', q_jn, cB, if_neg (by decide), if_pos rfl]
            dsimp only
            rw [if_pos (by rw [nI_t (by omega), nI_t (by omega)]; omega), q_let_s, if_pos rfl, nI_add]
          have l12 : (S ++ rep 9 kn ++ [12]).length = (S ++ rep 9 kn).length + 1 := List.length_append
          have m12 : ∀ y, y ∈ S ++ rep 9 kn ++ [12] → y < 100 := fun y hy => by
            rcases List.mem_append.mp hy with h1 | h1
            · rcases List.mem_append.mp h1 with h3 | h3
              · exact hS4 y h3
              · have := mem_rep kn h3; omega
            · have := List.mem_singleton.mp h1; omega
          rcases hCn o8 (q_up u 66 6 (u.1 66 6 + nI 1)) vc (i + 1) h pre rpre np (S ++ rep 9 kn ++ [12]) (b + 1) fr (by omega) hC1 f2 hD3 (tpN.app (by omega)) (tpN.app (by omega)) (tpN.app (by omega)) m12 (by omega) (by omega) (by omega) (by omega) with ⟨u2, v2, w', p, x1, x2, x3, x4⟩ | ⟨u2, v2, i2, h2, its, fr2, x1, x2, x3, x4, x5, x6, x7, x8, x9, x10, x11, x12⟩
          · refine Or.inl ⟨u2, v2, w', p, ?_, stR.trans x2, x3, x4⟩
            rw [stC, x1, q_bd_s', if_pos (by decide)]
          · have i2T : i2 ≤ T := x5.2.2.1
            have hA2 := x6.2.1
            have s41 := sign_r (c := 41) hX hA2 (by omega) (by omega)
            have nz : ¬ (nI (b + 1)).toInt = 0 := by rw [nI_t (by omega)]; omega
            rcases takes_c (c := 41) hX x5.1 x5.2.1 i2T (by omega) (by omega) with ⟨t1, t2, t3⟩ | ⟨t1, u3, t2, t3⟩
            · have hC3 := nx_c x5 t2
              obtain ⟨p1, p2⟩ := x7
              have p1' : v2.1 163 31 = nI ((S ++ rep 9 kn).length + 1) := by rw [p1, l12]
              have h29' : v2.1 163 29 = nI (o + 1) := x6.2.2.1.2.1
              have hV4 : PV N z v0 v1 (q_up (q_up v2 163 31 (nI (S ++ rep 9 kn).length)) 163 29 (nI o)) i2 (rpre ++ xp its) o := (x6.up rfl).op
              have hD4 : PD (q_up (q_up v2 163 31 (nI (S ++ rep 9 kn).length)) 163 29 (nI o)) (S ++ rep 9 kn) := ⟨rfl, fun j hj => by
                have := p2 j (by omega)
                rw [gd_n _ _ (by omega), if_pos hj] at this
                exact this⟩
              obtain ⟨v5, g1, g2, g3⟩ := setl_r (x := 9) (m := kn) (by omega) tS hS4 hV4 hD4 (by omega) (by omega) (fun _ => hkn) (by omega)
              rw [if_pos rfl] at g2
              obtain ⟨v6, r1, r2, r3⟩ := rd_r hX g2
              refine Or.inr ⟨_, v6, i2 + 1, h2, its, fr2, ?_, ?_, by omega, by omega, hC3, r2, g3.hp r3, by omega, by omega, x10.mono (by omega), x11, x12⟩
              · rw [stC, x1, q_bd_s', if_neg (by decide), t3, q_bd_s', if_neg (by decide)]
              · rw [stR, x2]
                unfold TBr
                rw [if_neg nz, s41, q_bd_s', decide_eq_true t1, if_neg bI_1, p1', nI_sub (by omega), show (S ++ rep 9 kn).length + 1 - 1 = (S ++ rep 9 kn).length by omega, q_let_s, nI_sub (by omega), show b + 1 - 1 = b by omega, q_let_s]
                have h29'' : (q_up v2 163 31 (nI (S ++ rep 9 kn).length)).1 163 29 = nI (o + 1) := h29'
                rw [h29'', nI_sub (by omega), show o + 1 - 1 = o by omega, q_let_s, g1, q_bd_s', r1, q_bd_s']
            · obtain ⟨v3, d1', d2'⟩ := errs_r (w := 1) hA2 x6.1
              refine Or.inl ⟨u3, v3, 1, tq N z i2, ?_, ?_, t3, d2'⟩
              · rw [stC, x1, q_bd_s', if_neg (by decide), t2, q_bd_s', if_pos (by decide)]
              · rw [stR, x2]
                unfold TBr
                rw [if_neg nz, s41, q_bd_s', decide_eq_false t1, if_pos bI_0, d1', q_bd_s']
        · obtain ⟨u2, c1, c2⟩ := fail_c (w := 3) hX hC.1 hC.2.1.1 hiT
          obtain ⟨v2, d1, d2⟩ := errs_r (w := 3) hA hV.1
          refine Or.inl ⟨u2, v2, 3, tq N z i, ?_, ?_, c2, d2⟩
          · unfold b_X6_single
            simp only [lit_n]
            rw [kd, q_bd_s', q_jn, cB, if_neg (by decide), if_pos rfl]
            dsimp only
            rw [if_neg (by rw [nI_t (by omega), nI_t (by omega)]; omega), c1, q_bd_s', bz_0]
          · unfold RA
            show m_X11_readAny_L9 _ _ _ _ (RA fr) _ _ _ = _
            unfold m_X11_readAny_L9
            simp only [lit_n, mI_lit]
            rw [if_neg (by decide), w6, q_bd_s', q_jn, decide_eq_false cN, if_pos bI_0, s40, q_bd_s', decide_eq_true cB, if_neg bI_1]
            dsimp only
            rw [h29, if_pos (by rw [nI_t (by omega), nI_t (by omega)]; omega), d1, q_bd_s']
      · have stC : b_X6_single 66 Cf Sf (nI o) u = CMc u := by
          unfold b_X6_single
          simp only [lit_n]
          rw [kd, q_bd_s', q_jn, nI_t (show ck 0 (tx N z i) < _ by omega), nI_t (show 262 < _ by omega), nI_t (show 40 < _ by omega), if_neg (by omega), if_neg (by omega)]
          rfl
        have stR : RA (fr + 1) (nI b) (nI 1) v = q_bd (m_X11_readCompared v) fun r_32 u_33 => if r_32.toInt = mI.toInt then some (mI, u_33) else q_bd (m_X11_settles (nI 9) u_33) fun _ u_34 => RA fr (nI b) (nI 0) u_34 := by
          unfold RA
          show m_X11_readAny_L9 _ _ _ _ (RA fr) _ _ _ = _
          unfold m_X11_readAny_L9
          simp only [lit_n, mI_lit]
          rw [if_neg (by decide), w6, q_bd_s', q_jn, decide_eq_false cN, if_pos bI_0, s40, q_bd_s', decide_eq_false cB, if_pos bI_0]
          rfl
        rcases cmp_s hX hk hw hw3 hC hV b1 b2 with ⟨u2, v2, w', p, x1, x2, x3, x4⟩ | ⟨u2, v2, i2, h2, its, x1, x2, x3, x4, x5, x6, x7, x8, x9, x10, x11⟩
        · refine Or.inl ⟨u2, v2, w', p, stC.trans x1, ?_, x3, x4⟩
          rw [stR, x2, q_bd_s', if_pos rfl]
        · have i2T : i2 ≤ T := x4.2.2.1
          obtain ⟨v5, g1, g2, g3⟩ := setl_r (x := 9) (m := kn) (by omega) tS hS4 x5 (hD.hp x11) (by omega) (by omega) (fun _ => hkn) (by omega)
          rw [if_pos rfl] at g2
          refine Or.inr ⟨u2, v5, i2, h2, its, fr, stC.trans x1, ?_, x3, by omega, x4, g2, g3, x6, x7, x8.mono (by omega), x9, x10⟩
          rw [stR, x2, q_bd_s', if_neg (by decide), g1, q_bd_s']
theorem cnd_s {Cf Sf : Int32 → qS → qR} {o : Nat} (hX : CX N z 0 T u0 v0) (ho : o ≤ 8) (hS : SNGp N z T u0 v0 u1 v1 k w Sf o) : CNDp N z T u0 v0 u1 v1 k w (b_X6_condition 66 Cf Sf) o := by
  intro u v i h pre rpre np B b fr hb hC hV hD t9 t10 t11 hB hBl b1 b2 hfr
  have hT := hX.T4
  rcases hS u v i h pre rpre np B 0 b fr (by omega) (by omega) hb hC hV (by show PD v (B ++ []); rw [List.append_nil]; exact hD) t9 hB (by omega) b1 b2 hfr with ⟨u2, v2, w', p, x1, x2, x3, x4⟩ | ⟨u2, v2, i2, h2, its, fr2, x1, x2, x3, x4, x5, x6, x7, x8, x9, x10, x11, x12⟩
  · refine Or.inl ⟨u2, v2, w', p, ?_, x2, x3, x4⟩
    unfold b_X6_condition
    simp only [lit_n]
    rw [x1, q_bd_s', if_pos (by decide)]
  · have i2T : i2 ≤ T := x5.2.2.1
    have e0 : ([] : List (Nat × Nat)) ++ (its ++ repI 10 0) = its := List.append_nil its
    have e1 : rpre ++ xp its ++ repI 9 0 = rpre ++ xp ([] ++ its) := List.append_nil _
    rw [e1] at x6
    have stC : b_X6_condition 66 Cf Sf (nI o) u = q_it1 (m_X6_condition_L12 66 Cf Sf (nI o) KAc KDc) q_F (nI 0) u2 := by
      unfold b_X6_condition
      simp only [lit_n]
      rw [x1, q_bd_s', if_neg (by decide)]
      rfl
    rcases cnl (Cf := Cf) (np := np) (h0 := h) (pre := pre) (rpre := rpre) (b := b) hX ho hb hS t9 t10 t11 hB hBl (T - i2 + 1) i2 q_F fr2 u2 v2 h2 [] its 0 0 (by omega) (by rw [q_F_eq]; omega) x4 (by omega) (by omega) (by rw [e0]; exact x5) x6 (by show PD v2 (B ++ [] ++ []); rw [List.append_nil, List.append_nil]; exact x7) (by rw [e0]; omega) (by show (rpre ++ xp its).length + 0 + 0 + np ≤ i2; omega) (fun _ => rfl) (fun e => by omega) (by show QS (its ++ []) _ _; rw [List.append_nil]; exact x10.mono (by omega)) (by rw [e0]; exact x11) (by rw [e0]; exact x12) with ⟨u5, v5, w', p, z1, z2, z3, z4⟩ | ⟨u5, v5, i5, h5, its5, fr5, z1, z2, z3, z4, z5⟩
    · exact Or.inl ⟨u5, v5, w', p, stC.trans z1, x2.trans z2, z3, z4⟩
    · exact Or.inr ⟨u5, v5, i5, h5, its5, fr5, stC.trans z1, x2.trans z2, by omega, z4, z5⟩
theorem cnd_all (hX : CX N z 0 T u0 v0) (hk : k ≤ 15) (hw : u1.1 73 k = nI w) (hw3 : w < 3) : ∀ f, (∀ o, o ≤ 8 → 2 * (8 - o) + 1 ≤ f → SNGp N z T u0 v0 u1 v1 k w (m_X6_rec 66 f).2 o) ∧ (∀ o, o ≤ 8 → 2 * (8 - o) + 2 ≤ f → CNDp N z T u0 v0 u1 v1 k w (m_X6_rec 66 f).1 o)
  | 0 => ⟨fun o h1 h2 => by omega, fun o h1 h2 => by omega⟩
  | f + 1 => by
    obtain ⟨i1, i2⟩ := cnd_all hX hk hw hw3 f
    refine ⟨fun o h1 h2 => ?_, fun o h1 h2 => ?_⟩
    · exact sng_s hX hk hw hw3 h1 (fun h => i1 (o + 1) (by omega) (by omega)) (fun h => i2 (o + 1) (by omega) (by omega))
    · exact cnd_s hX h1 (i1 o h1 (by omega))
theorem any_s {u v : qS} {i np : Nat} {h : Bool} {pre rpre : List (Nat × Nat)} (hX : CX N z 0 T u0 v0) (hk : k ≤ 15) (hw : u1.1 73 k = nI w) (hw3 : w < 3) (hC : PC T u0 u1 u i pre h k) (hV : PV N z v0 v1 v i rpre 0) (b1 : pre.length + np ≤ i) (b2 : rpre.length + np ≤ i) :
    FL u0 v0 (m_X6_condition 66 (nI 0) u) (m_X11_readAny v) ∨ ∃ u2 v2 i2 h2 its, m_X6_condition 66 (nI 0) u = some (nI 1, u2) ∧ m_X11_readAny v = some (nI 0, v2) ∧ i < i2 ∧ PC T u0 u1 u2 i2 (pre ++ its) h2 k ∧ PV N z v0 v1 v2 i2 (rpre ++ xp its) 0 ∧ (pre ++ its).length + np ≤ i2 ∧ (rpre ++ xp its).length + np ≤ i2 ∧ QS its 32 true ∧ okA its ∧ HG h h2 w its := by
  have hT := hX.T4
  have hV1 : PV N z v0 v1 (q_up v 163 31 (nI 0)) i rpre 0 := hV.up rfl
  have hD1 : PD (q_up v 163 31 (nI 0)) [] := ⟨rfl, fun j hj => by have : j < 0 := hj; omega⟩
  have stR : m_X11_readAny v = RA q_F (nI 0) (nI 1) (q_up v 163 31 (nI 0)) := by
    unfold m_X11_readAny RA
    simp only [lit_n, mI_lit]
    rw [q_let_s]
  rcases (cnd_all (v1 := v1) hX hk hw hw3 20).2 0 (by omega) (by omega) u (q_up v 163 31 (nI 0)) i h pre rpre np [] 0 q_F (by omega) hC hV1 hD1 tpN.nil tpN.nil tpN.nil (fun y hy => by cases hy) (by show 0 ≤ 3 * 0; omega) b1 b2 (by rw [q_F_eq]; omega) with ⟨u2, v2, w', p, x1, x2, x3, x4⟩ | ⟨u2, v2, i2, h2, its, fr2, x1, x2, x3, x4, x5, x6, x7, x8, x9, x10, x11, x12⟩
  · exact Or.inl ⟨u2, v2, w', p, x1, stR.trans x2, x3, x4⟩
  · refine Or.inr ⟨u2, v2, i2, h2, its, x1, (stR.trans x2).trans ?_, x3, x5, x6, x8, x9, x10.mono (by omega), x11, x12⟩
    unfold TBr
    rw [if_pos (by decide)]
end
