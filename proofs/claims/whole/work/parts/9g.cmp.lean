/-! LAYER 2: THE CALLS, 33: what is compared -/
def CMc (u_1 : qS) : qR :=
  q_bd (m_X6_sum 66 u_1) fun r_13 u_14 =>
  if r_13.toInt = 0 then
    some (nI 0, u_14)
  else
    q_bd (m_X6_kind 66 u_14) fun r_15 u_16 =>
    q_jn (fun (u_17 : qS) =>
      q_let (q_up u_17 66 6 ((u_17.1 66 6) + nI 1)) fun u_18 =>
      q_bd (m_X6_sum 66 u_18) fun r_19 u_20 =>
      if r_19.toInt = 0 then
        some (nI 0, u_20)
      else
        q_jn (fun (s0 : Int32) (u_21 : qS) =>
          q_bd (m_X2_emit (66 + 6) s0 (nI 0) u_21) fun _ u_22 =>
          some (nI 1, u_22)) fun J179 =>
        if r_15.toInt = (nI 60).toInt then
          J179 (nI 7) u_20
        else
          if r_15.toInt = (nI 61).toInt then
            J179 (nI 8) u_20
          else
            J179 (nI 9) u_20) fun J132 =>
    if r_15.toInt = (nI 60).toInt then
      J132 u_16
    else
      if r_15.toInt = (nI 61).toInt then
        J132 u_16
      else
        if r_15.toInt = (nI 62).toInt then
          J132 u_16
        else
          q_bd (m_X6_fail 66 (nI 1) u_16) fun r_23 u_24 =>
          q_bz r_23 (some (r_23, u_24))
section
variable {N T : Nat} {z : Nat → Int} {u0 v0 u1 v1 : qS} {k o w np : Nat} {pre rpre : List (Nat × Nat)}
theorem cmp_s {u v : qS} {i : Nat} {h : Bool} (hX : CX N z 0 T u0 v0) (hk : k ≤ 15) (hw : u1.1 73 k = nI w) (hw3 : w < 3) (hC : PC T u0 u1 u i pre h k) (hV : PV N z v0 v1 v i rpre o) (b1 : pre.length + np ≤ i) (b2 : rpre.length + np ≤ i) :
    FL u0 v0 (CMc u) (m_X11_readCompared v) ∨ ∃ u2 v2 i2 h2 its, CMc u = some (nI 1, u2) ∧ m_X11_readCompared v = some (nI 0, v2) ∧ i < i2 ∧ PC T u0 u1 u2 i2 (pre ++ its) h2 k ∧ PV N z v0 v1 v2 i2 (rpre ++ xp its) o ∧ (pre ++ its).length + np ≤ i2 ∧ (rpre ++ xp its).length + np ≤ i2 ∧ QS its 4 true ∧ okA its ∧ HG h h2 w its ∧ HP v v2 := by
  have hT := hX.T4
  have ha := fun i => ck_all (si := 0) (hX.tok i) hX.se
  have h0A : sA 0 = 0 := rfl
  rcases sum_s hX hk hw hw3 hC hV b1 b2 with ⟨u2, v2, w', p, x1, x2, x3, x4⟩ | ⟨u2, v2, i1, h1, its1, x1, x2, x3, x4, x5, x6, x7, x8, x9, x10, x11⟩
  · refine Or.inl ⟨u2, v2, w', p, ?_, ?_, x3, x4⟩
    · unfold CMc
      rw [x1, q_bd_s', if_pos (by decide)]
    · unfold m_X11_readCompared
      simp only [lit_n, mI_lit]
      rw [x2, q_bd_s', if_pos rfl]
  · have i1T : i1 ≤ T := x4.2.2.1
    have kd := kind_c hX x4.1 x4.2.1.1 i1T
    have kl := ck_lt hX i1
    have hA := x5.2.1
    have s60 := sign_r (c := 60) hX hA (by omega) (by omega)
    have s61 := sign_r (c := 61) hX hA (by omega) (by omega)
    have s62 := sign_r (c := 62) hX hA (by omega) (by omega)
    by_cases hc : ck 0 (tx N z i1) = 60 ∨ ck 0 (tx N z i1) = 61 ∨ ck 0 (tx N z i1) = 62
    · have hlt := hX.lt i1T (by omega)
      have hC1 := nx_c x4 hlt
      obtain ⟨v1', f1, f2, f3⟩ := rd_r hX x5
      have h18 : v2.1 163 18 = nI (ck 0 (tx N z i1)) := by
        have hai := ha i1
        have h4 : (tx N z i1).1 = 4 := by omega
        rw [hA.2.2.2 (by omega), show (tx N z i1).2 = ck 0 (tx N z i1) by omega]
      have stC : CMc u = q_bd (m_X6_sum 66 (q_up u2 66 6 (u2.1 66 6 + nI 1))) fun r_19 u_20 => if r_19.toInt = 0 then some (nI 0, u_20) else q_bd (m_X2_emit 72 (nI (ck 0 (tx N z i1) - 53)) (nI 0) u_20) fun _ u_22 => some (nI 1, u_22) := by
        unfold CMc
        rw [x1, q_bd_s', if_neg (by decide), kd, q_bd_s', q_jn]
        rcases hc with e | e | e
        · rw [e, if_pos rfl]
          dsimp only
          rw [q_let_s]
          refine congrArg (q_bd _) (funext fun r => funext fun u3 => ?_)
          by_cases hr : r.toInt = 0
          · rw [if_pos hr, if_pos hr]
          · rw [if_neg hr, if_neg hr, q_jn, if_pos rfl]
        · rw [e, if_neg (by decide), if_pos rfl]
          dsimp only
          rw [q_let_s]
          refine congrArg (q_bd _) (funext fun r => funext fun u3 => ?_)
          by_cases hr : r.toInt = 0
          · rw [if_pos hr, if_pos hr]
          · rw [if_neg hr, if_neg hr, q_jn, if_neg (by decide), if_pos rfl]
        · rw [e, if_neg (by decide), if_neg (by decide), if_pos rfl]
          dsimp only
          rw [q_let_s]
          refine congrArg (q_bd _) (funext fun r => funext fun u3 => ?_)
          by_cases hr : r.toInt = 0
          · rw [if_pos hr, if_pos hr]
          · rw [if_neg hr, if_neg hr, q_jn, if_neg (by decide), if_neg (by decide)]
      have stR : m_X11_readCompared v = q_bd (m_X11_readSum v1') fun r_7 u_8 => if r_7.toInt = mI.toInt then some (mI, u_8) else q_bd (m_X11_emits (nI (ck 0 (tx N z i1) - 54)) (nI 0) u_8) fun _ u_9 => some (nI 0, u_9) := by
        unfold m_X11_readCompared
        simp only [lit_n, mI_lit]
        rw [x2, q_bd_s', if_neg (by decide), s60, q_bd_s', q_jn]
        rcases hc with e | e | e
        · rw [decide_eq_true e, if_neg bI_1]
          dsimp only
          rw [q_jn, h18, e, if_pos rfl]
          dsimp only
          rw [f1, q_bd_s']
        · rw [decide_eq_false (by omega), if_pos bI_0, s61, q_bd_s', decide_eq_true e, if_neg bI_1]
          dsimp only
          rw [q_jn, h18, e, if_neg (by decide), if_pos rfl]
          dsimp only
          rw [f1, q_bd_s']
        · rw [decide_eq_false (by omega), if_pos bI_0, s61, q_bd_s', decide_eq_false (by omega), if_pos bI_0, s62, q_bd_s', decide_eq_true e, if_neg bI_1]
          dsimp only
          rw [q_jn, h18, e, if_neg (by decide), if_neg (by decide)]
          dsimp only
          rw [f1, q_bd_s']
      generalize ck 0 (tx N z i1) = c at *
      rcases sum_s (np := np + 1) hX hk hw hw3 hC1 f2 (by omega) (by omega) with ⟨u3, v3, w', p, y1, y2, y3, y4⟩ | ⟨u3, v3, i2, h2, its2, y1, y2, y3, y4, y5, y6, y7, y8, y9, y10, y11⟩
      · refine Or.inl ⟨u3, v3, w', p, ?_, ?_, y3, y4⟩
        · rw [stC, y1, q_bd_s', if_pos (by decide)]
        · rw [stR, y2, q_bd_s', if_pos rfl]
      · have i2T : i2 ≤ T := y4.2.2.1
        obtain ⟨u4, c1, c2⟩ := emit_c y4 (by omega) (c - 53, 0)
        obtain ⟨v4, d1, d2, d3⟩ := emit_r y5 (by omega) (c - 54) 0
        have ro : rop (c - 53) = c - 54 := by rcases hc with rfl | rfl | rfl <;> rfl
        have eP : pre ++ its1 ++ its2 ++ [(c - 53, 0)] = pre ++ (its1 ++ its2 ++ [(c - 53, 0)]) := by rw [List.append_assoc, List.append_assoc, List.append_assoc]
        have eR : rpre ++ xp its1 ++ xp its2 ++ [(c - 54, 0)] = rpre ++ xp (its1 ++ its2 ++ [(c - 53, 0)]) := by
          have e1 : xp [(c - 53, 0)] = [(c - 54, 0)] := by
            show xq (c - 53, 0) ++ [] = _
            unfold xq
            rw [if_neg (by show ¬ c - 53 = 2; omega), List.append_nil]
            show [(rop (c - 53), 0)] = _
            rw [ro]
          rw [xp_app, xp_app, e1, List.append_assoc, List.append_assoc, List.append_assoc]
        have l1 : (pre ++ its1 ++ its2 ++ [(c - 53, 0)]).length = (pre ++ its1 ++ its2).length + 1 := ln1
        have l2 : (rpre ++ xp its1 ++ xp its2 ++ [(c - 54, 0)]).length = (rpre ++ xp its1 ++ xp its2).length + 1 := ln1
        rw [eP] at c2 l1
        rw [eR] at d2 l2
        have q := QS.bin (c - 53) (by omega) x8 y8
        rw [decide_eq_true (show 7 ≤ c - 53 by omega)] at q
        refine Or.inr ⟨u4, v4, i2, h2, its1 ++ its2 ++ [(c - 53, 0)], ?_, ?_, by omega, c2, d2, by omega, by omega, q.mono (by omega), (x9.app y9).app (okA.one ⟨by show c - 53 < 12; omega, by show 0 < 10000; omega⟩), (x10.app y10).app (HG.op (by omega) 0), ((x11.trans f3).trans y11).trans d3⟩
        · dsimp only at c1
          rw [stC, y1, q_bd_s', if_neg (by decide), c1, q_bd_s']
        · rw [stR, y2, q_bd_s', if_neg (by decide), d1, q_bd_s']
    · obtain ⟨u3, c1, c2⟩ := fail_c (w := 1) hX x4.1 x4.2.1.1 i1T
      obtain ⟨v3, d1, d2⟩ := errs_r (w := 1) hA x5.1
      refine Or.inl ⟨u3, v3, 1, tq N z i1, ?_, ?_, c2, d2⟩
      · unfold CMc
        rw [x1, q_bd_s', if_neg (by decide), kd, q_bd_s', q_jn, nI_t (show ck 0 (tx N z i1) < _ by omega), nI_t (show 60 < _ by omega), nI_t (show 61 < _ by omega), nI_t (show 62 < _ by omega), if_neg (by omega), if_neg (by omega), if_neg (by omega), c1, q_bd_s', bz_0]
      · unfold m_X11_readCompared
        simp only [lit_n, mI_lit]
        rw [x2, q_bd_s', if_neg (by decide), s60, q_bd_s', q_jn, decide_eq_false (by omega), if_pos bI_0, s61, q_bd_s', decide_eq_false (by omega), if_pos bI_0, s62, q_bd_s', decide_eq_false (by omega), if_pos bI_0, d1, q_bd_s']
end
