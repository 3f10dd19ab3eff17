/-! LAYER 2: THE CALLS, 30: products -/
section
variable {N T si : Nat} {z : Nat → Int} {u0 v0 u1 v1 u v : qS} {i k o : Nat} {cs rs : List (Nat × Nat)} {h : Bool}
theorem num_c (hX : CX N z si T u0 v0) (hG : GC u0 u) (hN : NX u0 u i) (hi : i ≤ T) (lo hi' : Nat) (hl : lo < 100000) (hh : hi' < 100000) : (∃ u2, (tx N z i).1 ≠ 3 ∧ m_X6_number 66 (nI lo) (nI hi') u = some (mI, u2) ∧ FC u0 u2 1 (tq N z i)) ∨ (∃ u2, (tx N z i).1 = 3 ∧ ¬ (lo ≤ (tx N z i).2 ∧ (tx N z i).2 ≤ hi') ∧ m_X6_number 66 (nI lo) (nI hi') u = some (mI, u2) ∧ FC u0 u2 2 (tq N z i)) ∨ ((tx N z i).1 = 3 ∧ lo ≤ (tx N z i).2 ∧ (tx N z i).2 ≤ hi' ∧ i < T ∧ m_X6_number 66 (nI lo) (nI hi') u = some (nI (tx N z i).2, q_up u 66 6 (u.1 66 6 + nI 1))) := by
  have hT := hX.T4
  have ha := ck_all (si := si) (hX.tok i) hX.se
  have kd := kind_c hX hG hN.1 hi
  have kl := ck_lt hX i
  obtain ⟨l1, l2, l3⟩ := hG.lx hX.2.2.2.2.1
  unfold m_X6_number
  simp only [lit_n, mI_lit]
  rw [kd, q_bd_s', nI_t (by omega), nI_t (by omega)]
  by_cases hn : (tx N z i).1 = 3
  · have hv4 := (hX.tok i).2.2.2 hn
    have hval : u.1 71 i = nI (tx N z i).2 := (l3 i hi).2.2 hn
    have inn := in_c (nI (tx N z i).2) lo hi' u (by omega) (by omega)
    rw [nI_t (by omega)] at inn
    rw [if_pos (by omega), hN.1, ald_n (by omega) (by omega), Option.bind_some, show 66 + 5 = 71 from rfl, hval, inn, q_bd_s']
    by_cases hr : lo ≤ (tx N z i).2 ∧ (tx N z i).2 ≤ hi'
    · rw [decide_eq_true (by omega), if_neg bI_1, q_let_s, hN.1]
      exact Or.inr (Or.inr ⟨hn, hr.1, hr.2, hX.lt hi (by omega), rfl⟩)
    · obtain ⟨u2, c1, c2⟩ := fail_c (w := 2) hX hG hN.1 hi
      rw [decide_eq_false (by omega), if_pos bI_0, c1, q_bd_s']
      exact Or.inr (Or.inl ⟨u2, hn, hr, rfl, c2⟩)
  · obtain ⟨u2, c1, c2⟩ := fail_c (w := 1) hX hG hN.1 hi
    rw [if_neg (by omega), c1, q_bd_s']
    exact Or.inl ⟨u2, hn, rfl, c2⟩
theorem unit_n (hX : CX N z si T u0 v0) (hV : PV N z v0 v1 v i rs o) (hn : (tx N z i).1 = 3) (hrs : rs.length < 400) : ∃ v2, m_X11_readUnit v = some (nI 0, v2) ∧ PV N z v0 v1 v2 (i + 1) (rs ++ [(0, (tx N z i).2)]) o ∧ HP v v2 := by
  have hvv := hV.2.1
  obtain ⟨v2, d1, d2, d3⟩ := emit_r hV hrs 0 (tx N z i).2
  obtain ⟨v3, f1, f2, f3⟩ := rd_r hX d2
  refine ⟨v3, ?_, f2, d3.trans f3⟩
  unfold m_X11_readUnit
  simp only [lit_n]
  rw [q_jn, q_jn, hvv.2.2.1, hn, if_neg (by decide)]
  dsimp only
  rw [q_jn, if_pos (by decide), hvv.2.2.1, hn, if_pos rfl]
  dsimp only
  rw [q_jn, if_pos (by decide)]
  dsimp only
  rw [q_jn, if_pos (by decide), hvv.2.2.2 (by omega)]
  dsimp only at d1 ⊢
  rw [d1, q_bd_s', f1, q_bd_s']
end
def RPp (g : Nat) (v : qS) : qR := q_it0 (m_X11_readProduct_L10 (fun u_15 => q_bd (m_X11_errs (nI 1) u_15) fun r_16 u_17 => some (r_16, u_17)) (fun u_18 => q_bd (m_X11_errs (nI 2) u_18) fun r_19 u_20 => some (r_19, u_20)) (fun u_21 => some (mI, u_21)) (fun u_22 => some (nI 0, u_22))) g v
def okA (L : List (Nat × Nat)) : Prop := ∀ t, t ∈ L → okI t
theorem okA.app {A B : List (Nat × Nat)} (a : okA A) (b : okA B) : okA (A ++ B) := fun t ht => by
  rcases List.mem_append.mp ht with h | h
  · exact a t h
  · exact b t h
theorem okA.one {t : Nat × Nat} (h : okI t) : okA [t] := fun s hs => by rw [List.mem_singleton.mp hs]; exact h
theorem ln1 {A : List (Nat × Nat)} {t : Nat × Nat} : (A ++ [t]).length = A.length + 1 := List.length_append
section
variable {N T : Nat} {z : Nat → Int} {u0 v0 u1 v1 : qS} {k o w np : Nat} {h0 : Bool} {wt : Int32} {pre rpre : List (Nat × Nat)}
theorem prd (hX : CX N z 0 T u0 v0) (hk : k ≤ 15) (hw : u1.1 73 k = nI w) (hw3 : w < 3) : ∀ (n i f g : Nat) (u v : qS) (h : Bool) (P : List (Nat × Nat)), T - i ≤ n → n < f → n < g → PC T u0 u1 u i (pre ++ P) h k → PV N z v0 v1 v i (rpre ++ xp P) o → (pre ++ P).length + np ≤ i → (rpre ++ xp P).length + np ≤ i → QS P 2 false → okA P → HG h0 h w P →
    (∃ u2 v2 w' p, (∀ KA KB, q_it2 (m_X6_sum_L16 66 KA KB) f wt (nI (ck 0 (tx N z i))) u = KA u2) ∧ RPp g v = some (mI, v2) ∧ FC u0 u2 w' p ∧ FV v0 v2 w' p) ∨
    ∃ u2 v2 i2 h2 P2 f2, (∀ KA KB, q_it2 (m_X6_sum_L16 66 KA KB) f wt (nI (ck 0 (tx N z i))) u = q_it2 (m_X6_sum_L16 66 KA KB) f2 wt (nI (ck 0 (tx N z i2))) u2) ∧ RPp g v = some (nI 0, v2) ∧ i ≤ i2 ∧ T - i2 < f2 ∧ PC T u0 u1 u2 i2 (pre ++ P2) h2 k ∧ PV N z v0 v1 v2 i2 (rpre ++ xp P2) o ∧ (pre ++ P2).length + np ≤ i2 ∧ (rpre ++ xp P2).length + np ≤ i2 ∧ QS P2 2 false ∧ okA P2 ∧ HG h0 h2 w P2 ∧ HP v v2 ∧ ck 0 (tx N z i2) ≠ 42 ∧ ck 0 (tx N z i2) ≠ 47
  | n, i, 0, g, u, v, h, P, hn, hf, hg, hC, hV, b1, b2, q, ok, hh => by omega
  | n, i, f, 0, u, v, h, P, hn, hf, hg, hC, hV, b1, b2, q, ok, hh => by omega
  | n, i, f + 1, g + 1, u, v, h, P, hn, hf, hg, hC, hV, b1, b2, q, ok, hh => by
    have hT := hX.T4
    have hiT : i ≤ T := hC.2.2.1
    have kl := ck_lt hX i
    have hA := hV.2.1
    have s42 := sign_r (c := 42) hX hA (by omega) (by omega)
    have s47 := sign_r (c := 47) hX hA (by omega) (by omega)
    by_cases e42 : ck 0 (tx N z i) = 42
    · have hlt := hX.lt hiT (by omega)
      have hC1 := nx_c hC hlt
      obtain ⟨v1', f1, f2, f3⟩ := rd_r hX hV
      rcases opd hX hC1 f2 (by omega) (by omega) hk hw hw3 with ⟨u2, v2, w', p, x1, x2, x3, x4⟩ | ⟨u2, v2, t, h2, x1, x2, x3, x4, x5, x6, x7, x8, x9, x10⟩
      · refine Or.inl ⟨u2, v2, w', p, fun KA KB => ?_, ?_, x3, x4⟩
        · show m_X6_sum_L16 _ _ _ _ _ _ _ = _
          unfold m_X6_sum_L16
          simp only [lit_n, mI_lit]
          rw [show 66 + 1 = 67 from rfl, (hC.1.lx hX.2.2.2.2.1).2.1, hC.2.1.1, e42, if_neg (by rw [nI_t (by omega), nI_t (by omega)]; omega), q_jn, if_pos rfl]
          dsimp only
          rw [q_let_s, q_jn, q_jn, if_neg (show ¬ (nI 42).toInt = (nI 43).toInt by decide), if_neg (show ¬ (nI 42).toInt = (nI 45).toInt by decide), ite_self]
          dsimp only
          rw [q_jn, if_neg (show ¬ (nI 42).toInt = (nI 47).toInt by decide)]
          dsimp only
          rw [if_neg (show ¬ (nI 0).toInt = mI.toInt by decide), q_jn, if_pos (show (nI 0).toInt = 0 by decide), x1, q_bd_s', if_pos (by decide)]
        · show m_X11_readProduct_L10 _ _ _ _ _ _ = _
          unfold m_X11_readProduct_L10
          simp only [lit_n, mI_lit]
          rw [s42, q_bd_s', q_jn, decide_eq_true e42, if_neg bI_1]
          dsimp only
          rw [s42, q_bd_s', f1, q_bd_s', q_jn, decide_eq_true e42, if_neg bI_1]
          dsimp only
          rw [q_jn, if_neg bI_1]
          dsimp only
          rw [x2, q_bd_s', if_pos rfl]
      · have lp : (pre ++ P).length + 1 = ((pre ++ P) ++ [t]).length := ln1.symm
        have lr : (rpre ++ xp P).length + 1 = ((rpre ++ xp P) ++ [t]).length := ln1.symm
        obtain ⟨u3, c1, c2⟩ := emit_c x4 (by omega) (4, 0)
        obtain ⟨v3, d1, d2, d3⟩ := emit_r x5 (by omega) 4 0
        have eP : (pre ++ P) ++ [t] ++ [(4, 0)] = pre ++ (P ++ [t] ++ [(4, 0)]) := by rw [List.append_assoc, List.append_assoc, List.append_assoc]
        have eR : (rpre ++ xp P) ++ [t] ++ [(4, 0)] = rpre ++ xp (P ++ [t] ++ [(4, 0)]) := by
          rw [xp_app, xp_app]
          show _ = rpre ++ (xp P ++ (xq t ++ []) ++ [(4, 0)])
          rw [x9, List.append_assoc, List.append_assoc, List.append_assoc]; rfl
        rw [eP] at c2
        rw [eR] at d2
        have lp2 : (pre ++ (P ++ [t] ++ [(4, 0)])).length = (pre ++ P).length + 2 := by rw [← eP, ln1, ln1]
        have lr2 : (rpre ++ xp (P ++ [t] ++ [(4, 0)])).length = (rpre ++ xp P).length + 2 := by rw [← eR, ln1, ln1]
        have kd := kind_c hX c2.1 c2.2.1.1 c2.2.2.1
        have stC : ∀ KA KB, q_it2 (m_X6_sum_L16 66 KA KB) (f + 1) wt (nI (ck 0 (tx N z i))) u = q_it2 (m_X6_sum_L16 66 KA KB) f wt (nI (ck 0 (tx N z (i + 1 + 1)))) u3 := fun KA KB => by
          show m_X6_sum_L16 _ _ _ (q_it2 (m_X6_sum_L16 66 KA KB) f) _ _ _ = _
          generalize q_it2 (m_X6_sum_L16 66 KA KB) f = self
          unfold m_X6_sum_L16
          simp only [lit_n, mI_lit]
          rw [show 66 + 1 = 67 from rfl, (hC.1.lx hX.2.2.2.2.1).2.1, hC.2.1.1, e42, if_neg (by rw [nI_t (by omega), nI_t (by omega)]; omega), q_jn, if_pos rfl]
          dsimp only
          rw [q_let_s, q_jn, q_jn, if_neg (show ¬ (nI 42).toInt = (nI 43).toInt by decide), if_neg (show ¬ (nI 42).toInt = (nI 45).toInt by decide), ite_self]
          dsimp only
          rw [q_jn, if_neg (show ¬ (nI 42).toInt = (nI 47).toInt by decide)]
          dsimp only
          rw [if_neg (show ¬ (nI 0).toInt = mI.toInt by decide), q_jn, if_pos (show (nI 0).toInt = 0 by decide), x1, q_bd_s', if_neg (show ¬ (nI 1).toInt = 0 by decide)]
          dsimp only
          rw [q_jn, if_neg (show ¬ (nI 42).toInt = (nI 47).toInt by decide), if_pos rfl]
          dsimp only at c1
          rw [show 66 + 6 = 72 from rfl, c1, q_bd_s']
          dsimp only
          rw [kd, q_bd_s']
        have stR : RPp (g + 1) v = RPp g v3 := by
          unfold RPp
          show m_X11_readProduct_L10 _ _ _ _ (q_it0 _ g) _ = _
          generalize q_it0 (m_X11_readProduct_L10 (fun u_15 => q_bd (m_X11_errs (nI 1) u_15) fun r_16 u_17 => some (r_16, u_17)) (fun u_18 => q_bd (m_X11_errs (nI 2) u_18) fun r_19 u_20 => some (r_19, u_20)) (fun u_21 => some (mI, u_21)) (fun u_22 => some (nI 0, u_22))) g = self
          unfold m_X11_readProduct_L10
          simp only [lit_n, mI_lit]
          rw [s42, q_bd_s', q_jn, decide_eq_true e42, if_neg bI_1]
          dsimp only
          rw [s42, q_bd_s', f1, q_bd_s', q_jn, decide_eq_true e42, if_neg bI_1]
          dsimp only
          rw [q_jn, if_neg bI_1]
          dsimp only
          rw [x2, q_bd_s', if_neg (show ¬ (nI 0).toInt = mI.toInt by decide), q_jn, if_neg bI_1]
          dsimp only
          rw [d1, q_bd_s']
        have qP : QS (P ++ [t] ++ [(4, 0)]) 2 false := (QS.bin 4 (by omega) q x7).mono (by omega)
        have oP : okA (P ++ [t] ++ [(4, 0)]) := (ok.app (okA.one x8)).app (okA.one ⟨by show 4 < 12; omega, by show 0 < 10000; omega⟩)
        have hP : HG h0 h2 w (P ++ [t] ++ [(4, 0)]) := (hh.app x10).app (HG.op (by omega) 0)
        rcases prd hX hk hw hw3 (n - 1) (i + 1 + 1) f g u3 v3 h2 (P ++ [t] ++ [(4, 0)]) (by omega) (by omega) (by omega) c2 d2 (by omega) (by omega) qP oP hP with ⟨u4, v4, w', p, y1, y2, y3, y4⟩ | ⟨u4, v4, i2, h4, P2, f2', y1, y2, y3, y4, y5, y6, y7, y8, y9, y10, y11, y12, y13, y14⟩
        · exact Or.inl ⟨u4, v4, w', p, fun KA KB => (stC KA KB).trans (y1 KA KB), stR.trans y2, y3, y4⟩
        · exact Or.inr ⟨u4, v4, i2, h4, P2, f2', fun KA KB => (stC KA KB).trans (y1 KA KB), stR.trans y2, by omega, y4, y5, y6, y7, y8, y9, y10, y11, ((f3.trans x6).trans d3).trans y12, y13, y14⟩
    · by_cases e47 : ck 0 (tx N z i) = 47
      · have hlt := hX.lt hiT (by omega)
        have hC1 := nx_c hC hlt
        obtain ⟨v1', f1, f2, f3⟩ := rd_r hX hV
        have hA1 := f2.2.1
        have headC : ∀ (KA : qS → qR) (KB : Int32 → qS → qR) (self : Int32 → Int32 → qS → qR) (r : Int32) (u2 : qS), m_X6_number 66 (nI 1) (nI 9999) (q_up u 66 6 (u.1 66 6 + nI 1)) = some (r, u2) → m_X6_sum_L16 66 KA KB self wt (nI (ck 0 (tx N z i))) u = (if r.toInt = mI.toInt then KA u2 else if r.toInt = 0 then q_bd (m_X6_operand 66 u2) fun r_16 u_17 => if r_16.toInt = 0 then KA u_17 else q_bd (m_X2_emit 72 (nI 2) r u_17) fun _ u_15 => q_bd (m_X6_kind 66 u_15) fun r u_11 => self wt r u_11 else q_bd (m_X2_emit 72 (nI 2) r u2) fun _ u_15 => q_bd (m_X6_kind 66 u_15) fun r u_11 => self wt r u_11) := fun KA KB self r u2 hr => by
          unfold m_X6_sum_L16
          simp only [lit_n, mI_lit]
          rw [show 66 + 1 = 67 from rfl, (hC.1.lx hX.2.2.2.2.1).2.1, hC.2.1.1, e47, if_neg (by rw [nI_t (by omega), nI_t (by omega)]; omega), q_jn, if_neg (show ¬ (nI 47).toInt = (nI 42).toInt by decide), if_pos rfl]
          dsimp only
          rw [q_let_s, q_jn, q_jn, if_neg (show ¬ (nI 47).toInt = (nI 43).toInt by decide), if_neg (show ¬ (nI 47).toInt = (nI 45).toInt by decide), ite_self]
          dsimp only
          rw [q_jn, if_pos rfl]
          rw [hr, q_bd_s']
          rfl
        have headR : ∀ self : qS → qR, m_X11_readProduct_L10 (fun u_15 => q_bd (m_X11_errs (nI 1) u_15) fun r_16 u_17 => some (r_16, u_17)) (fun u_18 => q_bd (m_X11_errs (nI 2) u_18) fun r_19 u_20 => some (r_19, u_20)) (fun u_21 => some (mI, u_21)) (fun u_22 => some (nI 0, u_22)) self v = (if (v1'.1 163 17).toInt = (nI 3).toInt then (if (v1'.1 163 18).toInt = 0 then q_bd (m_X11_errs (nI 2) v1') fun r_19 u_20 => some (r_19, u_20) else q_bd (m_X11_readUnit v1') fun r_9 u_10 => if r_9.toInt = mI.toInt then some (mI, u_10) else q_bd (m_X11_emits (nI 5) (nI 0) u_10) fun _ u_12 => self u_12) else q_bd (m_X11_errs (nI 1) v1') fun r_16 u_17 => some (r_16, u_17)) := fun self => by
          unfold m_X11_readProduct_L10
          simp only [lit_n, mI_lit]
          rw [s42, q_bd_s', q_jn, decide_eq_false e42, if_pos bI_0, s47, q_bd_s', decide_eq_true e47, if_neg bI_1]
          dsimp only
          rw [s42, q_bd_s', f1, q_bd_s', q_jn, decide_eq_false e42, if_pos bI_0]
          rfl
        rcases num_c hX hC1.1 hC1.2.1 hC1.2.2.1 1 9999 (by omega) (by omega) with ⟨u2, n1, n2, n3⟩ | ⟨u2, n1, n2, n3, n4⟩ | ⟨n1, n2, n3, n4, n5⟩
        · obtain ⟨v2, d1, d2⟩ := errs_r (w := 1) hA1 f2.1
          refine Or.inl ⟨u2, v2, 1, _, fun KA KB => ?_, ?_, n3, d2⟩
          · show m_X6_sum_L16 _ _ _ (q_it2 (m_X6_sum_L16 66 KA KB) f) _ _ _ = _
            rw [headC KA KB _ _ _ n2, if_pos rfl]
          · show m_X11_readProduct_L10 _ _ _ _ (q_it0 _ g) _ = _
            have h4 := (hX.tok (i + 1)).1
            rw [headR, hA1.2.2.1, if_neg (by rw [nI_t (by omega), nI_t (by omega)]; omega), d1, q_bd_s']
        · obtain ⟨v2, d1, d2⟩ := errs_r (w := 2) hA1 f2.1
          have h9 := (hX.tok (i + 1)).2.2.2 n1
          refine Or.inl ⟨u2, v2, 2, _, fun KA KB => ?_, ?_, n4, d2⟩
          · show m_X6_sum_L16 _ _ _ (q_it2 (m_X6_sum_L16 66 KA KB) f) _ _ _ = _
            rw [headC KA KB _ _ _ n3, if_pos rfl]
          · show m_X11_readProduct_L10 _ _ _ _ (q_it0 _ g) _ = _
            rw [headR, hA1.2.2.1, n1, if_pos rfl, hA1.2.2.2 (by omega), if_pos (by rw [nI_t (by omega)]; omega), d1, q_bd_s']
        · have h9 := (hX.tok (i + 1)).2.2.2 n1
          have hC2 := nx_c hC1 n4
          obtain ⟨u3, c1, c2⟩ := emit_c hC2 (by omega) (2, (tx N z (i + 1)).2)
          obtain ⟨v2, x2, x5, x6⟩ := unit_n hX f2 n1 (by omega)
          have lr : (rpre ++ xp P).length + 1 = ((rpre ++ xp P) ++ [(0, (tx N z (i + 1)).2)]).length := ln1.symm
          obtain ⟨v3, d1, d2, d3⟩ := emit_r x5 (by omega) 5 0
          have eP : (pre ++ P) ++ [(2, (tx N z (i + 1)).2)] = pre ++ (P ++ [(2, (tx N z (i + 1)).2)]) := by rw [List.append_assoc]
          have eR : (rpre ++ xp P) ++ [(0, (tx N z (i + 1)).2)] ++ [(5, 0)] = rpre ++ xp (P ++ [(2, (tx N z (i + 1)).2)]) := by
            rw [xp_app]
            show _ = rpre ++ (xp P ++ [(0, (tx N z (i + 1)).2), (5, 0)])
            rw [List.append_assoc, List.append_assoc]; rfl
          rw [eP] at c2
          rw [eR] at d2
          have lp2 : (pre ++ (P ++ [(2, (tx N z (i + 1)).2)])).length = (pre ++ P).length + 1 := by rw [← eP, ln1]
          have lr2 : (rpre ++ xp (P ++ [(2, (tx N z (i + 1)).2)])).length = (rpre ++ xp P).length + 2 := by rw [← eR, ln1, ln1]
          have kd := kind_c hX c2.1 c2.2.1.1 c2.2.2.1
          have stC : ∀ KA KB, q_it2 (m_X6_sum_L16 66 KA KB) (f + 1) wt (nI (ck 0 (tx N z i))) u = q_it2 (m_X6_sum_L16 66 KA KB) f wt (nI (ck 0 (tx N z (i + 1 + 1)))) u3 := fun KA KB => by
            show m_X6_sum_L16 _ _ _ (q_it2 (m_X6_sum_L16 66 KA KB) f) _ _ _ = _
            dsimp only at c1
            rw [headC KA KB _ _ _ n5, if_neg (by rw [nI_t (by omega), mI_t]; omega), if_neg (by rw [nI_t (by omega)]; omega), c1, q_bd_s', kd, q_bd_s']
          have stR : RPp (g + 1) v = RPp g v3 := by
            unfold RPp
            show m_X11_readProduct_L10 _ _ _ _ (q_it0 _ g) _ = _
            rw [headR, hA1.2.2.1, n1, if_pos rfl, hA1.2.2.2 (by omega), if_neg (by rw [nI_t (by omega)]; omega), x2, q_bd_s', if_neg (by decide), d1, q_bd_s']
          have qP : QS (P ++ [(2, (tx N z (i + 1)).2)]) 2 false := q.part _ n2 h9
          have oP : okA (P ++ [(2, (tx N z (i + 1)).2)]) := ok.app (okA.one ⟨by show 2 < 12; omega, h9⟩)
          have hP : HG h0 h w (P ++ [(2, (tx N z (i + 1)).2)]) := hh.app (HG.op (by omega) _)
          rcases prd hX hk hw hw3 (n - 1) (i + 1 + 1) f g u3 v3 h (P ++ [(2, (tx N z (i + 1)).2)]) (by omega) (by omega) (by omega) c2 d2 (by omega) (by omega) qP oP hP with ⟨u4, v4, w', p, y1, y2, y3, y4⟩ | ⟨u4, v4, i2, h4, P2, f2', y1, y2, y3, y4, y5, y6, y7, y8, y9, y10, y11, y12, y13, y14⟩
          · exact Or.inl ⟨u4, v4, w', p, fun KA KB => (stC KA KB).trans (y1 KA KB), stR.trans y2, y3, y4⟩
          · exact Or.inr ⟨u4, v4, i2, h4, P2, f2', fun KA KB => (stC KA KB).trans (y1 KA KB), stR.trans y2, by omega, y4, y5, y6, y7, y8, y9, y10, y11, ((f3.trans x6).trans d3).trans y12, y13, y14⟩
      · refine Or.inr ⟨u, v, i, h, P, f + 1, fun KA KB => rfl, ?_, Nat.le_refl _, by omega, hC, hV, b1, b2, q, ok, hh, ⟨rfl, rfl⟩, e42, e47⟩
        unfold RPp
        show m_X11_readProduct_L10 _ _ _ _ _ _ = _
        unfold m_X11_readProduct_L10
        simp only [lit_n, mI_lit]
        rw [s42, q_bd_s', q_jn, decide_eq_false e42, if_pos bI_0, s47, q_bd_s', decide_eq_false e47, if_pos bI_0]
end
