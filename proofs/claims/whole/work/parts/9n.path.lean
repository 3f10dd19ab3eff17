/-! LAYER 2: THE CALLS, 40: a path read -/
def PE (u v : qS) (e m : Nat) : Prop := m ≤ 8 ∧ u.1 80 e = nI m ∧ v.1 178 (90 + 9 * e) = nI m ∧ (∀ i, i < m → ∃ q : Nat, q < 10 ∧ u.1 81 (8 * e + i) = nI q ∧ v.1 178 (90 + 9 * e + 1 + i) = nI q) ∧ u.1 82 e = pset (fun i => v.1 178 (90 + 9 * e + 1 + i)) m
theorem PE.fr {u v u2 v2 : qS} {e m : Nat} (h : PE u v e m) (a : u2.1 80 e = u.1 80 e) (b : ∀ i, i < 8 → u2.1 81 (8 * e + i) = u.1 81 (8 * e + i)) (c : u2.1 82 e = u.1 82 e) (d : ∀ j, 90 + 9 * e ≤ j → j < 90 + 9 * e + 9 → v2.1 178 j = v.1 178 j) : PE u2 v2 e m := by
  obtain ⟨h1, h2, h3, h4, h5⟩ := h
  have hps : ∀ n, n ≤ 8 → pset (fun i => v2.1 178 (90 + 9 * e + 1 + i)) n = pset (fun i => v.1 178 (90 + 9 * e + 1 + i)) n := by
    intro n
    induction n with
    | zero => intro _; rfl
    | succ n ih => intro hn; unfold pset; rw [ih (by omega), d _ (by omega) (by omega)]
  refine ⟨h1, by rw [a]; exact h2, by rw [d _ (by omega) (by omega)]; exact h3, fun i hi => ?_, by rw [c, hps m h1]; exact h5⟩
  obtain ⟨q, q1, q2, q3⟩ := h4 i hi
  exact ⟨q, q1, by rw [b i (by omega)]; exact q2, by rw [d _ (by omega) (by omega)]; exact q3⟩
def KPb (u_13 : qS) : qR := q_let (q_up u_13 66 6 ((u_13.1 66 6) - nI 1)) fun u_14 => q_bd (m_X6_fail 66 (nI 3) u_14) fun r_15 u_16 => q_bz r_15 (some (r_15, u_16))
def RPl (K152 : qS → qR) (a : Int32) (g : Nat) (v : qS) : qR := q_it0 (m_X11_readPath_L55 a (fun u_14 => q_bd (m_X11_errs (nI 3) u_14) fun r_15 u_16 => some (r_15, u_16)) (fun u_17 => some (mI, u_17)) K152) g v
section
variable {N T : Nat} {z : Nat → Int} {u0 v0 : qS}
theorem plp {e : Nat} (hX : CX N z 1 T u0 v0) (he : e < 10) : ∀ (n i m f g : Nat) (u v : qS), T - i < n → T - i < f → T - i < g → BS N z T u0 v0 u v i → PE u v e m →
    (∃ u2 v2 w p, (∀ KE, q_it1 (m_X6_pathLine_L52 66 (nI e) KAc KPb KE) f (nI m) u = some (nI 0, u2)) ∧ (∀ K, RPl K (nI (90 + 9 * e)) g v = some (mI, v2)) ∧ FC u0 u2 w p ∧ FV v0 v2 w p) ∨
    (∃ u2 v2 i2 m2, (∀ KE, q_it1 (m_X6_pathLine_L52 66 (nI e) KAc KPb KE) f (nI m) u = KE u2) ∧ (∀ K, RPl K (nI (90 + 9 * e)) g v = K v2) ∧ i ≤ i2 ∧ BS N z T u0 v0 u2 v2 i2 ∧ PE u2 v2 e m2 ∧ u2.1 79 = u.1 79 ∧ ∀ e', e' < 10 → e' ≠ e → ∀ m', PE u v e' m' → PE u2 v2 e' m')
  | 0, i, m, f, g, u, v, hn, hf, hg, hB, hP => by omega
  | n + 1, i, m, 0, g, u, v, hn, hf, hg, hB, hP => by omega
  | n + 1, i, m, f, 0, u, v, hn, hf, hg, hB, hP => by omega
  | n + 1, i, m, f + 1, g + 1, u, v, hn, hf, hg, hB, hP => by
    have hT := hX.T4
    have hB' := hB
    have hP' := hP
    obtain ⟨hG, hN, hiT, gv, hA⟩ := hB
    obtain ⟨p1, p2, p3, p4, p5⟩ := hP
    have ha := ck_all (si := 1) (hX.tok i) hX.se
    have kd := kind_c hX hG hN.1 hiT
    have kl := ck_lt hX i
    have h4 := (hX.tok i).1
    have hse := hX.se
    have hsA : sA 1 = 16 := rfl
    have al : q_ald v 178 180 (nI (90 + 9 * e)) = some (nI m) := by rw [ald_n (by omega) (by omega), p3]
    have g8 : ¬ (nI 8).toInt < (nI m).toInt := by rw [nI_t (by omega), nI_t (by omega)]; omega
    by_cases hgo : m = 0 ∨ (tx N z i).1 = 3
    · -- a place is due
      have cc : ∀ KE self, m_X6_pathLine_L52 66 (nI e) KAc KPb KE self (nI m) u = q_bd (m_X6_number 66 (nI 0) (nI 9) u) fun r u_8 => if r.toInt = mI.toInt then KAc u_8 else if (nI m).toInt = (nI 8).toInt then KPb u_8 else q_bd (m_X4_addStep 79 (nI e) r u_8) fun _ u_9 => self (nI m + nI 1) u_9 := fun KE self => by
        unfold m_X6_pathLine_L52
        simp only [lit_n, mI_lit]
        rw [if_neg g8, q_jn]
        by_cases e0 : m = 0
        · rw [if_pos (by rw [nI_t (by omega)]; omega)]
        · rw [if_neg (by rw [nI_t (by omega)]; omega), kd, q_bd_s', if_pos (by rw [nI_t (by omega), nI_t (by omega)]; omega)]
      have rr : ∀ K self, m_X11_readPath_L55 (nI (90 + 9 * e)) (fun u_14 => q_bd (m_X11_errs (nI 3) u_14) fun r_15 u_16 => some (r_15, u_16)) (fun u_17 => some (mI, u_17)) K self v = if (tx N z i).1 = 3 ∧ (tx N z i).2 < 10 ∧ m = 8 then q_bd (m_X11_errs (nI 3) v) fun r_15 u_16 => some (r_15, u_16) else q_bd (m_X11_readNumber (nI 0) (nI 9) v) fun r u_8 => if r.toInt = mI.toInt then some (mI, u_8) else Option.bind (q_ald u_8 178 180 (nI (90 + 9 * e))) fun a_9 => Option.bind (q_ast u_8 178 180 (nI (90 + 9 * e)) (a_9 + nI 1)) fun u_10 => Option.bind (q_ald u_10 178 180 (nI (90 + 9 * e))) fun a_11 => Option.bind (q_ast u_10 178 180 (nI (90 + 9 * e) + a_11) r) fun u_12 => self u_12 := fun K self => by
        unfold m_X11_readPath_L55
        simp only [lit_n, mI_lit]
        rw [al, Option.bind_some, q_jn]
        have J : ∀ X : qR, (if (nI m).toInt = 0 then X else if (v.1 163 17).toInt = (nI 3).toInt then X else K v) = X := fun X => by
          by_cases e0 : m = 0
          · rw [if_pos (by rw [nI_t (by omega)]; omega)]
          · rw [if_neg (by rw [nI_t (by omega)]; omega), hA.2.2.1, if_pos (by rw [nI_t (by omega), nI_t (by omega)]; omega)]
        rw [J]
        dsimp only
        rw [q_jn, hA.2.2.1, nI_t (show (tx N z i).1 < _ by omega), nI_t (show 3 < _ by omega)]
        by_cases e3 : (tx N z i).1 = 3
        · have hv4 := (hX.tok i).2.2.2 e3
          rw [if_pos (by omega), hA.2.2.2 (by omega), nI_t (show 10 < _ by omega), nI_t (by omega)]
          by_cases e10 : (tx N z i).2 < 10
          · rw [if_neg (by omega), al, Option.bind_some]
            by_cases e8 : m = 8
            · rw [if_pos (by rw [e8]), if_pos ⟨e3, e10, e8⟩]
            · rw [if_neg (by rw [nI_t (by omega), nI_t (by omega)]; omega), if_neg (fun h => e8 h.2.2)]
          · rw [if_pos (by omega), if_neg (fun h => e10 h.2.1)]
        · rw [if_neg (by omega), if_neg (fun h => e3 h.1)]
      rcases num_b hX hB' 0 (nI 9) (by omega) with ⟨u2, v2, w, p, x1, x2, x3, x4⟩ | ⟨v2, x1, x2, x3, x4, x5, x6, x7, x8, x9⟩
      · have hbad : ¬ ((tx N z i).1 = 3 ∧ (tx N z i).2 < 10 ∧ m = 8) := fun hb => by
          -- a number within its bounds is read
          have kd' := kd
          obtain ⟨l1, l2, l3⟩ := hG.lx hX.2.2.2.2.1
          have hval : u.1 71 i = nI (tx N z i).2 := (l3 i hiT).2.2 hb.1
          have inn := (in_g (nI (tx N z i).2) 0 (nI 9) u (by omega)).1
          rw [nI_t (by omega), nI_t (by omega), decide_eq_true (by omega)] at inn
          have : m_X6_number 66 (nI 0) (nI 9) u = some (nI (tx N z i).2, q_up u 66 6 (u.1 66 6 + nI 1)) := by
            unfold m_X6_number
            simp only [lit_n, mI_lit]
            rw [kd, q_bd_s', nI_t (by omega), nI_t (by omega), if_pos (by omega), hN.1, ald_n (by omega) (by omega), Option.bind_some, show 66 + 5 = 71 from rfl, hval, inn, q_bd_s', if_neg bI_1, hN.1, q_let_s]
          rw [this] at x1
          have e1 := congrArg (fun o => (o.map Prod.fst).getD (nI 0)) x1
          have e2 : nI (tx N z i).2 = mI := e1
          have e3 := congrArg Int32.toInt e2
          rw [nI_t (by omega), mI_t] at e3
          omega
        refine Or.inl ⟨u2, v2, w, p, fun KE => ?_, fun K => ?_, x3, x4⟩
        · show m_X6_pathLine_L52 _ _ _ _ _ (q_it1 _ f) _ _ = _
          rw [cc, x1, q_bd_s', if_pos rfl]; rfl
        · unfold RPl
          show m_X11_readPath_L55 _ _ _ _ (q_it0 _ g) _ = _
          rw [rr, if_neg hbad, x2, q_bd_s', if_pos rfl]
      · have q9 : (tx N z i).2 < 10 := by
          have : (nI 9).toInt = 9 := rfl
          omega
        by_cases e8 : m = 8
        · -- a place too many
          have hbk : q_up (q_up u 66 6 (u.1 66 6 + nI 1)) 66 6 ((q_up u 66 6 (u.1 66 6 + nI 1)).1 66 6 - nI 1) = u := by
            refine qS_ext (fun c j => ?_) rfl
            rw [q_up_1]
            by_cases e1 : c = 66
            · subst e1
              rw [if_pos rfl, upd_g]
              by_cases e2 : j = 6
              · rw [if_pos e2, e2]
                show (u.1 66 6 + nI 1) - nI 1 = u.1 66 6
                rw [hN.1, nI_add, nI_sub (by omega)]; rfl
              · rw [if_neg e2, q_up_1, if_pos rfl, upd_g, if_neg e2]
            · rw [if_neg e1, q_up_1, if_neg e1]
          obtain ⟨u2, c1, c2⟩ := fail_c (w := 3) hX hG hN.1 hiT
          obtain ⟨v3, d1, d2⟩ := errs_r (w := 3) hA gv
          refine Or.inl ⟨u2, v3, 3, _, fun KE => ?_, fun K => ?_, c2, d2⟩
          · show m_X6_pathLine_L52 _ _ _ _ _ (q_it1 _ f) _ _ = _
            rw [cc, x6, q_bd_s', if_neg (by rw [nI_t (by omega), mI_t]; omega), if_pos (by rw [e8])]
            unfold KPb
            rw [q_let_s, hbk, c1, q_bd_s', bz_0]
          · unfold RPl
            show m_X11_readPath_L55 _ _ _ _ (q_it0 _ g) _ = _
            rw [rr, if_pos ⟨x1, q9, e8⟩, d1, q_bd_s']
        · -- one place more
          generalize hqq : (tx N z i).2 = q at *
          have m8 : m < 8 := by omega
          generalize hun : q_up u 66 6 (u.1 66 6 + nI 1) = un at *
          have un80 : un.1 80 e = nI m := by rw [← hun]; exact p2
          have un82 : un.1 82 e = u.1 82 e := by rw [← hun]; rfl
          have ad : m_X4_addStep 79 (nI e) (nI q) un = some (nI 0, q_up (q_up (q_up un 81 (8 * e + m) (nI q)) 80 e (nI (m + 1))) 82 e (u.1 82 e ||| (nI 1 <<< (nI q &&& nI 31)))) := by
            have s1 : (q_up un 81 (8 * e + m) (nI q)).1 80 e = nI m := un80
            have s2 : (q_up (q_up un 81 (8 * e + m) (nI q)) 80 e (nI (m + 1))).1 82 e = u.1 82 e := un82
            unfold m_X4_addStep
            simp only [lit_n]
            rw [show 79 + 1 = 80 from rfl, ald_n (by omega) (by omega), Option.bind_some, un80, if_neg (by rw [nI_t (by omega), nI_t (by omega)]; omega), Option.bind_some, pk_mul, nI_add, Nat.mul_comm e 8, show 79 + 2 = 81 from rfl, ast_n (by omega) (by omega), Option.bind_some, ald_n (by omega) (by omega), Option.bind_some, s1, nI_add, ast_n (by omega) (by omega), Option.bind_some, show 79 + 3 = 82 from rfl, ald_n (by omega) (by omega), Option.bind_some, s2, ast_n (by omega) (by omega), Option.bind_some]
          generalize hu4 : q_up (q_up (q_up un 81 (8 * e + m) (nI q)) 80 e (nI (m + 1))) 82 e (u.1 82 e ||| (nI 1 <<< (nI q &&& nI 31))) = u4 at ad
          have v2_178 : v2.1 178 = v.1 178 := x9.1 178 (by omega)
          have al2 : q_ald v2 178 180 (nI (90 + 9 * e)) = some (nI m) := by rw [ald_n (by omega) (by omega), v2_178, p3]
          have al3 : q_ald (q_up v2 178 (90 + 9 * e) (nI (m + 1))) 178 180 (nI (90 + 9 * e)) = some (nI (m + 1)) := by
            rw [ald_n (by omega) (by omega), q_up_1, if_pos rfl, upd_g, if_pos rfl]
          generalize hv4 : q_up (q_up v2 178 (90 + 9 * e) (nI (m + 1))) 178 (90 + 9 * e + (m + 1)) (nI q) = v4
          have hB4 : BS N z T u0 v0 u4 v4 (i + 1) := by
            rw [← hu4, ← hv4]
            exact ((((x8.uc (by omega)).uc (by omega)).uc (by omega)).vc (Or.inl ⟨rfl, by omega⟩)).vc (Or.inl ⟨rfl, by omega⟩)
          have v4_j : ∀ j, v4.1 178 j = if j = 90 + 9 * e + (m + 1) then nI q else if j = 90 + 9 * e then nI (m + 1) else v.1 178 j := fun j => by
            rw [← hv4, q_up_1, if_pos rfl, upd_g]
            by_cases e1 : j = 90 + 9 * e + (m + 1)
            · rw [if_pos e1, if_pos e1]
            · rw [if_neg e1, if_neg e1, q_up_1, if_pos rfl, upd_g, v2_178]
          have u4_80 : ∀ j, u4.1 80 j = if j = e then nI (m + 1) else u.1 80 j := fun j => by rw [← hu4, ← hun]; rfl
          have u4_81 : ∀ j, u4.1 81 j = if j = 8 * e + m then nI q else u.1 81 j := fun j => by rw [← hu4, ← hun]; rfl
          have u4_82 : ∀ j, u4.1 82 j = if j = e then (u.1 82 e ||| (nI 1 <<< (nI q &&& nI 31))) else u.1 82 j := fun j => by rw [← hu4, ← hun]; rfl
          have hP4 : PE u4 v4 e (m + 1) := by
            refine ⟨by omega, by rw [u4_80, if_pos rfl], by rw [v4_j, if_neg (by omega), if_pos rfl], fun t ht => ?_, ?_⟩
            · by_cases e1 : t = m
              · subst e1
                exact ⟨q, q9, by rw [u4_81, if_pos rfl], by rw [v4_j, if_pos (by omega)]⟩
              · obtain ⟨q', q1, q2, q3⟩ := p4 t (by omega)
                exact ⟨q', q1, by rw [u4_81, if_neg (by omega)]; exact q2, by rw [v4_j, if_neg (by omega), if_neg (by omega)]; exact q3⟩
            · have hps : ∀ n, n ≤ m → pset (fun i => v4.1 178 (90 + 9 * e + 1 + i)) n = pset (fun i => v.1 178 (90 + 9 * e + 1 + i)) n := by
                intro n
                induction n with
                | zero => intro _; rfl
                | succ n ih => intro hn; unfold pset; rw [ih (by omega), v4_j, if_neg (by omega), if_neg (by omega)]
              rw [u4_82, if_pos rfl]
              show _ = pset (fun i => v4.1 178 (90 + 9 * e + 1 + i)) m ||| (nI 1 <<< (v4.1 178 (90 + 9 * e + 1 + m) &&& nI 31))
              rw [hps m (Nat.le_refl _), p5, v4_j, if_pos (by omega)]
          have nbad : ¬ ((tx N z i).1 = 3 ∧ q < 10 ∧ m = 8) := fun hb => e8 hb.2.2
          have stC : ∀ KE, q_it1 (m_X6_pathLine_L52 66 (nI e) KAc KPb KE) (f + 1) (nI m) u = q_it1 (m_X6_pathLine_L52 66 (nI e) KAc KPb KE) f (nI (m + 1)) u4 := fun KE => by
            show m_X6_pathLine_L52 _ _ _ _ _ (q_it1 _ f) _ _ = _
            rw [cc, x6, q_bd_s', if_neg (by rw [nI_t (by omega), mI_t]; omega), if_neg (by rw [nI_t (by omega), nI_t (by omega)]; omega), ad, q_bd_s', nI_add]
          have stR : ∀ K, RPl K (nI (90 + 9 * e)) (g + 1) v = RPl K (nI (90 + 9 * e)) g v4 := fun K => by
            unfold RPl
            show m_X11_readPath_L55 _ _ _ _ (q_it0 _ g) _ = _
            rw [rr, if_neg nbad, x7, q_bd_s', if_neg (by rw [nI_t (by omega), mI_t]; omega), al2, Option.bind_some, nI_add, ast_n (by omega) (by omega), Option.bind_some, al3, Option.bind_some, nI_add, ast_n (by omega) (by omega), Option.bind_some, hv4]
          rcases plp hX he n (i + 1) (m + 1) f g u4 v4 (by omega) (by omega) (by omega) hB4 hP4 with ⟨u5, v5, w, p, y1, y2, y3, y4⟩ | ⟨u5, v5, i5, m5, y1, y2, y3, y4, y5, y6, y7⟩
          · exact Or.inl ⟨u5, v5, w, p, fun KE => (stC KE).trans (y1 KE), fun K => (stR K).trans (y2 K), y3, y4⟩
          · refine Or.inr ⟨u5, v5, i5, m5, fun KE => (stC KE).trans (y1 KE), fun K => (stR K).trans (y2 K), by omega, y4, y5, ?_, fun e' h1 h2 m' h3 => y7 e' h1 h2 m' (h3.fr ?_ ?_ ?_ ?_)⟩
            · rw [y6, ← hu4, ← hun]; rfl
            · rw [u4_80, if_neg h2]
            · intro t ht; rw [u4_81, if_neg (by omega)]
            · rw [u4_82, if_neg h2]
            · intro j j1 j2; rw [v4_j, if_neg (by omega), if_neg (by omega)]
    · refine Or.inr ⟨u, v, i, m, fun KE => ?_, fun K => ?_, Nat.le_refl _, hB', hP', rfl, fun _ _ _ _ h => h⟩
      · show m_X6_pathLine_L52 _ _ _ _ _ (q_it1 _ f) _ _ = _
        generalize q_it1 (m_X6_pathLine_L52 66 (nI e) KAc KPb KE) f = self
        unfold m_X6_pathLine_L52
        simp only [lit_n, mI_lit]
        rw [if_neg g8, q_jn, if_neg (by rw [nI_t (by omega)]; omega), kd, q_bd_s', if_neg (by rw [nI_t (by omega), nI_t (by omega)]; omega)]
      · unfold RPl
        show m_X11_readPath_L55 _ _ _ _ (q_it0 _ g) _ = _
        generalize q_it0 _ g = self
        unfold m_X11_readPath_L55
        simp only [lit_n, mI_lit]
        rw [al, Option.bind_some, q_jn, if_neg (by rw [nI_t (by omega)]; omega), hA.2.2.1, if_neg (by rw [nI_t (by omega), nI_t (by omega)]; omega)]
end
