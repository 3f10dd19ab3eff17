/-! LAYER 2: THE CALLS, 34: conditions -/
def RA (fr : Nat) (b d : Int32) (v : qS) : qR := q_it2 (m_X11_readAny_L9 (fun u_35 => q_bd (m_X11_errs (nI 3) u_35) fun r u_36 => some (r, u_36)) (fun u_37 => some (mI, u_37)) (fun u_38 => some (nI 0, u_38)) (fun u_39 => q_bd (m_X11_errs (nI 1) u_39) fun r_40 u_41 => some (r_40, u_41))) fr b d v
def TBr (self : Int32 → Int32 → qS → qR) (b : Int32) (v : qS) : qR := if b.toInt = 0 then some (nI 0, v) else q_bd (m_X11_isSign (nI 41) v) fun r_7 u_8 => if r_7.toInt = 0 then q_bd (m_X11_errs (nI 1) u_8) fun r_40 u_41 => some (r_40, u_41) else q_let (q_up u_8 163 31 ((u_8.1 163 31) - nI 1)) fun u_9 => q_let (b - nI 1) fun y1 => q_let (q_up u_9 163 29 ((u_9.1 163 29) - nI 1)) fun u_10 => q_bd (m_X11_settles (nI 9) u_10) fun _ u_11 => q_bd (m_X11_reads u_11) fun _ u_12 => self y1 (nI 0) u_12
def KDc (x2 : Int32) (u : qS) : qR := if x2.toInt = 0 then some (nI 1, u) else q_bd (m_X2_emit (66 + 6) (nI 11) (nI 0) u) fun _ u_21 => some (nI 1, u_21)
theorem repI_s {x : Nat} : ∀ n, repI x n ++ [(x, 0)] = repI x (n + 1)
  | 0 => rfl
  | n + 1 => by
    show (x, 0) :: (repI x n ++ [(x, 0)]) = (x, 0) :: repI x (n + 1)
    rw [repI_s n]
theorem xp_10 : ∀ l, l ≤ 1 → xp (repI 10 l) = repI 10 l := by decide
theorem xp_11 : ∀ l, l ≤ 1 → xp (repI 11 l) = repI 11 l := by decide
section
variable {N T : Nat} {z : Nat → Int} {u0 v0 u1 v1 : qS} {k w : Nat}
def SNGp (N : Nat) (z : Nat → Int) (T : Nat) (u0 v0 u1 v1 : qS) (k w : Nat) (Sf : Int32 → qS → qR) (o : Nat) : Prop := ∀ (u v : qS) (i : Nat) (h : Bool) (pre rpre : List (Nat × Nat)) (np : Nat) (S : List Nat) (kn b fr : Nat), kn ≤ o → kn ≤ np → b ≤ o → PC T u0 u1 u i pre h k → PV N z v0 v1 v i rpre o → PD v (S ++ rep 9 kn) → tpN S 9 → (∀ y, y ∈ S → y < 100) → S.length + kn ≤ 3 * o + 2 → pre.length + np ≤ i → rpre.length + np ≤ i → T - i < fr →
  FL u0 v0 (Sf (nI o) u) (RA fr (nI b) (nI 1) v) ∨ ∃ u2 v2 i2 h2 its fr2, Sf (nI o) u = some (nI 1, u2) ∧ RA fr (nI b) (nI 1) v = RA fr2 (nI b) (nI 0) v2 ∧ i < i2 ∧ T - i2 < fr2 ∧ PC T u0 u1 u2 i2 (pre ++ its) h2 k ∧ PV N z v0 v1 v2 i2 (rpre ++ xp its ++ repI 9 kn) (o - kn) ∧ PD v2 S ∧ (pre ++ its).length + np ≤ i2 ∧ (rpre ++ xp its).length + np ≤ i2 ∧ QS its (2 * (8 - o) + 4) true ∧ okA its ∧ HG h h2 w its
def CNDp (N : Nat) (z : Nat → Int) (T : Nat) (u0 v0 u1 v1 : qS) (k w : Nat) (Cf : Int32 → qS → qR) (o : Nat) : Prop := ∀ (u v : qS) (i : Nat) (h : Bool) (pre rpre : List (Nat × Nat)) (np : Nat) (B : List Nat) (b fr : Nat), b ≤ o → PC T u0 u1 u i pre h k → PV N z v0 v1 v i rpre o → PD v B → tpN B 9 → tpN B 10 → tpN B 11 → (∀ y, y ∈ B → y < 100) → B.length ≤ 3 * o → pre.length + np ≤ i → rpre.length + np ≤ i → T - i < fr →
  FL u0 v0 (Cf (nI o) u) (RA fr (nI b) (nI 1) v) ∨ ∃ u2 v2 i2 h2 its fr2, Cf (nI o) u = some (nI 1, u2) ∧ RA fr (nI b) (nI 1) v = TBr (RA fr2) (nI b) v2 ∧ i < i2 ∧ T - i2 ≤ fr2 ∧ PC T u0 u1 u2 i2 (pre ++ its) h2 k ∧ PV N z v0 v1 v2 i2 (rpre ++ xp its) o ∧ PD v2 B ∧ (pre ++ its).length + np ≤ i2 ∧ (rpre ++ xp its).length + np ≤ i2 ∧ QS its (2 * (8 - o) + 6) true ∧ okA its ∧ HG h h2 w its
theorem mem_rep {x y : Nat} : ∀ n, y ∈ rep x n → y = x
  | 0, h => by cases h
  | n + 1, h => by
    rcases List.mem_append.mp h with h1 | h1
    · exact mem_rep n h1
    · exact List.mem_singleton.mp h1
theorem cnl {Sf Cf : Int32 → qS → qR} {o b np : Nat} {h0 : Bool} {pre rpre : List (Nat × Nat)} {B : List Nat} (hX : CX N z 0 T u0 v0) (ho : o ≤ 8) (hb : b ≤ o) (hS : SNGp N z T u0 v0 u1 v1 k w Sf o) (t9 : tpN B 9) (t10 : tpN B 10) (t11 : tpN B 11) (hB : ∀ y, y ∈ B → y < 100) (hBl : B.length ≤ 3 * o) : ∀ (n i fc fr : Nat) (u v : qS) (h : Bool) (E M0 : List (Nat × Nat)) (e l : Nat), T - i < n → T - i < fc → T - i < fr → e ≤ 1 → l ≤ 1 → PC T u0 u1 u i (pre ++ (E ++ (M0 ++ repI 10 l))) h k → PV N z v0 v1 v i (rpre ++ xp (E ++ M0)) o → PD v (B ++ rep 11 e ++ rep 10 l) → (pre ++ (E ++ (M0 ++ repI 10 l))).length + e + np ≤ i → (rpre ++ xp (E ++ M0)).length + l + e + np ≤ i → (e = 0 → E = []) → (e = 1 → QS E (2 * (8 - o) + 6) true) → QS (M0 ++ repI 10 l) (2 * (8 - o) + 5) true → okA (E ++ (M0 ++ repI 10 l)) → HG h0 h w (E ++ (M0 ++ repI 10 l)) →
    FL u0 v0 (q_it1 (m_X6_condition_L12 66 Cf Sf (nI o) KAc KDc) fc (nI e) u) (RA fr (nI b) (nI 0) v) ∨ ∃ u2 v2 i2 h2 its fr2, q_it1 (m_X6_condition_L12 66 Cf Sf (nI o) KAc KDc) fc (nI e) u = some (nI 1, u2) ∧ RA fr (nI b) (nI 0) v = TBr (RA fr2) (nI b) v2 ∧ i ≤ i2 ∧ T - i2 ≤ fr2 ∧ PC T u0 u1 u2 i2 (pre ++ its) h2 k ∧ PV N z v0 v1 v2 i2 (rpre ++ xp its) o ∧ PD v2 B ∧ (pre ++ its).length + np ≤ i2 ∧ (rpre ++ xp its).length + np ≤ i2 ∧ QS its (2 * (8 - o) + 6) true ∧ okA its ∧ HG h0 h2 w its
  | 0, i, fc, fr, u, v, h, E, M0, e, l, hn, hfc, hfr, he, hl, hC, hV, hD, b1, b2, e0, e1, q, ok, hh => by omega
  | n + 1, i, 0, fr, u, v, h, E, M0, e, l, hn, hfc, hfr, he, hl, hC, hV, hD, b1, b2, e0, e1, q, ok, hh => by omega
  | n + 1, i, fc, 0, u, v, h, E, M0, e, l, hn, hfc, hfr, he, hl, hC, hV, hD, b1, b2, e0, e1, q, ok, hh => by omega
  | n + 1, i, fc + 1, fr + 1, u, v, h, E, M0, e, l, hn, hfc, hfr, he, hl, hC, hV, hD, b1, b2, e0, e1, q, ok, hh => by
    have hT := hX.T4
    have hiT : i ≤ T := hC.2.2.1
    have kl := ck_lt hX i
    have hA := hV.2.1
    have kd := kind_c hX hC.1 hC.2.1.1 hiT
    have w5 := word_is (w := 5) hX hA (by decide) (by decide)
    have w4 := word_is (w := 4) hX hA (by decide) (by decide)
    rw [show 256 + (5 - sA 0) = 261 from rfl] at w5
    rw [show 256 + (4 - sA 0) = 260 from rfl] at w4
    have g1 : ¬ (u.1 67 5).toInt ≤ (u.1 66 6).toInt := by rw [(hC.1.lx hX.2.2.2.2.1).2.1, hC.2.1.1, nI_t (by omega), nI_t (by omega)]; omega
    have lD : (B ++ rep 11 e ++ rep 10 l).length = B.length + e + l := by rw [List.length_append, List.length_append, rep_len, rep_len]
    have m1 : ∀ y, y ∈ B ++ rep 11 e → y < 100 := fun y hy => by
      rcases List.mem_append.mp hy with h1 | h1
      · exact hB y h1
      · have := mem_rep e h1; omega
    have tp1 : tpN (B ++ rep 11 e) 10 := by
      have : e = 0 ∨ e = 1 := by omega
      rcases this with rfl | rfl
      · show tpN (B ++ []) 10; rw [List.append_nil]; exact t10
      · exact tpN.app (by omega)
    obtain ⟨va, a1, a2, a3⟩ := setl_r (x := 10) (m := l) (by omega) tp1 m1 hV hD (by omega) (by omega) (fun e => by omega) (by omega)
    rw [if_neg (show ¬ 10 = 9 by omega)] at a2
    have eA : rpre ++ xp (E ++ M0) ++ repI 10 l = rpre ++ xp (E ++ (M0 ++ repI 10 l)) := by
      rw [← List.append_assoc E, xp_app (E ++ M0), xp_10 l hl, List.append_assoc]
    rw [eA] at a2
    have lA : (rpre ++ xp (E ++ (M0 ++ repI 10 l))).length = (rpre ++ xp (E ++ M0)).length + l := by rw [← eA, List.length_append, repI_len]
    generalize hM : M0 ++ repI 10 l = M at *
    have lB : (B ++ rep 11 e).length = B.length + e := by rw [List.length_append, rep_len]
    by_cases c1 : ck 0 (tx N z i) = 261
    · have hlt := hX.lt hiT (by omega)
      have hC1 := nx_c hC hlt
      obtain ⟨vb, d1, d2, d3⟩ := wait_r a2 a3 (by omega) 10
      obtain ⟨vc, f1, f2, f3⟩ := rd_r hX d2
      have hD3 := d3.hp f3
      have stR : RA (fr + 1) (nI b) (nI 0) v = RA fr (nI b) (nI 1) vc := by
        unfold RA
        show m_X11_readAny_L9 _ _ _ _ (RA fr) _ _ _ = _
        unfold m_X11_readAny_L9
        simp only [lit_n, mI_lit]
        rw [if_pos (by decide), w5, q_bd_s', decide_eq_true c1, if_neg bI_1, a1, q_bd_s', d1, q_bd_s', f1, q_bd_s']
        rfl
      have stC : ∀ r u', Sf (nI o) (q_up u 66 6 (u.1 66 6 + nI 1)) = some (r, u') → q_it1 (m_X6_condition_L12 66 Cf Sf (nI o) KAc KDc) (fc + 1) (nI e) u = if r.toInt = 0 then KAc u' else q_bd (m_X2_emit 72 (nI 10) (nI 0) u') fun _ u_14 => q_it1 (m_X6_condition_L12 66 Cf Sf (nI o) KAc KDc) fc (nI e) u_14 := fun r u' hs => by
        show m_X6_condition_L12 _ _ _ _ _ _ (q_it1 (m_X6_condition_L12 66 Cf Sf (nI o) KAc KDc) fc) _ _ = _
        generalize q_it1 (m_X6_condition_L12 66 Cf Sf (nI o) KAc KDc) fc = self
        unfold m_X6_condition_L12
        simp only [lit_n]
        rw [show 66 + 1 = 67 from rfl, if_neg g1, kd, q_bd_s', q_jn, c1, if_neg (by decide), kd, q_bd_s', c1, if_pos rfl]
        dsimp only
        rw [kd, q_bd_s', q_jn, c1, if_neg (by decide)]
        dsimp only
        rw [q_let_s, q_jn, if_pos (by decide)]
        dsimp only
        rw [q_jn, q_jn]
        have : e = 0 ∨ e = 1 := by omega
        rcases this with rfl | rfl
        · rw [if_pos (by decide), if_pos (by decide)]
          dsimp only
          rw [hs, q_bd_s', q_jn, if_pos (show (nI 0).toInt = 0 by decide)]
        · rw [if_neg (by decide)]
          dsimp only
          rw [hs, q_bd_s', q_jn, if_pos (show (nI 0).toInt = 0 by decide)]
      have l10 : (B ++ rep 11 e ++ [10]).length = B.length + e + 1 := by rw [List.length_append, lB]; rfl
      have hS1 := hS (q_up u 66 6 (u.1 66 6 + nI 1)) vc (i + 1) h (pre ++ (E ++ M)) (rpre ++ xp (E ++ M)) (np + e + 1) (B ++ rep 11 e ++ [10]) 0 b fr (by omega) (by omega) hb hC1 f2 (by show PD vc (_ ++ []); rw [List.append_nil]; exact hD3) (tpN.app (by omega)) (fun y hy => by
        rcases List.mem_append.mp hy with h1 | h1
        · exact m1 y h1
        · have := List.mem_singleton.mp h1; omega) (by omega) (by omega) (by omega) (by omega)
      rcases hS1 with ⟨u2, v2, w', p, x1, x2, x3, x4⟩ | ⟨u2, v2, i2, h2, its, fr2, x1, x2, x3, x4, x5, x6, x7, x8, x9, x10, x11, x12⟩
      · refine Or.inl ⟨u2, v2, w', p, ?_, stR.trans x2, x3, x4⟩
        rw [stC _ _ x1, if_pos (by decide)]; rfl
      · have i2T : i2 ≤ T := x5.2.2.1
        obtain ⟨u3, y1, y2⟩ := emit_c x5 (by omega) (10, 0)
        have eC : pre ++ (E ++ M) ++ its ++ [(10, 0)] = pre ++ (E ++ ((M ++ its) ++ repI 10 1)) := by
          show _ = pre ++ (E ++ ((M ++ its) ++ [(10, 0)]))
          rw [List.append_assoc, List.append_assoc, List.append_assoc, List.append_assoc]
        have eR : rpre ++ xp (E ++ M) ++ xp its ++ repI 9 0 = rpre ++ xp (E ++ (M ++ its)) := by
          show rpre ++ xp (E ++ M) ++ xp its ++ [] = _
          rw [List.append_nil, List.append_assoc, ← xp_app, List.append_assoc]
        have lC : (pre ++ (E ++ M) ++ its ++ [(10, 0)]).length = (pre ++ (E ++ M) ++ its).length + 1 := ln1
        have lR : (rpre ++ xp (E ++ M) ++ xp its ++ repI 9 0).length = (rpre ++ xp (E ++ M) ++ xp its).length := by rw [List.length_append]; rfl
        rw [eC] at y2 lC
        rw [eR] at x6 lR
        have ih := cnl (Cf := Cf) (np := np) (h0 := h0) hX ho hb hS t9 t10 t11 hB hBl n i2 fc fr2 u3 v2 h2 E (M ++ its) e 1 (by omega) (by omega) x4 he (by omega) y2 x6 x7 (by omega) (by omega) e0 e1 ((QS.lg 10 (Or.inl rfl) q x10).mono (by omega)) (by
          intro t ht
          rcases List.mem_append.mp ht with h1 | h1
          · exact ok t (List.mem_append_left _ h1)
          · rcases List.mem_append.mp h1 with h3 | h3
            · rcases List.mem_append.mp h3 with h4 | h4
              · exact ok t (List.mem_append_right _ h4)
              · exact x11 t h4
            · have := List.mem_singleton.mp h3
              rw [this]; exact ⟨by show 10 < 12; omega, by show 0 < 10000; omega⟩) (by
          have := (hh.app x12).app (HG.op (h := h2) (w := w) (o := 10) (by omega) 0)
          rw [List.append_assoc, List.append_assoc, ← List.append_assoc M] at this
          exact this)
        rcases ih with ⟨u5, v5, w', p, z1, z2, z3, z4⟩ | ⟨u5, v5, i5, h5, its5, fr5, z1, z2, z3, z4, z5⟩
        · refine Or.inl ⟨u5, v5, w', p, ?_, (stR.trans x2).trans z2, z3, z4⟩
          rw [stC _ _ x1, if_neg (by decide), y1, q_bd_s']; exact z1
        · refine Or.inr ⟨u5, v5, i5, h5, its5, fr5, ?_, (stR.trans x2).trans z2, by omega, z4, z5⟩
          rw [stC _ _ x1, if_neg (by decide), y1, q_bd_s']; exact z1
    · obtain ⟨vb, b1', b2', b3'⟩ := setl_r (x := 11) (m := e) (S := B) (by omega) t11 hB a2 a3 (by omega) (by omega) (fun e => by omega) (by omega)
      rw [if_neg (show ¬ 11 = 9 by omega)] at b2'
      have eE : rpre ++ xp (E ++ M) ++ repI 11 e = rpre ++ xp (E ++ M ++ repI 11 e) := by
        rw [xp_app (E ++ M), xp_11 e he, List.append_assoc]
      rw [eE] at b2'
      have lE : (rpre ++ xp (E ++ M ++ repI 11 e)).length = (rpre ++ xp (E ++ M)).length + e := by rw [← eE, List.length_append, repI_len]
      have qE : QS (E ++ M ++ repI 11 e) (2 * (8 - o) + 6) true := by
        have : e = 0 ∨ e = 1 := by omega
        rcases this with rfl | rfl
        · show QS (E ++ M ++ []) _ _
          rw [e0 rfl, List.append_nil, List.nil_append]; exact q.mono (by omega)
        · exact (QS.lg 11 (Or.inr rfl) (e1 rfl) q).mono (by omega)
      have oE : okA (E ++ M ++ repI 11 e) := by
        have : e = 0 ∨ e = 1 := by omega
        rcases this with rfl | rfl
        · show okA (E ++ M ++ []); rw [List.append_nil]; exact ok
        · exact ok.app (okA.one ⟨by show 11 < 12; omega, by show 0 < 10000; omega⟩)
      have hE : HG h0 h w (E ++ M ++ repI 11 e) := by
        have : e = 0 ∨ e = 1 := by omega
        rcases this with rfl | rfl
        · show HG h0 h w (E ++ M ++ []); rw [List.append_nil]; exact hh
        · exact hh.app (HG.op (by omega) 0)
      have em : ∀ (u' : qS) (i' : Nat), PC T u0 u1 u' i' (pre ++ (E ++ M)) h k → i ≤ i' → ∃ u'', PC T u0 u1 u'' i' (pre ++ (E ++ M ++ repI 11 e)) h k ∧ ((e = 0 ∧ u'' = u') ∨ (e = 1 ∧ m_X2_emit 72 (nI 11) (nI 0) u' = some (nI 0, u''))) := fun u' i' hC' hi' => by
        have : e = 0 ∨ e = 1 := by omega
        rcases this with rfl | rfl
        · exact ⟨u', by show PC T u0 u1 u' i' (pre ++ (E ++ M ++ [])) h k; rw [List.append_nil]; exact hC', Or.inl ⟨rfl, rfl⟩⟩
        · obtain ⟨u'', c1, c2⟩ := emit_c hC' (by omega) (11, 0)
          rw [List.append_assoc pre] at c2
          exact ⟨u'', c2, Or.inr ⟨rfl, c1⟩⟩
      have lEC : (pre ++ (E ++ M ++ repI 11 e)).length = (pre ++ (E ++ M)).length + e := by rw [← List.append_assoc, List.length_append, repI_len]
      by_cases c2 : ck 0 (tx N z i) = 260
      · have hlt := hX.lt hiT (by omega)
        obtain ⟨u', hC1, ce⟩ := em _ (i + 1) (nx_c hC hlt) (by omega)
        obtain ⟨vc, d1, d2, d3⟩ := wait_r b2' b3' (by omega) 11
        obtain ⟨vd, f1, f2, f3⟩ := rd_r hX d2
        have hD3 := d3.hp f3
        have stR : RA (fr + 1) (nI b) (nI 0) v = RA fr (nI b) (nI 1) vd := by
          unfold RA
          show m_X11_readAny_L9 _ _ _ _ (RA fr) _ _ _ = _
          unfold m_X11_readAny_L9
          simp only [lit_n, mI_lit]
          rw [if_pos (by decide), w5, q_bd_s', decide_eq_false c1, if_pos bI_0, w4, q_bd_s', decide_eq_true c2, if_neg bI_1, a1, q_bd_s', b1', q_bd_s', d1, q_bd_s', f1, q_bd_s']
          rfl
        have stC : ∀ r u'', Sf (nI o) u' = some (r, u'') → q_it1 (m_X6_condition_L12 66 Cf Sf (nI o) KAc KDc) (fc + 1) (nI e) u = if r.toInt = 0 then KAc u'' else q_it1 (m_X6_condition_L12 66 Cf Sf (nI o) KAc KDc) fc (nI 1) u'' := fun r u'' hs => by
          show m_X6_condition_L12 _ _ _ _ _ _ (q_it1 (m_X6_condition_L12 66 Cf Sf (nI o) KAc KDc) fc) _ _ = _
          generalize q_it1 (m_X6_condition_L12 66 Cf Sf (nI o) KAc KDc) fc = self
          unfold m_X6_condition_L12
          simp only [lit_n]
          rw [show 66 + 1 = 67 from rfl, if_neg g1, kd, q_bd_s', q_jn, c2, if_pos rfl]
          dsimp only
          rw [kd, q_bd_s', q_jn, c2, if_pos rfl]
          dsimp only
          rw [q_let_s, q_jn, if_neg (by decide)]
          rcases ce with ⟨rfl, y2⟩ | ⟨rfl, y2⟩
          · rw [if_pos (by decide)]
            dsimp only
            rw [q_jn, q_jn, if_pos (by decide), if_neg (by decide)]
            dsimp only
            rw [← y2, hs, q_bd_s', q_jn, if_neg (show ¬ (nI 1).toInt = 0 by decide)]
          · rw [if_neg (by decide), show 66 + 6 = 72 from rfl, y2, q_bd_s']
            dsimp only
            rw [q_jn, q_jn, if_neg (by decide)]
            dsimp only
            rw [hs, q_bd_s', q_jn, if_neg (show ¬ (nI 1).toInt = 0 by decide)]
        have l11 : (B ++ [11]).length = B.length + 1 := List.length_append
        have hS1 := hS u' vd (i + 1) h (pre ++ (E ++ M ++ repI 11 e)) (rpre ++ xp (E ++ M ++ repI 11 e)) (np + 1) (B ++ [11]) 0 b fr (by omega) (by omega) hb hC1 f2 (by show PD vd (_ ++ []); rw [List.append_nil]; exact hD3) (tpN.app (by omega)) (fun y hy => by
          rcases List.mem_append.mp hy with h1 | h1
          · exact hB y h1
          · have := List.mem_singleton.mp h1; omega) (by omega) (by omega) (by omega) (by omega)
        rcases hS1 with ⟨u2, v2, w', p, x1, x2, x3, x4⟩ | ⟨u2, v2, i2, h2, its, fr2, x1, x2, x3, x4, x5, x6, x7, x8, x9, x10, x11, x12⟩
        · refine Or.inl ⟨u2, v2, w', p, ?_, stR.trans x2, x3, x4⟩
          rw [stC _ _ x1, if_pos (by decide)]; rfl
        · have i2T : i2 ≤ T := x5.2.2.1
          have eC : pre ++ (E ++ M ++ repI 11 e) ++ its = pre ++ ((E ++ M ++ repI 11 e) ++ (its ++ repI 10 0)) := by
            show _ = pre ++ ((E ++ M ++ repI 11 e) ++ (its ++ []))
            rw [List.append_nil, List.append_assoc pre]
          have eR : rpre ++ xp (E ++ M ++ repI 11 e) ++ xp its ++ repI 9 0 = rpre ++ xp ((E ++ M ++ repI 11 e) ++ its) := by
            show rpre ++ xp (E ++ M ++ repI 11 e) ++ xp its ++ [] = _
            rw [List.append_nil, List.append_assoc, ← xp_app]
          have lR : (rpre ++ xp (E ++ M ++ repI 11 e) ++ xp its ++ repI 9 0).length = (rpre ++ xp (E ++ M ++ repI 11 e) ++ xp its).length := by rw [List.length_append]; rfl
          rw [eC] at x5 x8
          rw [eR] at x6 lR
          have q0 : its ++ repI 10 0 = its := List.append_nil its
          have ih := cnl (Cf := Cf) (np := np) (h0 := h0) hX ho hb hS t9 t10 t11 hB hBl n i2 fc fr2 u2 v2 h2 (E ++ M ++ repI 11 e) its 1 0 (by omega) (by omega) x4 (by omega) (by omega) x5 x6 (by show PD v2 (B ++ [11] ++ []); rw [List.append_nil]; exact x7) (by omega) (by omega) (fun e => by omega) (fun _ => qE) (by rw [q0]; exact x10.mono (by omega)) (by rw [q0]; exact oE.app x11) (by rw [q0]; exact hE.app x12)
          rcases ih with ⟨u5, v5, w', p, z1, z2, z3, z4⟩ | ⟨u5, v5, i5, h5, its5, fr5, z1, z2, z3, z4, z5⟩
          · refine Or.inl ⟨u5, v5, w', p, ?_, (stR.trans x2).trans z2, z3, z4⟩
            rw [stC _ _ x1, if_neg (by decide)]; exact z1
          · refine Or.inr ⟨u5, v5, i5, h5, its5, fr5, ?_, (stR.trans x2).trans z2, by omega, z4, z5⟩
            rw [stC _ _ x1, if_neg (by decide)]; exact z1
      · obtain ⟨u', hC1, ce⟩ := em u i hC (Nat.le_refl _)
        refine Or.inr ⟨u', vb, i, h, E ++ M ++ repI 11 e, fr, ?_, ?_, Nat.le_refl _, by omega, hC1, b2', b3', by omega, by omega, qE, oE, hE⟩
        · show m_X6_condition_L12 _ _ _ _ _ _ (q_it1 (m_X6_condition_L12 66 Cf Sf (nI o) KAc KDc) fc) _ _ = _
          generalize q_it1 (m_X6_condition_L12 66 Cf Sf (nI o) KAc KDc) fc = self
          unfold m_X6_condition_L12
          simp only [lit_n]
          rw [show 66 + 1 = 67 from rfl, if_neg g1, kd, q_bd_s', q_jn, nI_t (show ck 0 (tx N z i) < _ by omega), nI_t (show 260 < _ by omega), if_neg (by omega), kd, q_bd_s', nI_t (show ck 0 (tx N z i) < _ by omega), nI_t (show 261 < _ by omega), if_neg (by omega)]
          unfold KDc
          rcases ce with ⟨rfl, y2⟩ | ⟨rfl, y2⟩
          · rw [if_pos (by decide), y2]
          · rw [if_neg (by decide), show 66 + 6 = 72 from rfl, y2, q_bd_s']
        · unfold RA
          show m_X11_readAny_L9 _ _ _ _ (RA fr) _ _ _ = _
          unfold m_X11_readAny_L9
          simp only [lit_n, mI_lit]
          rw [if_pos (by decide), w5, q_bd_s', decide_eq_false c1, if_pos bI_0, w4, q_bd_s', decide_eq_false c2, if_pos bI_0, a1, q_bd_s', b1', q_bd_s']
          rfl
end
