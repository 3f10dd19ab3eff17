/-! LAYER 2: THE CALLS, 31: sums -/
def KAc (u : qS) : qR := some (nI 0, u)
def KBc (x1 : Int32) (u : qS) : qR := if x1.toInt = mI.toInt then some (nI 1, u) else q_bd (m_X2_emit 72 x1 (nI 0) u) fun _ u_24 => some (nI 1, u_24)
def RSs (g : Nat) (v : qS) : qR := q_it0 (m_X11_readSum_L10 (fun u_11 => some (mI, u_11)) (fun u_12 => some (nI 0, u_12))) g v
def wl : Option Nat → List (Nat × Nat)
  | none => []
  | some o => [(o, 0)]
section
variable {N T : Nat} {z : Nat → Int} {u0 v0 u1 v1 : qS} {k o w np : Nat} {h0 : Bool} {pre rpre : List (Nat × Nat)}
theorem headS (hX : CX N z 0 T u0 v0) {u u' : qS} {i c : Nat} {h : Bool} {cs : List (Nat × Nat)} {wq : Option Nat} {KA : qS → qR} {KB : Int32 → qS → qR} {self : Int32 → Int32 → qS → qR} (hC : PC T u0 u1 u i cs h k) (hc : c = 43 ∨ c = 45) (hq : ∀ o, wq = some o → o < 12) (he : (wq = none ∧ u' = q_up u 66 6 (u.1 66 6 + nI 1)) ∨ ∃ o, wq = some o ∧ m_X2_emit 72 (nI o) (nI 0) (q_up u 66 6 (u.1 66 6 + nI 1)) = some (nI 0, u')) : m_X6_sum_L16 66 KA KB self (enc wq) (nI c) u = q_bd (m_X6_operand 66 u') fun r u_17 => if r.toInt = 0 then KA u_17 else q_bd (m_X6_kind 66 u_17) fun r u_11 => self (nI (if c = 43 then 5 else 6)) r u_11 := by
  have hT := hX.T4
  have hiT : i ≤ T := hC.2.2.1
  have g1 : ¬ (u.1 67 5).toInt ≤ (u.1 66 6).toInt := by rw [(hC.1.lx hX.2.2.2.2.1).2.1, hC.2.1.1, nI_t (by omega), nI_t (by omega)]; omega
  unfold m_X6_sum_L16
  simp only [lit_n, mI_lit]
  rw [show 66 + 1 = 67 from rfl, if_neg g1, q_jn]
  rcases hc with rfl | rfl
  · rw [if_neg (show ¬ (nI 43).toInt = (nI 42).toInt by decide), if_neg (show ¬ (nI 43).toInt = (nI 47).toInt by decide), if_pos (show (nI 43).toInt = (nI 43).toInt from rfl)]
    dsimp only
    rw [q_let_s, q_jn, q_jn, if_pos (show (nI 43).toInt = (nI 43).toInt from rfl)]
    have fin : ∀ un, (q_jn (fun (s0 : Int32) (u_7 : qS) => if s0.toInt = mI.toInt then KA u_7 else q_jn (fun (u_8 : qS) => q_jn (fun (x1_9 : Int32) (u_10 : qS) => q_bd (m_X6_kind 66 u_10) fun r u_11 => self x1_9 r u_11) fun J176 => if (nI 43).toInt = (nI 47).toInt then q_bd (m_X2_emit (66 + 6) (nI 2) s0 u_8) fun _ u_15 => J176 (enc wq) u_15 else if (nI 43).toInt = (nI 42).toInt then q_bd (m_X2_emit (66 + 6) (nI 4) (nI 0) u_8) fun _ u_14 => J176 (enc wq) u_14 else q_jn (fun (s0_12 : Int32) (u_13 : qS) => J176 s0_12 u_13) fun J175 => if (nI 43).toInt = (nI 43).toInt then J175 (nI 5) u_8 else J175 (nI 6) u_8) fun J127 => if s0.toInt = 0 then q_bd (m_X6_operand 66 u_7) fun r_16 u_17 => if r_16.toInt = 0 then KA u_17 else J127 u_17 else J127 u_7) fun J108 => if (nI 43).toInt = (nI 47).toInt then q_bd (m_X6_number 66 (nI 1) (nI 9999) un) fun r_18 u_19 => J108 r_18 u_19 else J108 (nI 0) un) = q_bd (m_X6_operand 66 un) fun r u_17 => if r.toInt = 0 then KA u_17 else q_bd (m_X6_kind 66 u_17) fun r u_11 => self (nI 5) r u_11 := fun un => by
      rw [q_jn, if_neg (show ¬ (nI 43).toInt = (nI 47).toInt by decide)]
      dsimp only
      rw [if_neg (show ¬ (nI 0).toInt = mI.toInt by decide), q_jn, if_pos (show (nI 0).toInt = 0 by decide)]
      congr 1
    rcases he with ⟨e1, e2⟩ | ⟨o', e1, e2⟩
    · rw [e1] at fin ⊢
      rw [if_pos (show (enc none).toInt = mI.toInt from rfl), e2]
      exact fin _
    · have := hq o' e1
      rw [e1] at fin ⊢
      rw [show enc (some o') = nI o' from rfl] at fin ⊢
      rw [if_neg (by rw [nI_t (by omega), mI_t]; omega), show 66 + 6 = 72 from rfl]
      dsimp only
      rw [e2, q_bd_s']
      exact fin _
  · rw [if_neg (show ¬ (nI 45).toInt = (nI 42).toInt by decide), if_neg (show ¬ (nI 45).toInt = (nI 47).toInt by decide), if_neg (show ¬ (nI 45).toInt = (nI 43).toInt by decide), if_pos (show (nI 45).toInt = (nI 45).toInt from rfl)]
    dsimp only
    rw [q_let_s, q_jn, q_jn, if_neg (show ¬ (nI 45).toInt = (nI 43).toInt by decide), if_pos (show (nI 45).toInt = (nI 45).toInt from rfl)]
    have fin : ∀ un, (q_jn (fun (s0 : Int32) (u_7 : qS) => if s0.toInt = mI.toInt then KA u_7 else q_jn (fun (u_8 : qS) => q_jn (fun (x1_9 : Int32) (u_10 : qS) => q_bd (m_X6_kind 66 u_10) fun r u_11 => self x1_9 r u_11) fun J176 => if (nI 45).toInt = (nI 47).toInt then q_bd (m_X2_emit (66 + 6) (nI 2) s0 u_8) fun _ u_15 => J176 (enc wq) u_15 else if (nI 45).toInt = (nI 42).toInt then q_bd (m_X2_emit (66 + 6) (nI 4) (nI 0) u_8) fun _ u_14 => J176 (enc wq) u_14 else q_jn (fun (s0_12 : Int32) (u_13 : qS) => J176 s0_12 u_13) fun J175 => if (nI 45).toInt = (nI 43).toInt then J175 (nI 5) u_8 else J175 (nI 6) u_8) fun J127 => if s0.toInt = 0 then q_bd (m_X6_operand 66 u_7) fun r_16 u_17 => if r_16.toInt = 0 then KA u_17 else J127 u_17 else J127 u_7) fun J108 => if (nI 45).toInt = (nI 47).toInt then q_bd (m_X6_number 66 (nI 1) (nI 9999) un) fun r_18 u_19 => J108 r_18 u_19 else J108 (nI 0) un) = q_bd (m_X6_operand 66 un) fun r u_17 => if r.toInt = 0 then KA u_17 else q_bd (m_X6_kind 66 u_17) fun r u_11 => self (nI 6) r u_11 := fun un => by
      rw [q_jn, if_neg (show ¬ (nI 45).toInt = (nI 47).toInt by decide)]
      dsimp only
      rw [if_neg (show ¬ (nI 0).toInt = mI.toInt by decide), q_jn, if_pos (show (nI 0).toInt = 0 by decide)]
      congr 1
    rcases he with ⟨e1, e2⟩ | ⟨o', e1, e2⟩
    · rw [e1] at fin ⊢
      rw [if_pos (show (enc none).toInt = mI.toInt from rfl), e2]
      exact fin _
    · have := hq o' e1
      rw [e1] at fin ⊢
      rw [show enc (some o') = nI o' from rfl] at fin ⊢
      rw [if_neg (by rw [nI_t (by omega), mI_t]; omega), show 66 + 6 = 72 from rfl]
      dsimp only
      rw [e2, q_bd_s']
      exact fin _
theorem headR (hX : CX N z 0 T u0 v0) {v v1' : qS} {i c : Nat} {self : qS → qR} (hA : AT N z v i) (hc : c = 43 ∨ c = 45) (e : ck 0 (tx N z i) = c) (f1 : m_X11_reads v = some (nI 0, v1')) : m_X11_readSum_L10 (fun u_11 => some (mI, u_11)) (fun u_12 => some (nI 0, u_12)) self v = q_bd (m_X11_readProduct v1') fun r_6 u_7 => if r_6.toInt = mI.toInt then some (mI, u_7) else q_bd (m_X11_emits (nI (if c = 43 then 2 else 3)) (nI 0) u_7) fun _ u_8 => self u_8 := by
  have s43 := sign_r (c := 43) hX hA (by omega) (by omega)
  have s45 := sign_r (c := 45) hX hA (by omega) (by omega)
  have ha := ck_all (si := 0) (hX.tok i) hX.se
  have h0A : sA 0 = 0 := rfl
  have h18 : v.1 163 18 = nI c := by
    have h4 : (tx N z i).1 = 4 := by omega
    rw [hA.2.2.2 (by omega)]
    rw [show (tx N z i).2 = c by omega]
  unfold m_X11_readSum_L10
  simp only [lit_n, mI_lit]
  rw [s43, q_bd_s', q_jn]
  rcases hc with rfl | rfl
  · rw [decide_eq_true e, if_neg bI_1]
    dsimp only
    rw [q_jn, h18, if_pos rfl]
    dsimp only
    rw [f1, q_bd_s', if_pos rfl]
  · rw [decide_eq_false (by omega), if_pos bI_0, s45, q_bd_s', decide_eq_true e, if_neg bI_1]
    dsimp only
    rw [q_jn, h18, if_neg (by decide)]
    dsimp only
    rw [f1, q_bd_s', if_neg (by omega)]
theorem sml (hX : CX N z 0 T u0 v0) (hk : k ≤ 15) (hw : u1.1 73 k = nI w) (hw3 : w < 3) : ∀ (n i f g : Nat) (u v : qS) (h : Bool) (S P : List (Nat × Nat)) (wq : Option Nat), T - i < n → T - i < f → T - i < g → ck 0 (tx N z i) ≠ 42 → ck 0 (tx N z i) ≠ 47 → PC T u0 u1 u i (pre ++ (S ++ P)) h k → PV N z v0 v1 v i (rpre ++ xp (S ++ P ++ wl wq)) o → (pre ++ (S ++ P)).length + (wl wq).length + np ≤ i → (rpre ++ xp (S ++ P ++ wl wq)).length + np ≤ i → (wq = none → S = []) → (∀ o, wq = some o → (o = 5 ∨ o = 6) ∧ QS S 3 false) → QS P 2 false → okA (S ++ P) → HG h0 h w (S ++ P) →
    FL u0 v0 (q_it2 (m_X6_sum_L16 66 KAc KBc) f (enc wq) (nI (ck 0 (tx N z i))) u) (RSs g v) ∨
    ∃ u2 v2 i2 h2 its, q_it2 (m_X6_sum_L16 66 KAc KBc) f (enc wq) (nI (ck 0 (tx N z i))) u = some (nI 1, u2) ∧ RSs g v = some (nI 0, v2) ∧ i ≤ i2 ∧ PC T u0 u1 u2 i2 (pre ++ its) h2 k ∧ PV N z v0 v1 v2 i2 (rpre ++ xp its) o ∧ (pre ++ its).length + np ≤ i2 ∧ (rpre ++ xp its).length + np ≤ i2 ∧ QS its 3 false ∧ okA its ∧ HG h0 h2 w its ∧ HP v v2
  | 0, i, f, g, u, v, h, S, P, wq, hn, hf, hg, n42, n47, hC, hV, b1, b2, w1, w2, q, ok, hh => by omega
  | n + 1, i, 0, g, u, v, h, S, P, wq, hn, hf, hg, n42, n47, hC, hV, b1, b2, w1, w2, q, ok, hh => by omega
  | n + 1, i, f, 0, u, v, h, S, P, wq, hn, hf, hg, n42, n47, hC, hV, b1, b2, w1, w2, q, ok, hh => by omega
  | n + 1, i, f + 1, g + 1, u, v, h, S, P, wq, hn, hf, hg, n42, n47, hC, hV, b1, b2, w1, w2, q, ok, hh => by
    have hT := hX.T4
    have hiT : i ≤ T := hC.2.2.1
    have kl := ck_lt hX i
    have hA := hV.2.1
    have qF : QS (S ++ P ++ wl wq) 3 false := by
      cases wq with
      | none => rw [w1 rfl]; show QS ([] ++ P ++ []) 3 false; rw [List.append_nil, List.nil_append]; exact q.mono (by omega)
      | some o' =>
        obtain ⟨x1, x2⟩ := w2 o' rfl
        exact ((QS.bin o' (by omega) x2 q).mono (by omega)).weak
    have oF : okA (S ++ P ++ wl wq) := by
      cases wq with
      | none => show okA (S ++ P ++ []); rw [List.append_nil]; exact ok
      | some o' => exact ok.app (okA.one ⟨by show o' < 12; have := (w2 o' rfl).1; omega, by show 0 < 10000; omega⟩)
    have hF : HG h0 h w (S ++ P ++ wl wq) := by
      cases wq with
      | none => show HG h0 h w (S ++ P ++ []); rw [List.append_nil]; exact hh
      | some o' => exact hh.app (HG.op (by have := (w2 o' rfl).1; omega) 0)
    have lF : (pre ++ (S ++ P ++ wl wq)).length = (pre ++ (S ++ P)).length + (wl wq).length := by
      rw [← List.append_assoc, List.length_append]
    have em : ∀ (u' : qS) (i' : Nat), PC T u0 u1 u' i' (pre ++ (S ++ P)) h k → i ≤ i' → ∃ u'', PC T u0 u1 u'' i' (pre ++ (S ++ P ++ wl wq)) h k ∧ ((wq = none ∧ u'' = u') ∨ ∃ o, wq = some o ∧ m_X2_emit 72 (nI o) (nI 0) u' = some (nI 0, u'')) := fun u' i' hC' hi' => by
      cases hq : wq with
      | none => exact ⟨u', by show PC T u0 u1 u' i' (pre ++ (S ++ P ++ [])) h k; rw [List.append_nil]; exact hC', Or.inl ⟨rfl, rfl⟩⟩
      | some o' =>
        rw [hq] at b1
        have b1' : (pre ++ (S ++ P)).length + 1 + np ≤ i := b1
        obtain ⟨u'', c1, c2⟩ := emit_c hC' (by omega) (o', 0)
        rw [List.append_assoc] at c2
        exact ⟨u'', c2, Or.inr ⟨o', rfl, c1⟩⟩
    by_cases hc : ck 0 (tx N z i) = 43 ∨ ck 0 (tx N z i) = 45
    · have hlt := hX.lt hiT (by omega)
      obtain ⟨u', c2, ce⟩ := em _ (i + 1) (nx_c hC hlt) (by omega)
      obtain ⟨v1', f1, f2, f3⟩ := rd_r hX hV
      have hs := fun self : Int32 → Int32 → qS → qR => headS (KA := KAc) (KB := KBc) (self := self) hX hC hc (fun o e => by have := (w2 o e).1; omega) ce
      have hr := fun self : qS → qR => headR (self := self) hX hA hc rfl f1
      have stC : q_it2 (m_X6_sum_L16 66 KAc KBc) (f + 1) (enc wq) (nI (ck 0 (tx N z i))) u = q_bd (m_X6_operand 66 u') fun r u_17 => if r.toInt = 0 then KAc u_17 else q_bd (m_X6_kind 66 u_17) fun r u_11 => q_it2 (m_X6_sum_L16 66 KAc KBc) f (nI (if ck 0 (tx N z i) = 43 then 5 else 6)) r u_11 := hs _
      have stR : RSs (g + 1) v = q_bd (m_X11_readProduct v1') fun r_6 u_7 => if r_6.toInt = mI.toInt then some (mI, u_7) else q_bd (m_X11_emits (nI (if ck 0 (tx N z i) = 43 then 2 else 3)) (nI 0) u_7) fun _ u_8 => RSs g u_8 := hr _
      generalize hcc : ck 0 (tx N z i) = c at *
      rcases opd hX c2 f2 (by omega) (by omega) hk hw hw3 with ⟨u2, v2, w', p, x1, x2, x3, x4⟩ | ⟨u2, v2, t, h2, x1, x2, x3, x4, x5, x6, x7, x8, x9, x10⟩
      · refine Or.inl ⟨u2, v2, w', p, ?_, ?_, x3, x4⟩
        · rw [stC, x1, q_bd_s', if_pos (by decide)]; rfl
        · rw [stR]
          unfold m_X11_readProduct
          simp only [lit_n, mI_lit]
          rw [x2, q_bd_s', if_pos rfl, q_bd_s', if_pos rfl]
      · have kd := kind_c hX x4.1 x4.2.1.1 x4.2.2.1
        have lt1 : ((pre ++ (S ++ P ++ wl wq)) ++ [t]).length = (pre ++ (S ++ P ++ wl wq)).length + 1 := ln1
        have lt2 : ((rpre ++ xp (S ++ P ++ wl wq)) ++ [t]).length = (rpre ++ xp (S ++ P ++ wl wq)).length + 1 := ln1
        have xt : xp [t] = [t] := by show xq t ++ [] = [t]; rw [x9]; rfl
        rw [← xt] at x5 lt2
        have pp := prd (wt := nI (if c = 43 then 5 else 6)) (np := np + 1) (h0 := h) (pre := pre ++ (S ++ P ++ wl wq)) (rpre := rpre ++ xp (S ++ P ++ wl wq)) hX hk hw hw3 (T - (i + 1 + 1)) (i + 1 + 1) f q_F u2 v2 h2 [t] (Nat.le_refl _) (by omega) (by rw [q_F_eq]; omega) x4 x5 (by omega) (by omega) (x7.mono (by omega)) (okA.one x8) x10
        have stR2 : m_X11_readProduct v1' = RPp q_F v2 := by
          unfold m_X11_readProduct RPp
          simp only [lit_n, mI_lit]
          rw [x2, q_bd_s', if_neg (by decide)]
        have stC2 : q_it2 (m_X6_sum_L16 66 KAc KBc) (f + 1) (enc wq) (nI c) u = q_it2 (m_X6_sum_L16 66 KAc KBc) f (nI (if c = 43 then 5 else 6)) (nI (ck 0 (tx N z (i + 1 + 1)))) u2 := by
          rw [stC, x1, q_bd_s', if_neg (by decide), kd, q_bd_s']
        rcases pp with ⟨u3, v3, w', p, y1, y2, y3, y4⟩ | ⟨u3, v3, i3, h3, P3, f3', y1, y2, y3, y4, y5, y6, y7, y8, y9, y10, y11, y12, y13, y14⟩
        · refine Or.inl ⟨u3, v3, w', p, ?_, ?_, y3, y4⟩
          · rw [stC2, y1]; rfl
          · rw [stR, stR2, y2, q_bd_s', if_pos rfl]
        · obtain ⟨v4, d1, d2, d3⟩ := emit_r y6 (by have := y5.2.2.1; omega) (if c = 43 then 2 else 3) 0
          have eS : pre ++ (S ++ P ++ wl wq) ++ P3 = pre ++ ((S ++ P ++ wl wq) ++ P3) := by rw [List.append_assoc pre]
          have ro : [((if c = 43 then 2 else 3 : Nat), 0)] = xp (wl (some (if c = 43 then 5 else 6))) := by
            rcases hc with rfl | rfl <;> rfl
          have eR : rpre ++ xp (S ++ P ++ wl wq) ++ xp P3 ++ [((if c = 43 then 2 else 3 : Nat), 0)] = rpre ++ xp ((S ++ P ++ wl wq) ++ P3 ++ wl (some (if c = 43 then 5 else 6))) := by
            rw [ro, xp_app (S ++ P ++ wl wq ++ P3), xp_app (S ++ P ++ wl wq) P3, List.append_assoc rpre, List.append_assoc rpre]
          rw [eS] at y5 y7
          have lr3 : (rpre ++ xp (S ++ P ++ wl wq) ++ xp P3 ++ [((if c = 43 then 2 else 3 : Nat), 0)]).length = (rpre ++ xp (S ++ P ++ wl wq) ++ xp P3).length + 1 := ln1
          rw [eR] at d2 lr3
          rcases sml hX hk hw hw3 n i3 f3' g u3 v4 h3 (S ++ P ++ wl wq) P3 (some (if c = 43 then 5 else 6)) (by omega) y4 (by omega) y13 y14 y5 d2 (by show _ + 1 + np ≤ i3; omega) (by omega) (fun e => by cases e) (fun o' e => ⟨by have := Option.some.inj e; rw [← this]; rcases hc with rfl | rfl <;> decide, qF⟩) y9 (oF.app y10) (hF.app y11) with ⟨u5, v5, w', p, z1, z2, z3, z4⟩ | ⟨u5, v5, i5, h5, its, z1, z2, z3, z4, z5, z6, z7, z8, z9, z10, z11⟩
          · refine Or.inl ⟨u5, v5, w', p, ?_, ?_, z3, z4⟩
            · rw [stC2, y1]; exact z1
            · rw [stR, stR2, y2, q_bd_s', if_neg (by decide), d1, q_bd_s']; exact z2
          · refine Or.inr ⟨u5, v5, i5, h5, its, ?_, ?_, by omega, z4, z5, z6, z7, z8, z9, z10, (((f3.trans x6).trans y12).trans d3).trans z11⟩
            · rw [stC2, y1]; exact z1
            · rw [stR, stR2, y2, q_bd_s', if_neg (by decide), d1, q_bd_s']; exact z2
    · obtain ⟨u', c2, ce⟩ := em u i hC (by omega)
      have s43 := sign_r (c := 43) hX hA (by omega) (by omega)
      have s45 := sign_r (c := 45) hX hA (by omega) (by omega)
      have g1 : ¬ (u.1 67 5).toInt ≤ (u.1 66 6).toInt := by rw [(hC.1.lx hX.2.2.2.2.1).2.1, hC.2.1.1, nI_t (by omega), nI_t (by omega)]; omega
      refine Or.inr ⟨u', v, i, h, S ++ P ++ wl wq, ?_, ?_, Nat.le_refl _, c2, hV, by omega, b2, qF, oF, hF, ⟨rfl, rfl⟩⟩
      · show m_X6_sum_L16 _ _ _ (q_it2 (m_X6_sum_L16 66 KAc KBc) f) _ _ _ = _
        generalize q_it2 (m_X6_sum_L16 66 KAc KBc) f = self
        unfold m_X6_sum_L16
        simp only [lit_n, mI_lit]
        rw [show 66 + 1 = 67 from rfl, if_neg g1, q_jn, nI_t (show ck 0 (tx N z i) < _ by omega), nI_t (show 42 < _ by omega), nI_t (show 47 < _ by omega), nI_t (show 43 < _ by omega), nI_t (show 45 < _ by omega), if_neg (by omega), if_neg (by omega), if_neg (by omega), if_neg (by omega)]
        unfold KBc
        rcases ce with ⟨e1, e2⟩ | ⟨o', e1, e2⟩
        · rw [e1, if_pos (show (enc none).toInt = mI.toInt from rfl), e2]
        · have := (w2 o' e1).1
          rw [e1, show enc (some o') = nI o' from rfl, if_neg (by rw [nI_t (by omega), mI_t]; omega), e2, q_bd_s']
      · show m_X11_readSum_L10 _ _ _ _ = _
        unfold m_X11_readSum_L10
        simp only [lit_n, mI_lit]
        rw [s43, q_bd_s', q_jn, decide_eq_false (by omega), if_pos bI_0, s45, q_bd_s', decide_eq_false (by omega), if_pos bI_0]
theorem sum_s {u v : qS} {i : Nat} {h : Bool} (hX : CX N z 0 T u0 v0) (hk : k ≤ 15) (hw : u1.1 73 k = nI w) (hw3 : w < 3) (hC : PC T u0 u1 u i pre h k) (hV : PV N z v0 v1 v i rpre o) (b1 : pre.length + np ≤ i) (b2 : rpre.length + np ≤ i) :
    FL u0 v0 (m_X6_sum 66 u) (m_X11_readSum v) ∨ ∃ u2 v2 i2 h2 its, m_X6_sum 66 u = some (nI 1, u2) ∧ m_X11_readSum v = some (nI 0, v2) ∧ i < i2 ∧ PC T u0 u1 u2 i2 (pre ++ its) h2 k ∧ PV N z v0 v1 v2 i2 (rpre ++ xp its) o ∧ (pre ++ its).length + np ≤ i2 ∧ (rpre ++ xp its).length + np ≤ i2 ∧ QS its 3 false ∧ okA its ∧ HG h h2 w its ∧ HP v v2 := by
  have hT := hX.T4
  rcases opd hX hC hV (by omega) (by omega) hk hw hw3 with ⟨u2, v2, w', p, x1, x2, x3, x4⟩ | ⟨u2, v2, t, h2, x1, x2, x3, x4, x5, x6, x7, x8, x9, x10⟩
  · refine Or.inl ⟨u2, v2, w', p, ?_, ?_, x3, x4⟩
    · unfold m_X6_sum
      simp only [lit_n, mI_lit]
      rw [x1, q_bd_s', if_pos (by decide)]
    · unfold m_X11_readSum m_X11_readProduct
      simp only [lit_n, mI_lit]
      rw [x2, q_bd_s', if_pos rfl, q_bd_s', if_pos rfl]
  · have kd := kind_c hX x4.1 x4.2.1.1 x4.2.2.1
    have lt1 : (pre ++ [t]).length = pre.length + 1 := ln1
    have lt2 : (rpre ++ [t]).length = rpre.length + 1 := ln1
    have xt : xp [t] = [t] := by show xq t ++ [] = [t]; rw [x9]; rfl
    rw [← xt] at x5 lt2
    have pp := prd (wt := mI) (np := np) (h0 := h) (pre := pre) (rpre := rpre) hX hk hw hw3 (T - (i + 1)) (i + 1) q_F q_F u2 v2 h2 [t] (Nat.le_refl _) (by rw [q_F_eq]; omega) (by rw [q_F_eq]; omega) x4 x5 (by omega) (by omega) (x7.mono (by omega)) (okA.one x8) x10
    have stC : m_X6_sum 66 u = q_it2 (m_X6_sum_L16 66 KAc KBc) q_F mI (nI (ck 0 (tx N z (i + 1)))) u2 := by
      unfold m_X6_sum
      simp only [lit_n, mI_lit]
      rw [x1, q_bd_s', if_neg (by decide), kd, q_bd_s']
      rfl
    have stR : m_X11_readProduct v = RPp q_F v2 := by
      unfold m_X11_readProduct RPp
      simp only [lit_n, mI_lit]
      rw [x2, q_bd_s', if_neg (by decide)]
    rcases pp with ⟨u3, v3, w', p, y1, y2, y3, y4⟩ | ⟨u3, v3, i3, h3, P3, f3', y1, y2, y3, y4, y5, y6, y7, y8, y9, y10, y11, y12, y13, y14⟩
    · refine Or.inl ⟨u3, v3, w', p, ?_, ?_, y3, y4⟩
      · rw [stC, y1]; rfl
      · unfold m_X11_readSum
        simp only [lit_n, mI_lit]
        rw [stR, y2, q_bd_s', if_pos rfl]
    · have stR2 : m_X11_readSum v = RSs q_F v3 := by
        unfold m_X11_readSum RSs
        simp only [lit_n, mI_lit]
        rw [stR, y2, q_bd_s', if_neg (by decide)]
      have e0 : [] ++ P3 ++ wl none = P3 := by show [] ++ P3 ++ [] = P3; rw [List.append_nil, List.nil_append]
      rcases sml (np := np) (h0 := h) (pre := pre) (rpre := rpre) hX hk hw hw3 (T - i3 + 1) i3 f3' q_F u3 v3 h3 [] P3 none (by omega) y4 (by rw [q_F_eq]; omega) y13 y14 y5 (by rw [e0]; exact y6) (by show _ + 0 + np ≤ i3; exact y7) (by rw [e0]; exact y8) (fun _ => rfl) (fun o' e => by cases e) y9 y10 y11 with ⟨u5, v5, w', p, z1, z2, z3, z4⟩ | ⟨u5, v5, i5, h5, its, z1, z2, z3, z4, z5, z6, z7, z8, z9, z10, z11⟩
      · refine Or.inl ⟨u5, v5, w', p, ?_, stR2.trans z2, z3, z4⟩
        rw [stC, y1]; exact z1
      · refine Or.inr ⟨u5, v5, i5, h5, its, ?_, stR2.trans z2, by omega, z4, z5, z6, z7, z8, z9, z10, (x6.trans y12).trans z11⟩
        rw [stC, y1]; exact z1
end
