/-! LAYER 2: THE CALLS, 29: units and products of the law -/
theorem gd_app {d t : Nat × Nat} : ∀ (A : List (Nat × Nat)) (j : Nat), j ≤ A.length → (A ++ [t]).getD j d = if j < A.length then A.getD j d else t
  | [], j, h => by
    have : j = 0 := by have : j ≤ 0 := h; omega
    subst this; rfl
  | a :: r, 0, h => rfl
  | a :: r, j + 1, h => by
    have ih := gd_app (d := d) (t := t) r j (by have : j + 1 ≤ r.length + 1 := h; omega)
    show (r ++ [t]).getD j d = if j + 1 < r.length + 1 then r.getD j d else t
    rw [ih]
    by_cases e : j < r.length
    · rw [if_pos e, if_pos (by omega)]
    · rw [if_neg e, if_neg (by omega)]
def LW (u : qS) (cs : List (Nat × Nat)) (h : Bool) (k : Nat) : Prop := u.1 72 0 = nI k ∧ u.1 72 5 = nI cs.length ∧ u.1 72 6 = bI h ∧ ∀ j, j < cs.length → u.1 76 j = eI (cs.getD j (0, 0))
def PC (T : Nat) (u0 u1 u : qS) (i : Nat) (cs : List (Nat × Nat)) (h : Bool) (k : Nat) : Prop := GC u0 u ∧ NX u0 u i ∧ i ≤ T ∧ LW u cs h k ∧ u.1 73 = u1.1 73 ∧ u.1 74 = u1.1 74 ∧ u.1 75 = u1.1 75
def EV (v : qS) (rs : List (Nat × Nat)) (o : Nat) : Prop := v.1 163 28 = nI rs.length ∧ v.1 163 29 = nI o ∧ ∀ j, j < rs.length → v.1 175 (800 + j) = nI (rs.getD j (0, 0)).1 ∧ v.1 176 (800 + j) = nI (rs.getD j (0, 0)).2
def PV (N : Nat) (z : Nat → Int) (v0 v1 v : qS) (i : Nat) (rs : List (Nat × Nat)) (o : Nat) : Prop := GV v0 v ∧ AT N z v i ∧ EV v rs o ∧ ∀ c, 171 ≤ c → c ≤ 174 → v.1 c = v1.1 c
def HP (v v2 : qS) : Prop := v2.1 177 = v.1 177 ∧ v2.1 163 31 = v.1 163 31
theorem HP.trans {a b c : qS} (h : HP a b) (h2 : HP b c) : HP a c := ⟨h2.1.trans h.1, h2.2.trans h.2⟩
def FL (u0 v0 : qS) (C R : qR) : Prop := ∃ u2 v2 w p, C = some (nI 0, u2) ∧ R = some (mI, v2) ∧ FC u0 u2 w p ∧ FV v0 v2 w p
def HG (h h2 : Bool) (w : Nat) (its : List (Nat × Nat)) : Prop := h2 = false → h = false ∧ (w = 2 → ∀ t, t ∈ its → t ≠ (1, 4))
theorem HG.nil {h : Bool} {w : Nat} : HG h h w [] := fun e => ⟨e, fun _ t ht => by cases ht⟩
theorem HG.app {h h1 h2 : Bool} {w : Nat} {A B : List (Nat × Nat)} (a : HG h h1 w A) (b : HG h1 h2 w B) : HG h h2 w (A ++ B) := fun e => by
  obtain ⟨b1, b2⟩ := b e
  obtain ⟨a1, a2⟩ := a b1
  refine ⟨a1, fun hw t ht => ?_⟩
  rcases List.mem_append.mp ht with h3 | h3
  · exact a2 hw t h3
  · exact b2 hw t h3
theorem HG.op {h : Bool} {w o : Nat} (ho : o ≠ 1) (x : Nat) : HG h h w [(o, x)] := fun e => ⟨e, fun _ t ht => by
  have := List.mem_singleton.mp ht
  subst this
  intro e2
  exact ho (congrArg Prod.fst e2)⟩
section
variable {N T : Nat} {z : Nat → Int} {u0 v0 u1 v1 u v : qS} {i k o : Nat} {cs rs : List (Nat × Nat)} {h : Bool}
theorem emit_c (hP : PC T u0 u1 u i cs h k) (hl : cs.length < 400) (t : Nat × Nat) : ∃ u2, m_X2_emit 72 (nI t.1) (nI t.2) u = some (nI 0, u2) ∧ PC T u0 u1 u2 i (cs ++ [t]) h k := by
  obtain ⟨g, n, hi, ⟨l1, l2, l3, l4⟩, r1, r2, r3⟩ := hP
  refine ⟨q_up (q_up u 76 cs.length (eI t)) 72 5 (nI (cs.length + 1)), ?_, ⟨fun c hc => ?_, g.2⟩, n, hi, ⟨l1, ?_, l3, fun j hj => ?_⟩, r1, r2, r3⟩
  · have e5 : (q_up u 76 cs.length (eI t)).1 72 5 = nI cs.length := l2
    unfold m_X2_emit
    simp only [lit_n]
    rw [l2, if_neg (by rw [nI_t (by omega), nI_t (by omega)]; omega), ast_n (by omega) (by omega), Option.bind_some, show 72 + 4 = 76 from rfl]
    show q_let (q_up (q_up u 76 cs.length (eI t)) 72 5 ((q_up u 76 cs.length (eI t)).1 72 5 + nI 1)) _ = _
    rw [e5, q_let_s, nI_add]
  · rw [q_up_1, if_neg (by omega), q_up_1, if_neg (by omega)]; exact g.1 c hc
  · rw [List.length_append]; rfl
  · rw [List.length_append] at hj
    have hj' : j < cs.length + 1 := hj
    rw [gd_app cs j (by omega), q_up_1, if_neg (by omega), q_up_1, if_pos rfl, upd_g]
    by_cases e : j < cs.length
    · rw [if_pos e, if_neg (by omega)]; exact l4 j e
    · rw [if_neg e, if_pos (by omega)]
theorem emit_r (hP : PV N z v0 v1 v i rs o) (hl : rs.length < 400) (a b : Nat) : ∃ v2, m_X11_emits (nI a) (nI b) v = some (nI 0, v2) ∧ PV N z v0 v1 v2 i (rs ++ [(a, b)]) o ∧ HP v v2 := by
  obtain ⟨g, ⟨a1, a2, a3, a4⟩, ⟨e1, e2, e3⟩, r1⟩ := hP
  refine ⟨q_up (q_up (q_up v 175 (800 + rs.length) (nI a)) 176 (800 + rs.length) (nI b)) 163 28 (nI (rs.length + 1)), ?_, ⟨⟨fun c h1 h2 => ?_, fun j h1 h2 h3 h4 h5 h6 => ?_, fun c j h1 h2 h3 => ?_, fun c j h1 h2 h3 => ?_, g.2.2.2.2.1, g.2.2.2.2.2.1, g.2.2.2.2.2.2⟩, ⟨a1, a2, a3, a4⟩, ⟨?_, e2, fun j hj => ?_⟩, fun c h1 h2 => ?_⟩, rfl, rfl⟩
  · have f1 : (q_up v 175 (800 + rs.length) (nI a)).1 163 28 = nI rs.length := e1
    have f2 : (q_up (q_up v 175 (800 + rs.length) (nI a)) 176 (800 + rs.length) (nI b)).1 163 28 = nI rs.length := e1
    unfold m_X11_emits
    simp only [lit_n]
    rw [e1, nI_add, ast_n (by omega) (by omega), Option.bind_some, f1, nI_add, ast_n (by omega) (by omega), Option.bind_some, f2, q_let_s, nI_add]
  · rw [q_up_1, if_neg h1, q_up_1, if_neg (by omega), q_up_1, if_neg (by omega)]; exact g.1 c h1 h2
  · rw [up163 h2]; exact g.2.1 j h1 h2 h3 h4 h5 h6
  · rw [q_up_1, if_neg (by omega), q_up_1, if_neg (by omega), q_up_1, if_neg (by omega)]; exact g.2.2.1 c j h1 h2 h3
  · rw [q_up_1, if_neg (by omega), q_up_1]
    by_cases e : c = 176
    · subst e
      rw [if_pos rfl, upd_g, if_neg (by omega)]; exact g.2.2.2.1 176 j h1 h2 h3
    · have : c = 175 := by omega
      subst this
      rw [if_neg e, q_up_1, if_pos rfl, upd_g, if_neg (by omega)]; exact g.2.2.2.1 175 j h1 h2 h3
  · rw [List.length_append]; rfl
  · rw [List.length_append] at hj
    have hj' : j < rs.length + 1 := hj
    rw [gd_app rs j (by omega)]
    have s1 : ∀ w x y, (q_up (q_up (q_up v 175 (800 + rs.length) w) 176 (800 + rs.length) x) 163 28 y).1 175 (800 + j) = if 800 + j = 800 + rs.length then w else v.1 175 (800 + j) := fun _ _ _ => rfl
    have s2 : ∀ w x y, (q_up (q_up (q_up v 175 (800 + rs.length) w) 176 (800 + rs.length) x) 163 28 y).1 176 (800 + j) = if 800 + j = 800 + rs.length then x else v.1 176 (800 + j) := fun _ _ _ => rfl
    rw [s1, s2]
    by_cases e : j < rs.length
    · rw [if_pos e, if_neg (by omega), if_neg (by omega)]; exact e3 j e
    · rw [if_neg e, if_pos (by omega), if_pos (by omega)]; exact ⟨rfl, rfl⟩
  · rw [q_up_1, if_neg (by omega), q_up_1, if_neg (by omega), q_up_1, if_neg (by omega)]; exact r1 c h1 h2
theorem rd_r {si : Nat} (hX : CX N z si T u0 v0) (hP : PV N z v0 v1 v i rs o) : ∃ v2, m_X11_reads v = some (nI 0, v2) ∧ PV N z v0 v1 v2 (i + 1) rs o ∧ HP v v2 := by
  obtain ⟨g, a, ⟨e1, e2, e3⟩, r1⟩ := hP
  obtain ⟨v2, b1, b2, b3, b4, b5⟩ := read_n hX a g
  refine ⟨v2, b1, ⟨b3, b2, ⟨by rw [b5 28 (by omega)]; exact e1, by rw [b5 29 (by omega)]; exact e2, fun j hj => by rw [b4 175 (by omega), b4 176 (by omega)]; exact e3 j hj⟩, fun c h1 h2 => by rw [b4 c (by omega)]; exact r1 c h1 h2⟩, b4 177 (by omega), b5 31 (by omega)⟩
theorem nx_c (hP : PC T u0 u1 u i cs h k) (hi : i < T) : PC T u0 u1 (q_up u 66 6 (u.1 66 6 + nI 1)) (i + 1) cs h k := by
  obtain ⟨g, n, _, l, r⟩ := hP
  obtain ⟨g2, n2⟩ := nxt_c g n
  exact ⟨g2, n2, by omega, l, r⟩
theorem opd {w : Nat} (hX : CX N z 0 T u0 v0) (hC : PC T u0 u1 u i cs h k) (hV : PV N z v0 v1 v i rs o) (hcs : cs.length ≤ i) (hrs : rs.length ≤ i) (hk : k ≤ 15) (hw : u1.1 73 k = nI w) (hw3 : w < 3) :
    FL u0 v0 (m_X6_operand 66 u) (m_X11_readUnit v) ∨ ∃ u2 v2 t h2, m_X6_operand 66 u = some (nI 1, u2) ∧ m_X11_readUnit v = some (nI 0, v2) ∧ i < T ∧ PC T u0 u1 u2 (i + 1) (cs ++ [t]) h2 k ∧ PV N z v0 v1 v2 (i + 1) (rs ++ [t]) o ∧ HP v v2 ∧ QS [t] 1 false ∧ okI t ∧ xq t = [t] ∧ HG h h2 w [t] := by
  have hT := hX.T4
  have hiT : i ≤ T := hC.2.2.1
  have ha := ck_all (si := 0) (hX.tok i) hX.se
  have kd := kind_c hX hC.1 hC.2.1.1 hiT
  have h0A : sA 0 = 0 := rfl
  have h0E : sE 0 = 16 := rfl
  have hvv := hV.2.1
  have inn := in_c (nI (ck 0 (tx N z i))) 263 271 u (by omega) (by omega)
  rw [nI_t (show ck 0 (tx N z i) < _ by have := ck_lt hX i; omega)] at inn
  by_cases hn : (tx N z i).1 = 3
  · have hk1 : ck 0 (tx N z i) = 1 := by omega
    have hlt := hX.lt hiT (by omega)
    obtain ⟨l1, l2, l3⟩ := hC.1.lx hX.2.2.2.2.1
    have hval : u.1 71 i = nI (tx N z i).2 := (l3 i hiT).2.2 hn
    have hv4 := (hX.tok i).2.2.2 hn
    obtain ⟨u2, c1, c2⟩ := emit_c hC (by omega) (0, (tx N z i).2)
    obtain ⟨v2, d1, d2, d3⟩ := emit_r hV (by omega) 0 (tx N z i).2
    obtain ⟨v3, f1, f2, f3⟩ := rd_r hX d2
    refine Or.inr ⟨_, v3, (0, (tx N z i).2), h, ?_, ?_, hlt, nx_c c2 hlt, f2, d3.trans f3, QS.num _, ⟨by show 0 < 12; omega, hv4⟩, rfl, HG.op (by omega) _⟩
    · unfold m_X6_operand
      simp only [lit_n]
      rw [kd, q_bd_s', q_jn, hk1, if_pos rfl, hC.2.1.1, ald_n (by omega) (by omega), Option.bind_some, show 66 + 5 = 71 from rfl, hval, show 66 + 6 = 72 from rfl]
      dsimp only at c1
      rw [c1, q_bd_s']
      dsimp only
      rw [q_let_s]
    · unfold m_X11_readUnit
      simp only [lit_n]
      rw [q_jn, q_jn, hvv.2.2.1, hn, if_neg (by decide)]
      dsimp only
      rw [q_jn, if_pos (by decide), hvv.2.2.1, hn, if_pos rfl]
      dsimp only
      rw [q_jn, if_pos (by decide)]
      dsimp only
      rw [q_jn, if_pos (by decide), hvv.2.2.2 (by omega)]
      dsimp only at d1 ⊢
      rw [d1, q_bd_s', f1, q_bd_s']
  · by_cases hq : (tx N z i).1 = 2 ∧ 7 ≤ (tx N z i).2 ∧ (tx N z i).2 ≤ 15
    · have hk1 : ck 0 (tx N z i) = 256 + (tx N z i).2 := by omega
      have hlt := hX.lt hiT (by omega)
      obtain ⟨u2, c1, c2⟩ := emit_c hC (by omega) (1, (tx N z i).2 - 7)
      obtain ⟨v2, d1, d2, d3⟩ := emit_r hV (by omega) 1 ((tx N z i).2 - 7)
      obtain ⟨v3, f1, f2, f3⟩ := rd_r hX d2
      have fl : ∀ s : Bool, PC T u0 u1 (q_up u2 72 6 (bI s)) i (cs ++ [(1, (tx N z i).2 - 7)]) s k := fun s => by
        obtain ⟨g, n, hi, ⟨l1, l2, l3, l4⟩, r⟩ := c2
        exact ⟨⟨fun c hc => by rw [q_up_1, if_neg (by omega)]; exact g.1 c hc, g.2⟩, n, hi, ⟨l1, l2, rfl, l4⟩, r⟩
      have hl72 : u2.1 72 0 = nI k := c2.2.2.2.1.1
      have hl6 : u2.1 72 6 = bI h := c2.2.2.2.1.2.2.1
      have h73 : u2.1 73 k = nI w := by rw [c2.2.2.2.2.1]; exact hw
      have in2 := in_c (u2.1 72 0) 0 15 u2 (by omega) (by omega)
      rw [hl72, nI_t (by omega), decide_eq_true (by omega)] at in2
      rw [decide_eq_true (by omega)] at inn
      have fin : ∀ s : Bool, (s = (h || (decide (w = 2) && decide ((tx N z i).2 = 11)))) → HG h s w [(1, (tx N z i).2 - 7)] := fun s hs e => by
        rw [e] at hs
        cases h with
        | true => cases hs
        | false =>
          refine ⟨rfl, fun hw2 t ht => ?_⟩
          have := List.mem_singleton.mp ht
          subst this
          intro e2
          have e3 : (tx N z i).2 - 7 = 4 := congrArg Prod.snd e2
          rw [decide_eq_true hw2, decide_eq_true (show (tx N z i).2 = 11 by omega)] at hs
          cases hs
      refine Or.inr ⟨_, v3, (1, (tx N z i).2 - 7), (h || (decide (w = 2) && decide ((tx N z i).2 = 11))), ?_, ?_, hlt, nx_c (fl _) hlt, f2, d3.trans f3, QS.ask _ (by omega), ⟨by show 1 < 12; omega, by show (tx N z i).2 - 7 < 10000; omega⟩, rfl, fin _ rfl⟩
      · unfold m_X6_operand
        simp only [lit_n]
        rw [kd, q_bd_s', q_jn, nI_t (by omega), nI_t (by omega), if_neg (by omega), inn, q_bd_s', if_neg bI_1, hk1, nI_sub (by omega), show 256 + (tx N z i).2 - 263 = (tx N z i).2 - 7 by omega, show 66 + 6 = 72 from rfl]
        dsimp only at c1
        rw [c1, q_bd_s', hl72, in2, q_bd_s', q_jn, q_jn, if_neg bI_1, hl72, ald_n (by omega) (by omega), Option.bind_some, show 66 + 7 = 73 from rfl, h73, nI_t (by omega), nI_t (show 2 < _ by omega)]
        have tail : ∀ s0 : Bool, (q_jn (fun (s0_12 : Int32) (u_13 : qS) => q_bz s0_12 (q_let (q_up u_13 72 6 s0_12) fun u_14 => q_let (q_up u_14 66 6 (u_14.1 66 6 + nI 1)) fun u_3 => some (nI 1, u_3))) fun J130 => q_jn (fun u_15 => J130 (nI 1) u_15) fun J125 => if (u2.1 72 6).toInt = 0 then q_jn (fun u_16 => J130 (nI 0) u_16) fun J129 => if (bI s0).toInt = 0 then J129 u2 else if ((256 + (tx N z i).2 : Nat) : Int) = (nI 267).toInt then J125 u2 else J129 u2 else J125 u2) = some (nI 1, q_up (q_up u2 72 6 (bI (h || (s0 && decide ((tx N z i).2 = 11))))) 66 6 ((q_up u2 72 6 (bI (h || (s0 && decide ((tx N z i).2 = 11))))).1 66 6 + nI 1)) := fun s0 => by
          rw [q_jn, q_jn, hl6, nI_t (show 267 < _ by omega)]
          cases h with
          | true =>
            rw [if_neg bI_1]
            dsimp only
            rw [bz_1, q_let_s, q_let_s]; rfl
          | false =>
            rw [if_pos bI_0, q_jn]
            cases s0 with
            | false =>
              rw [if_pos bI_0]
              dsimp only
              rw [bz_0, q_let_s, q_let_s]; rfl
            | true =>
              rw [if_neg bI_1]
              by_cases e : (tx N z i).2 = 11
              · rw [if_pos (by omega), decide_eq_true e]
                dsimp only
                rw [bz_1, q_let_s, q_let_s]; rfl
              · rw [if_neg (by omega), decide_eq_false e]
                dsimp only
                rw [bz_0, q_let_s, q_let_s]; rfl
        by_cases e2 : w = 2
        · rw [if_pos (by omega), decide_eq_true e2]
          exact tail true
        · rw [if_neg (by omega), decide_eq_false e2]
          exact tail false
      · have ca : m_X11_canAsk (nI (tx N z i).2) v = some (bI true, v) := by
          unfold m_X11_canAsk
          simp only [lit_n]
          rw [in_r _ 7 15 v (by omega) (by omega), q_bd_s', bz_b, nI_t (by omega), decide_eq_true (by omega)]
        unfold m_X11_readUnit
        simp only [lit_n]
        rw [q_jn, q_jn, hvv.2.2.1, hq.1, if_pos rfl, hvv.2.2.2 (by omega), ca, q_bd_s', if_neg bI_1]
        dsimp only
        rw [q_jn, if_neg (by decide)]
        dsimp only
        rw [q_jn, if_neg (by decide)]
        dsimp only
        rw [q_jn, if_neg (by decide), hvv.2.2.2 (by omega), nI_sub (by omega)]
        dsimp only at d1 ⊢
        rw [d1, q_bd_s', f1, q_bd_s']
    · obtain ⟨u2, c1, c2⟩ := fail_c (w := 1) hX hC.1 hC.2.1.1 hiT
      obtain ⟨v2, d1, d2⟩ := errs_r (w := 1) hvv hV.1
      rw [decide_eq_false (by omega)] at inn
      refine Or.inl ⟨u2, v2, 1, tq N z i, ?_, ?_, c2, d2⟩
      · unfold m_X6_operand
        simp only [lit_n]
        have := ck_lt hX i
        rw [kd, q_bd_s', q_jn, nI_t (by omega), nI_t (by omega), if_neg (by omega), inn, q_bd_s', if_pos bI_0, c1, q_bd_s', bz_0]
      · unfold m_X11_readUnit
        simp only [lit_n]
        have h4 := (hX.tok i).1
        rw [q_jn, q_jn, hvv.2.2.1]
        by_cases e2 : (tx N z i).1 = 2
        · have h25 := (hX.tok i).2.2.1 e2
          have ca : m_X11_canAsk (nI (tx N z i).2) v = some (bI false, v) := by
            unfold m_X11_canAsk
            simp only [lit_n]
            rw [in_r _ 7 15 v (by omega) (by omega), q_bd_s', bz_b, nI_t (by omega), decide_eq_false (by omega)]
          rw [e2, if_pos rfl, hvv.2.2.2 (by omega), ca, q_bd_s', if_pos bI_0]
          dsimp only
          rw [q_jn, if_pos (by decide), hvv.2.2.1, e2, if_neg (by decide), d1, q_bd_s']
        · rw [if_neg (by rw [nI_t (by omega), nI_t (by omega)]; omega)]
          dsimp only
          rw [q_jn, if_pos (by decide), hvv.2.2.1, if_neg (by rw [nI_t (by omega), nI_t (by omega)]; omega), d1, q_bd_s']
end
