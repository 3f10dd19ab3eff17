/-! LAYER 2: THE CALLS, 11: goes, brings -/
theorem goes_core {x y : qS} {n w : Nat} {b : Int32} (h : Rel x y) (hn : n ≤ 60) (hw : w ≤ 3) (hb : w < 2 → ∃ p : Nat, p < 5 ∧ b = nI p) : ∃ r x2 y2,
    (q_bd (m_X0_copyFrom 92 2 x) fun _ u_4 => q_bd (m_X7_pass 90 92 (nI n) u_4) fun _ u_5 => if (nI w).toInt = 0 then Option.bind (q_ald u_5 95 5 b) fun a => some (a, u_5) else if (nI w).toInt = 1 then Option.bind (q_ald u_5 94 5 b) fun a_6 => some (a_6, u_5) else if (nI w).toInt = 2 then some ((u_5.1 90 2), u_5) else some ((u_5.1 90 3), u_5)) = some (r, x2) ∧
    (q_bd (m_X11_thinks y) fun _ u_6 => q_bd (m_X11_goesFor (nI n) u_6) fun _ u_7 => q_jn (fun (s0 : Int32) (u_8 : qS) => q_bd (m_X11_endsThought u_8) fun _ u_9 => some (s0, u_9)) fun J99 => if (nI w).toInt = 0 then Option.bind (q_ald u_7 164 136 (nI 10 + b)) fun a_10 => J99 a_10 u_7 else if (nI w).toInt = (nI 1).toInt then Option.bind (q_ald u_7 164 136 (nI 5 + b)) fun a => J99 a u_7 else if (nI w).toInt = (nI 2).toInt then J99 (u_7.1 163 44) u_7 else J99 (u_7.1 163 45) u_7) = some (r, y2) ∧ Rel x2 y2 := by
  obtain ⟨y1, e1, t1, r1, g42, g44, g45⟩ := thinks_s (x := x) (y := y)
  obtain ⟨x1, c1, t2, hC, hB, -, -⟩ := t1.copy h (fun j _ => by rw [r1])
  have hS := t2.st h
  have hw0 := h.w
  obtain ⟨x2, y2, a1, a2, w2, -⟩ := thought_s (tr := false) (th := true) (tg := false) (k := 90) (k2 := 92) hn hS.1 hS hC hB (fun e => absurd e (by decide)) (fun _ => ⟨g44, g45⟩) (fun e => absurd e (by decide)) (by rw [r1]; omega)
  obtain ⟨y3, e3, R3⟩ := (t2.step w2).ends h
  obtain ⟨hC2, -, -, h44, -⟩ := w2.2.2.1
  have q44 := h44 rfl
  rw [c1, q_bd_s', a1, q_bd_s', e1, q_bd_s', a2, q_bd_s', q_jn]
  have e3' : ∀ r : Int32, (q_bd (m_X11_endsThought y2) fun _ u_9 => some (r, u_9)) = some (r, y3) := fun r => by rw [e3, q_bd_s']
  have : w = 0 ∨ w = 1 ∨ w = 2 ∨ w = 3 := by omega
  rcases this with rfl | rfl | rfl | rfl
  · obtain ⟨p, p1, p2⟩ := hb (by omega)
    subst p2
    have hs : x2.1 95 p = y2.1 164 (10 + p) := hC2.seats p1
    refine ⟨y2.1 164 (10 + p), x2, y3, ?_, ?_, R3⟩
    · rw [if_pos (by decide), ald_n (by omega) (by omega), Option.bind_some, hs]
    · rw [if_pos (by decide), nI_add, ald_n (by omega) (by omega), Option.bind_some]; exact e3' _
  · obtain ⟨p, p1, p2⟩ := hb (by omega)
    subst p2
    have hs : x2.1 94 p = y2.1 164 (5 + p) := hC2.votes p1
    refine ⟨y2.1 164 (5 + p), x2, y3, ?_, ?_, R3⟩
    · rw [if_neg (by decide), if_pos (by decide), ald_n (by omega) (by omega), Option.bind_some, hs]
    · rw [if_neg (by decide), if_pos (by decide), nI_add, ald_n (by omega) (by omega), Option.bind_some]; exact e3' _
  · refine ⟨y2.1 163 44, x2, y3, ?_, ?_, R3⟩
    · rw [if_neg (by decide), if_neg (by decide), if_pos (by decide), q44.1]
    · rw [if_neg (by decide), if_neg (by decide), if_pos (by decide)]; exact e3' _
  · refine ⟨y2.1 163 45, x2, y3, ?_, ?_, R3⟩
    · rw [if_neg (by decide), if_neg (by decide), if_neg (by decide), q44.2]
    · rw [if_neg (by decide), if_neg (by decide), if_neg (by decide)]; exact e3' _
theorem sim_goes (a b c : Int32) : SIM (m_X10_goes a b c) (m_X11_goes a b c) := fun x y h => by
  obtain ⟨P, hP1, hP, hP2⟩ := h.G.P
  have hx7 : x.1 2 7 = nI P := by rw [h.C.parties, hP]
  have p63 : (q_up y 163 0 (nI 0)).1 163 6 = nI P := hP
  unfold m_X10_goes m_X11_goes
  simp only [lit_n, mI_lit]
  rcases within_b a 1 60 (by omega) (by omega) with ⟨n, n0, n1, n2, u1, u2⟩ | ⟨u1, u2⟩
  · subst n2
    rcases within_b c 0 3 (by omega) (by omega) with ⟨w, w0, w1, w2, v1, v2⟩ | ⟨v1, v2⟩
    · subst w2
      by_cases hw2 : 2 ≤ w
      · have c2 : (nI 2).toInt ≤ (nI w).toInt := by rw [nI_t (by omega), nI_t (by omega)]; omega
        obtain ⟨r, x2, y2, e1, e2, R2⟩ := goes_core (b := b) (h.told (v := nI 0)) n1 w1 (by omega)
        refine ⟨r, x2, y2, ?_, ?_, R2⟩
        · rw [u1, q_bd_s', q_jn, q_jn, if_neg (by decide), v1, q_bd_s', if_neg (by decide)]; dsimp only; rw [if_neg (by decide), q_jn, if_pos c2]; exact e1
        · rw [q_let_s, u2, q_bd_s', if_neg (by decide), v2, q_bd_s', if_neg (by decide), q_jn, if_pos c2]; exact e2
      · have c2 : ¬ (nI 2).toInt ≤ (nI w).toInt := by rw [nI_t (by omega), nI_t (by omega)]; omega
        rcases party_b b hx7 p63 hP1 with ⟨p, p1, p2, s1, s2⟩ | ⟨s1, s2⟩
        · obtain ⟨r, x2, y2, e1, e2, R2⟩ := goes_core (b := b) (h.told (v := nI 0)) n1 w1 (fun _ => ⟨p, by omega, p2⟩)
          refine ⟨r, x2, y2, ?_, ?_, R2⟩
          · rw [u1, q_bd_s', q_jn, q_jn, if_neg (by decide), v1, q_bd_s', if_neg (by decide)]; dsimp only; rw [if_neg (by decide), q_jn, if_neg c2, s1, q_bd_s', if_neg (by decide)]; exact e1
          · rw [q_let_s, u2, q_bd_s', if_neg (by decide), v2, q_bd_s', if_neg (by decide), q_jn, if_neg c2, s2, q_bd_s', if_neg (by decide)]; exact e2
        · refine ⟨-nI 2, x, q_up y 163 0 (nI 0), ?_, ?_, h.told⟩
          · rw [u1, q_bd_s', q_jn, q_jn, if_neg (by decide), v1, q_bd_s', if_neg (by decide)]; dsimp only; rw [if_neg (by decide), q_jn, if_neg c2, s1, q_bd_s', if_pos (by decide)]
          · rw [q_let_s, u2, q_bd_s', if_neg (by decide), v2, q_bd_s', if_neg (by decide), q_jn, if_neg c2, s2, q_bd_s', if_pos (by decide)]
    · refine ⟨-nI 2, x, q_up y 163 0 (nI 0), ?_, ?_, h.told⟩
      · rw [u1, q_bd_s', q_jn, q_jn, if_neg (by decide), v1, q_bd_s', if_pos (by decide)]; dsimp only; rw [if_pos (by decide)]
      · rw [q_let_s, u2, q_bd_s', if_neg (by decide), v2, q_bd_s', if_pos (by decide)]
  · refine ⟨-nI 2, x, q_up y 163 0 (nI 0), ?_, ?_, h.told⟩
    · rw [u1, q_bd_s', q_jn, q_jn, if_pos (by decide)]; dsimp only; rw [if_pos (by decide)]
    · rw [q_let_s, u2, q_bd_s', if_pos (by decide)]
