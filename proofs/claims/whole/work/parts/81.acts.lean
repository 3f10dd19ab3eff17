/-! LAYER 2: THE CALLS, 8: plant, fence, boil -/
theorem Rel.st {x y : qS} (h : Rel x y) : ST true 88 2 x y := ⟨Or.inl ⟨rfl, rfl, rfl⟩, h.G, h.1.2.2.2.2.1, h.1.2.2.2.2.2.1, h.1.2.2.2.2.2.2.1, h.2.2.2.1.1, h.2.2.2.1.2.2.1⟩
theorem Rel.wk {x y : qS} (h : Rel x y) : WK true false false 88 2 x y := ⟨h.C, h.B, fun _ => h.1.2.2.2.2.2.2.2.2, fun h => absurd h (by decide), fun h => absurd h (by decide)⟩
theorem Rel.tr {x y x2 y2 : qS} {S : Nat → Prop} (h : Rel x y) (hW : WZ true false false 88 2 x y S x2 y2) (hw : (y2.1 164 0).toInt ≤ 9999) : Rel x2 y2 := by
  obtain ⟨⟨r1, r2, r3, r4, r5, r6, r7, r8, r9⟩, h2, h3, h4, h5⟩ := h
  obtain ⟨⟨fx, fk, fu⟩, ⟨fy, fj, fv⟩, ⟨w1, w2, w3, -, -⟩, -⟩ := hW
  have hx : ∀ c, (c < 2 ∨ 12 ≤ c) → c ≠ 88 → c ≠ 89 → c ≠ 17 → c ≠ 18 → c ≠ 32 → x2.1 c = x.1 c := fun c a1 a2 a3 a4 a5 a6 => fx c (by omega) a2 a3 a4 a5 (Or.inr a6)
  have hy : ∀ c, c ≠ 163 → c ≠ 164 → (c < 180 ∨ 183 < c) → c ≠ 167 → y2.1 c = y.1 c := fun c a1 a2 a3 a4 => fy c a1 a2 a3 (Or.inr a4)
  have hg : ∀ j, j = 6 ∨ j = 7 ∨ j = 8 ∨ j = 9 ∨ j = 10 ∨ j = 11 → y2.1 163 j = y.1 163 j := fun j hj => fj j (by omega) (by omega) (by omega)
  refine ⟨⟨w1, w2, hw, r4.mv hg, ?_, ?_, ?_, ?_, w3 rfl⟩, ?_, ?_, ?_, ?_⟩
  · exact r5.fr (fun c a b => hx c (by omega) (by omega) (by omega) (by omega) (by omega) (by omega)) (fun c a b => hy c (by omega) (by omega) (by omega) (by omega))
  · exact r6.fr (fun c a b => hx c (by omega) (by omega) (by omega) (by omega) (by omega) (by omega)) (hy 178 (by omega) (by omega) (by omega) (by omega)) (fj 36 (by omega) (by omega) (by omega))
  · exact r7.fr (fun c a b => hx c (by omega) (by omega) (by omega) (by omega) (by omega) (by omega)) (hy 179 (by omega) (by omega) (by omega) (by omega)) (fj 38 (by omega) (by omega) (by omega)) (hg 6 (by omega)) (hg 7 (by omega))
  · exact r8.fr (fun c a b => hx c (by omega) (by omega) (by omega) (by omega) (by omega) (by omega)) (hy 184 (by omega) (by omega) (by omega) (by omega)) (fj 48 (by omega) (by omega) (by omega)) (hg 6 (by omega))
  · exact h2.fr (by rw [hx 0 (by omega) (by omega) (by omega) (by omega) (by omega) (by omega)]) (by rw [hx 0 (by omega) (by omega) (by omega) (by omega) (by omega) (by omega)]) (fun c a b => hx c (by omega) (by omega) (by omega) (by omega) (by omega) (by omega)) (fj 3 (by omega) (by omega) (by omega)) hg (hy 165 (by omega) (by omega) (by omega) (by omega))
  · exact h3.fr (by rw [hx 67 (by omega) (by omega) (by omega) (by omega) (by omega) (by omega)]) (hx 68 (by omega) (by omega) (by omega) (by omega) (by omega) (by omega)) (hx 66 (by omega) (by omega) (by omega) (by omega) (by omega) (by omega)) (fj 14 (by omega) (by omega) (by omega)) (fj 34 (by omega) (by omega) (by omega)) (fj 35 (by omega) (by omega) (by omega)) (hy 168 (by omega) (by omega) (by omega) (by omega))
  · exact h4.fr fk (by rw [hx 90 (by omega) (by omega) (by omega) (by omega) (by omega) (by omega)]) (fj 5 (by omega) (by omega) (by omega)) (hy 169 (by omega) (by omega) (by omega) (by omega))
  · exact h5.fr (by rw [hx 0 (by omega) (by omega) (by omega) (by omega) (by omega) (by omega)]) (fun c a b _ _ => hx c (by omega) (by omega) (by omega) (by omega) (by omega) (by omega)) (fj 53 (by omega) (by omega) (by omega)) (hy 187 (by omega) (by omega) (by omega) (by omega))
theorem write_s {w x y : Int32} {u v : qS} (hS : ST true 88 2 u v) (hW : WK true false false 88 2 u v) : ∃ u2 v2, m_X3_write 31 2 w x y u = some (nI 0, u2) ∧ m_X11_notes w x y v = some (nI 0, v2) ∧ WQ true false false 88 2 u v (fun j => j = 2) u2 v2 := by
  obtain ⟨hm, hG, -, -, -, h6, h7⟩ := hS
  rw [if_pos rfl] at h6 h7
  obtain ⟨L, hL, hL1, hL2⟩ := hW.2.1.lines
  have hcl : u.1 2 10 = nI L := by rw [hW.1.lines]; exact hL1
  by_cases hL5 : L = 150
  · rw [hL5] at hcl hL1
    exact ⟨u, v, write_f hcl, notes_f hL1 h7, WQ.rfl' hW⟩
  · exact ⟨_, _, write_c (by omega) hcl (by omega), notes_r hL1 (by omega) h7, book_w hG hW (by omega)⟩
theorem sim_plant (a b c : Int32) : SIM (m_X10_plant a b c) (m_X11_plant a b c) := fun x y h => by
  obtain ⟨P, hP1, hP, hP2⟩ := h.G.P
  have hx7 : x.1 2 7 = nI P := by rw [h.C.parties, hP]
  have p63 : (q_up y 163 0 (nI 0)).1 163 6 = nI P := hP
  unfold m_X10_plant m_X11_plant
  simp only [lit_n, mI_lit]
  rcases party_b a hx7 p63 hP1 with ⟨p, p1, p2, w1, w2⟩ | ⟨w1, w2⟩
  · rcases place_b b with ⟨q, q1, q2, v1, v2⟩ | ⟨v1, v2⟩
    · rcases within_b c 0 99 (by omega) (by omega) with ⟨n, n0, n1, n2, u1, u2⟩ | ⟨u1, u2⟩
      · obtain ⟨T, hT1, hT, hT2⟩ := h.B.trees
        have hx8 : x.1 2 8 = nI T := by rw [h.C.trees, hT]
        have a4 : q_ald (q_up y 163 0 (nI 0)) 164 136 (nI 4) = some (nI T) := by rw [ald_n (by omega) (by omega)]; exact congrArg some hT
        by_cases hT4 : T = 14
        · refine ⟨mI, x, q_up y 163 0 (nI 0), ?_, ?_, h.told⟩
          · simp only [w1, v1, u1, q_bd_some, q_jn, z10, if_false, hx8, hT4, nI_t (show 14 < 2147483648 by omega), show ¬ (((14 : Nat) : Int) < ((14 : Nat) : Int)) by omega]
          · simp only [q_let, w2, v2, u2, q_bd_some, z10, if_false, a4, Option.bind_some, hT4, if_true]
        · obtain ⟨x2, y2, k1, k2, R2, F⟩ := keep_s (h.told (v := nI 0))
          have y4 : y2.1 164 4 = nI T := by rw [F.2.2.1 164 (by omega) (by omega)]; exact hT
          have y6 : y2.1 163 6 = nI P := by rw [F.2.2.2 6 (by omega)]; exact hP
          obtain ⟨x3, y3, t1, t2, t3, t4⟩ := tree_s (p := p) (q := q) (a := n) R2.st R2.wk y4 (by omega) y6 hP1 p1 q1 n1
          obtain ⟨x4, y4', s1, s2, s3⟩ := write_s (w := nI 0) (x := nI T) (y := nI 0) (t2.st R2.st) t2.2.2.1
          have w4 := t2.trans s3 (S3 := fun j => ¬ j = 0) (by omega)
          subst p2
          subst q2
          subst n2
          refine ⟨nI T, x4, y4', ?_, ?_, R2.tr w4.z ?_⟩
          · have c1 : (nI T).toInt < (nI 14).toInt := by rw [nI_t (by omega), nI_t (by omega)]; omega
            simp only [w1, v1, u1, q_bd_some, q_jn, z10, if_false, hx8, if_pos c1, k1, t1, s1]
          · have c1 : ¬ (nI T).toInt = (nI 14).toInt := by rw [nI_t (by omega), nI_t (by omega)]; omega
            simp only [q_let, w2, v2, u2, q_bd_some, z10, if_false, a4, Option.bind_some, if_neg c1, k2, t3, s2]
          · rw [w4.2.2.2 0 (by omega)]; exact R2.w
      · refine ⟨mI, x, q_up y 163 0 (nI 0), ?_, ?_, h.told⟩
        · simp only [w1, v1, u1, q_bd_some, q_jn, z10, z00, if_false, if_true]
        · simp only [q_let, w2, v2, u2, q_bd_some, z10, z00, if_false, if_true]
    · refine ⟨mI, x, q_up y 163 0 (nI 0), ?_, ?_, h.told⟩
      · simp only [w1, v1, q_bd_some, q_jn, z10, z00, if_false, if_true]
      · simp only [q_let, w2, v2, q_bd_some, z10, z00, if_false, if_true]
  · refine ⟨mI, x, q_up y 163 0 (nI 0), ?_, ?_, h.told⟩
    · simp only [w1, q_bd_some, q_jn, z00, if_true]
    · simp only [q_let, w2, q_bd_some, z00, if_true]
theorem fenced_g {x x2 : qS} {a r : Int32} (h : x2.1 2 6 = x.1 2 6) (f1 : m_X0_isFenced 2 a x = some (r, x)) : m_X0_isFenced 2 a x2 = some (r, x2) := by
  unfold m_X0_isFenced at f1 ⊢
  simp only [lit_n] at f1 ⊢
  rw [h]
  by_cases e : ((x.1 2 6 >>> (a &&& nI 31)) &&& nI 1).toInt = (nI 1).toInt
  · rw [if_pos e] at f1 ⊢
    rw [(Prod.mk.inj (Option.some.inj f1)).1]
  · rw [if_neg e] at f1 ⊢
    rw [(Prod.mk.inj (Option.some.inj f1)).1]
theorem fence_j {x3 x4 : qS} {q b c : Nat} (hb : b < 2) (hc : c < 2) (hbc : ¬ b = c) (s1 : m_X3_write 31 2 (nI (b + 1)) (nI q) (nI 0) x3 = some (nI 0, x4)) : (if (nI c).toInt = 0 then q_bd (m_X3_write 31 2 (nI 2) (nI q) (nI 0) x3) (fun _ u_7 => some (nI 1, u_7)) else q_bd (m_X3_write 31 2 (nI 1) (nI q) (nI 0) x3) (fun _ u_7 => some (nI 1, u_7))) = some (nI 1, x4) := by
  by_cases e : c = 0
  · have : b = 1 := by omega
    subst e
    subst this
    have s1' : m_X3_write 31 2 (nI 2) (nI q) (nI 0) x3 = some (nI 0, x4) := s1
    rw [if_pos (by decide), s1', q_bd_s']
  · have e1 : c = 1 := by omega
    have : b = 0 := by omega
    subst e1
    subst this
    have s1' : m_X3_write 31 2 (nI 1) (nI q) (nI 0) x3 = some (nI 0, x4) := s1
    rw [if_neg (by decide), s1', q_bd_s']
theorem sim_fence (a : Int32) {c : Nat} (hc : c < 2) : SIM (m_X10_fence a (nI c)) (m_X11_fence a (nI c)) := fun x y h => by
  unfold m_X10_fence m_X11_fence
  simp only [lit_n, mI_lit]
  rcases place_b a with ⟨q, q1, q2, v1, v2⟩ | ⟨v1, v2⟩
  · have h' := h.told (v := nI 0)
    obtain ⟨F, b, -, hb, -, f1, f2, -⟩ := fenced_c (k2 := 2) h'.C h'.B q1
    subst q2
    by_cases hbc : b = c
    · refine ⟨nI 0, x, q_up y 163 0 (nI 0), ?_, ?_, h'⟩
      · rw [v1, q_bd_s', if_neg (by decide), f1, q_bd_s', hbc, if_pos rfl]
      · rw [q_let_s, v2, q_bd_s', if_neg (by decide), f2, q_bd_s', hbc, if_pos rfl]
    · obtain ⟨x2, y2, k1, k2, R2, KF2⟩ := keep_s h'
      have f1' : m_X0_isFenced 2 (nI q) x2 = some (nI b, x2) := fenced_g (by rw [KF2.1 2 (by omega) (by omega)]) f1
      obtain ⟨x3, y3, t1, t2, t3⟩ := fence_s R2.st R2.wk q1 hb f1'
      obtain ⟨x4, y4, s1, s2, s3⟩ := write_s (w := nI (b + 1)) (x := nI q) (y := nI 0) (t3.st R2.st) t3.2.2.1
      have w4 := t3.trans s3 (S3 := fun j => ¬ j = 0) (by omega)
      have ec : c = 1 - b := by omega
      have c1 : ¬ (nI b).toInt = (nI c).toInt := by rw [nI_t (by omega), nI_t (by omega)]; omega
      refine ⟨nI 1, x4, y4, ?_, ?_, R2.tr w4.z ?_⟩
      · have jo := fence_j hb hc hbc s1
        rw [v1, q_bd_s', if_neg (by decide), f1, q_bd_s', if_neg c1, k1, q_bd_s', t1, q_bd_s', q_jn]
        exact jo
      · rw [ec] at c1 ⊢
        rw [q_let_s, v2, q_bd_s', if_neg (by decide), f2, q_bd_s', if_neg c1, k2, q_bd_s', t2, s2, q_bd_s', q_bd_s']
      · rw [w4.2.2.2 0 (by omega)]; exact R2.w
  · refine ⟨nI 0, x, q_up y 163 0 (nI 0), ?_, ?_, h.told⟩
    · simp only [v1, q_bd_some, z00, if_true]
    · simp only [q_let, v2, q_bd_some, z00, if_true]
theorem sim_boil (a b : Int32) : SIM (m_X10_boil a b) (m_X11_boil a b) := fun x y h => by
  obtain ⟨P, hP1, hP, hP2⟩ := h.G.P
  have hx7 : x.1 2 7 = nI P := by rw [h.C.parties, hP]
  have p63 : (q_up y 163 0 (nI 0)).1 163 6 = nI P := hP
  unfold m_X10_boil m_X11_boil
  simp only [lit_n, mI_lit]
  rcases party_b a hx7 p63 hP1 with ⟨p, p1, p2, w1, w2⟩ | ⟨w1, w2⟩
  · rcases within_b b 1 99 (by omega) (by omega) with ⟨n, n0, n1, n2, u1, u2⟩ | ⟨u1, u2⟩
    · obtain ⟨x2, y2, k1, k2, R2, F⟩ := keep_s (h.told (v := nI 0))
      have y6 : y2.1 163 6 = nI P := by rw [F.2.2.2 6 (by omega)]; exact hP
      obtain ⟨m, x3, y3, m9, t1, t2, t3⟩ := cook_s (p := p) (n := n) R2.st R2.wk y6 hP1 p1 n1
      obtain ⟨x4, y4, s1, s2, s3⟩ := write_s (w := nI 3) (x := nI p) (y := nI m) (t3.st R2.st) t3.2.2.1
      have w4 := t3.trans s3 (S3 := fun j => ¬ j = 0) (by omega)
      subst p2
      subst n2
      refine ⟨nI m, x4, y4, ?_, ?_, R2.tr w4.z ?_⟩
      · simp only [w1, u1, q_bd_some, z10, if_false, k1, t1, s1]
      · simp only [q_let, w2, u2, q_bd_some, z10, if_false, k2, t2, s2]
      · rw [w4.2.2.2 0 (by omega)]; exact R2.w
    · refine ⟨mI, x, q_up y 163 0 (nI 0), ?_, ?_, h.told⟩
      · simp only [w1, u1, q_bd_some, z10, z00, if_false, if_true]
      · simp only [q_let, w2, u2, q_bd_some, z10, z00, if_false, if_true]
  · refine ⟨mI, x, q_up y 163 0 (nI 0), ?_, ?_, h.told⟩
    · simp only [w1, q_bd_some, z00, if_true]
    · simp only [q_let, w2, q_bd_some, z00, if_true]
