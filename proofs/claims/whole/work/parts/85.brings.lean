/-! LAYER 2: THE CALLS, 12: brings -/
theorem notes_t {w x y : Int32} {v : qS} (h5 : v.1 163 5 = nI 1) : m_X11_notes w x y v = some (nI 0, v) := by
  unfold m_X11_notes
  rw [h5, if_neg (by decide)]; rfl
theorem plants_g {p q a : Int32} {T : Nat} {v : qS} (hT : v.1 164 4 = nI T) (hT4 : T < 14) (h5 : v.1 163 5 = nI 1) : ∃ v2, m_X11_plants p q a v = some (nI T, v2) ∧ v2.1 163 = v.1 163 := by
  have a4 : q_ald v 164 136 (nI 4) = some (nI T) := by rw [ald_n (by omega) (by omega), hT]
  unfold m_X11_plants
  simp only [lit_n]
  rw [a4, Option.bind_some, nI_add, ast_n (by omega) (by omega), Option.bind_some, nI_add, ast_n (by omega) (by omega), Option.bind_some, nI_add, ast_n (by omega) (by omega), Option.bind_some, nI_add, ast_n (by omega) (by omega), Option.bind_some, ast_n (by omega) (by omega), Option.bind_some]
  have h5' : (q_up (q_up (q_up (q_up (q_up v 164 (20 + T) p) 164 (34 + T) q) 164 (48 + T) a) 164 (62 + T) (nI 0)) 164 4 (nI T + nI 1)).1 163 5 = nI 1 := h5
  rw [notes_t h5', q_bd_s']
  exact ⟨_, rfl, rfl⟩
theorem TH.u42 {x0 y0 x y : qS} {v : Int32} {j : Nat} (h : TH x0 y0 x y) (hj : 42 ≤ j) (hj2 : j ≤ 45) : TH x0 y0 x (q_up y 163 j v) := by
  obtain ⟨h1, h2, h3, h4, h5, h6⟩ := h
  refine ⟨h1, h2, fun c a1 a2 a3 a4 => ?_, fun i a1 a2 => ?_, ?_, fun i hi => ?_⟩
  · rw [q_up_1, if_neg a1]; exact h3 c a1 a2 a3 a4
  · rw [q_up_1, if_pos rfl, upd_g, if_neg (by omega)]; exact h4 i a1 a2
  · rw [q_up_1, if_pos rfl, upd_g, if_neg (by omega)]; exact h5
  · rw [q_up_1, if_neg (by omega)]; exact h6 i hi
theorem brings_it {x0 y0 : qS} {p P T n : Nat} {c : Int32} (hR : Rel x0 y0) (hT : y0.1 164 4 = nI T) (hT4 : T < 14) (hP : y0.1 163 6 = nI P) (hP5 : P ≤ 5) (hp : p < P) (hn : n ≤ 20) : ∀ (m i f1 f2 : Nat) (b5 b6 : Int32) (x y : qS), i + m = 10 → m < f1 → m < f2 → TH x0 y0 x y → y.1 163 43 = nI p →
    ∃ r5 r6 x2 y2, (∀ K : Int32 → Int32 → qS → qR, q_it3 (m_X10_brings_L65 (nI p) (nI n) c K) f1 b5 b6 (nI i) x = K r5 r6 x2) ∧ (∀ K : Int32 → Int32 → qS → qR, q_it3 (m_X11_brings_L65 (nI p) (nI n) c K) f2 b5 b6 (nI i) y = K r5 r6 y2) ∧ TH x0 y0 x2 y2
  | m, i, 0, f2, b5, b6, x, y, hi, hf1, hf2, h, h43 => by omega
  | m, i, f1, 0, b5, b6, x, y, hi, hf1, hf2, h, h43 => by omega
  | 0, i, f1 + 1, f2 + 1, b5, b6, x, y, hi, hf1, hf2, h, h43 => by
    have c1 : (nI 10).toInt ≤ (nI i).toInt := by rw [nI_t (by omega), nI_t (by omega)]; omega
    refine ⟨b5, b6, x, y, fun K => ?_, fun K => ?_, h⟩
    · show m_X10_brings_L65 _ _ _ _ _ _ _ _ _ = _
      unfold m_X10_brings_L65
      rw [lit_n, if_pos c1]
    · show m_X11_brings_L65 _ _ _ _ _ _ _ _ _ = _
      unfold m_X11_brings_L65
      rw [lit_n, if_pos c1]
  | m + 1, i, f1 + 1, f2 + 1, b5, b6, x, y, hi, hf1, hf2, h, h43 => by
    have c1 : ¬ (nI 10).toInt ≤ (nI i).toInt := by rw [nI_t (by omega), nI_t (by omega)]; omega
    obtain ⟨y1, e1, t1, r1, g1⟩ := h.anew
    have t1' : TH x0 y0 x (q_up y1 163 42 (nI 0)) := t1.u42 (by omega) (by omega)
    have r1' : ∀ j, j < 136 → (q_up y1 163 42 (nI 0)).1 164 j = y0.1 164 j := r1
    obtain ⟨x1, c1', t2, hC, hB, -, -⟩ := t1'.copy hR r1'
    have hS := t2.st hR
    have hWK : WK false false false 90 92 x1 (q_up y1 163 42 (nI 0)) := ⟨hC, hB, fun e => absurd e (by decide), fun e => absurd e (by decide), fun e => absurd e (by decide)⟩
    have q4 : (q_up y1 163 42 (nI 0)).1 164 4 = nI T := by rw [r1' 4 (by omega)]; exact hT
    have q6 : (q_up y1 163 42 (nI 0)).1 163 6 = nI P := by rw [t1'.2.2.2.1 6 (by omega) (by omega)]; exact hP
    have q5 : (q_up y1 163 42 (nI 0)).1 163 5 = nI 1 := t1'.2.2.2.2.1
    have q42 : (q_up y1 163 42 (nI 0)).1 163 42 = nI 0 := rfl
    have q43 : (q_up y1 163 42 (nI 0)).1 163 43 = nI p := by show y1.1 163 43 = _; rw [g1]; exact h43
    obtain ⟨x2, y2, s1, s2, s3, s4⟩ := tree_s (p := p) (q := i) (a := 10) hS hWK q4 hT4 q6 hP5 hp (by omega) (by omega)
    obtain ⟨v2, z1, z2⟩ := plants_g (p := nI p) (q := nI i) (a := nI 10) q4 hT4 q5
    have t3 := t2.step s2.z
    have ev : v2 = y2 := by
      have := s3
      rw [z1, notes_t t3.2.2.2.2.1, q_bd_s'] at this
      exact (Prod.mk.inj (Option.some.inj this)).2
    subst ev
    have hS3 := t3.st hR
    have hw0 := hR.w
    have hw2 : (v2.1 164 0).toInt + n ≤ 20000 := by rw [s2.2.2.2 0 (by omega), r1' 0 (by omega)]; omega
    obtain ⟨x3, y3, a1, a2, w3, -⟩ := thought_s (tr := false) (th := false) (tg := true) (k := 90) (k2 := 92) (N := n) (by omega) hS3.1 hS3 s2.2.2.1.1 s2.2.2.1.2.1 (fun e => absurd e (by decide)) (fun e => absurd e (by decide)) (fun _ => by rw [z2]; exact q42) hw2
    have t4 := t3.step w3
    have k43 : y3.1 163 43 = nI p := by rw [w3.2.1.2.1 43 (by omega) (by omega) (by omega), z2]; exact q43
    have hv : x3.1 91 p = y3.1 163 42 := w3.2.2.1.2.2.2.2 rfl p (by omega) k43
    have al : q_ald x3 91 5 (nI p) = some (y3.1 163 42) := by rw [ald_n (by omega) (by omega), hv]
    by_cases hle : (y3.1 163 42).toInt ≤ b6.toInt
    · obtain ⟨r5, r6, x4, y4, d1, d2, t5⟩ := brings_it (c := c) hR hT hT4 hP hP5 hp hn m (i + 1) f1 f2 b5 b6 x3 y3 (by omega) (by omega) (by omega) t4 k43
      refine ⟨r5, r6, x4, y4, fun K => ?_, fun K => ?_, t5⟩
      · rw [← d1 K]
        show m_X10_brings_L65 _ _ _ _ (q_it3 (m_X10_brings_L65 (nI p) (nI n) c K) f1) _ _ _ _ = _
        generalize q_it3 (m_X10_brings_L65 (nI p) (nI n) c K) f1 = self
        unfold m_X10_brings_L65
        simp only [lit_n]
        rw [if_neg c1, c1', q_bd_s', s1, q_bd_s', a1, q_bd_s', al, Option.bind_some, q_jn, if_pos hle, nI_add]
      · rw [← d2 K]
        show m_X11_brings_L65 _ _ _ _ (q_it3 (m_X11_brings_L65 (nI p) (nI n) c K) f2) _ _ _ _ = _
        generalize q_it3 (m_X11_brings_L65 (nI p) (nI n) c K) f2 = self
        unfold m_X11_brings_L65
        simp only [lit_n]
        have gr : m_X11_greater b6 (y3.1 163 42) y3 = some (b6, y3) := by
          unfold m_X11_greater
          by_cases e : b6.toInt ≤ (y3.1 163 42).toInt
          · rw [if_pos e, Int32.toInt_inj.mp (show (y3.1 163 42).toInt = b6.toInt by omega)]
          · rw [if_neg e]
        rw [if_neg c1, e1, q_bd_s', q_let_s, z1, q_bd_s', a2, q_bd_s', q_jn, if_pos hle]
        dsimp only
        rw [gr, q_bd_s', nI_add]
    · obtain ⟨r5, r6, x4, y4, d1, d2, t5⟩ := brings_it (c := c) hR hT hT4 hP hP5 hp hn m (i + 1) f1 f2 (nI i) (y3.1 163 42) x3 y3 (by omega) (by omega) (by omega) t4 k43
      refine ⟨r5, r6, x4, y4, fun K => ?_, fun K => ?_, t5⟩
      · rw [← d1 K]
        show m_X10_brings_L65 _ _ _ _ (q_it3 (m_X10_brings_L65 (nI p) (nI n) c K) f1) _ _ _ _ = _
        generalize q_it3 (m_X10_brings_L65 (nI p) (nI n) c K) f1 = self
        unfold m_X10_brings_L65
        simp only [lit_n]
        rw [if_neg c1, c1', q_bd_s', s1, q_bd_s', a1, q_bd_s', al, Option.bind_some, q_jn, if_neg hle, Option.bind_some, nI_add]
      · rw [← d2 K]
        show m_X11_brings_L65 _ _ _ _ (q_it3 (m_X11_brings_L65 (nI p) (nI n) c K) f2) _ _ _ _ = _
        generalize q_it3 (m_X11_brings_L65 (nI p) (nI n) c K) f2 = self
        unfold m_X11_brings_L65
        simp only [lit_n]
        have gr : m_X11_greater b6 (y3.1 163 42) y3 = some (y3.1 163 42, y3) := by
          unfold m_X11_greater
          rw [if_pos (by omega)]
        rw [if_neg c1, e1, q_bd_s', q_let_s, z1, q_bd_s', a2, q_bd_s', q_jn, if_neg hle]
        dsimp only
        rw [gr, q_bd_s', nI_add]
theorem sim_brings (a b c : Int32) : SIM (m_X10_brings a b c) (m_X11_brings a b c) := fun x y h => by
  obtain ⟨P, hP1, hP, hP2⟩ := h.G.P
  have hx7 : x.1 2 7 = nI P := by rw [h.C.parties, hP]
  have p63 : (q_up y 163 0 (nI 0)).1 163 6 = nI P := hP
  unfold m_X10_brings m_X11_brings
  simp only [lit_n, mI_lit]
  rcases party_b a hx7 p63 hP1 with ⟨p, p1, p2, w1, w2⟩ | ⟨w1, w2⟩
  · subst p2
    rcases within_b b 1 20 (by omega) (by omega) with ⟨n, n0, n1, n2, u1, u2⟩ | ⟨u1, u2⟩
    · subst n2
      rcases within_b c 0 1 (by omega) (by omega) with ⟨k, k0, k1, k2, v1, v2⟩ | ⟨v1, v2⟩
      · obtain ⟨T, hT1, hT, hT2⟩ := h.B.trees
        have hx8 : x.1 2 8 = nI T := by rw [h.C.trees, hT]
        have a4 : q_ald (q_up y 163 0 (nI 0)) 164 136 (nI 4) = some (nI T) := by rw [ald_n (by omega) (by omega)]; exact congrArg some hT
        by_cases hT4 : T = 14
        · have c1 : ¬ (nI T).toInt < (nI 14).toInt := by rw [nI_t (by omega), nI_t (by omega)]; omega
          have c2 : (nI T).toInt = (nI 14).toInt := by rw [hT4]
          refine ⟨mI, x, q_up y 163 0 (nI 0), ?_, ?_, h.told⟩
          · rw [w1, q_bd_s', q_jn, q_jn, if_neg (by decide), u1, q_bd_s', if_neg (by decide), v1, q_bd_s', if_neg (by decide)]
            dsimp only
            rw [if_neg (by decide), hx8, if_neg c1]
          · rw [q_let_s, w2, q_bd_s', if_neg (by decide), u2, q_bd_s', if_neg (by decide), v2, q_bd_s', if_neg (by decide), a4, Option.bind_some, if_pos c2]
        · have c1 : (nI T).toInt < (nI 14).toInt := by rw [nI_t (by omega), nI_t (by omega)]; omega
          have c2 : ¬ (nI T).toInt = (nI 14).toInt := by rw [nI_t (by omega), nI_t (by omega)]; omega
          have h' := h.told (v := nI 0)
          obtain ⟨y1, e1, t1, r1, -, -, -⟩ := thinks_s (x := x) (y := q_up y 163 0 (nI 0))
          have t1' := t1.u42 (v := nI p) (j := 43) (by omega) (by omega)
          obtain ⟨r5, r6, x2, y2, d1, d2, t2⟩ := brings_it (c := c) (p := p) (n := n) h' (T := T) hT (by omega) p63 hP1 p1 n1 10 0 q_F q_F mI mI x (q_up y1 163 43 (nI p)) (by omega) (by rw [q_F_eq]; omega) (by rw [q_F_eq]; omega) t1' rfl
          obtain ⟨y3, e3, R3⟩ := t2.ends h'
          refine ⟨if c.toInt = 0 then r5 else r6, x2, y3, ?_, ?_, R3⟩
          · rw [w1, q_bd_s', q_jn, q_jn, if_neg (by decide), u1, q_bd_s', if_neg (by decide), v1, q_bd_s', if_neg (by decide)]
            dsimp only
            rw [if_neg (by decide), hx8, if_pos c1, d1]
            split <;> rfl
          · rw [q_let_s, w2, q_bd_s', if_neg (by decide), u2, q_bd_s', if_neg (by decide), v2, q_bd_s', if_neg (by decide), a4, Option.bind_some, if_neg c2, e1, q_bd_s', q_let_s, d2, e3, q_bd_s']
            split <;> rfl
      · refine ⟨mI, x, q_up y 163 0 (nI 0), ?_, ?_, h.told⟩
        · rw [w1, q_bd_s', q_jn, q_jn, if_neg (by decide), u1, q_bd_s', if_neg (by decide), v1, q_bd_s', if_pos (by decide)]
          dsimp only
          rw [if_pos (by decide)]
        · rw [q_let_s, w2, q_bd_s', if_neg (by decide), u2, q_bd_s', if_neg (by decide), v2, q_bd_s', if_pos (by decide)]
    · refine ⟨mI, x, q_up y 163 0 (nI 0), ?_, ?_, h.told⟩
      · rw [w1, q_bd_s', q_jn, q_jn, if_neg (by decide), u1, q_bd_s', if_pos (by decide)]
        dsimp only
        rw [if_pos (by decide)]
      · rw [q_let_s, w2, q_bd_s', if_neg (by decide), u2, q_bd_s', if_pos (by decide)]
  · refine ⟨mI, x, q_up y 163 0 (nI 0), ?_, ?_, h.told⟩
    · rw [w1, q_bd_s', q_jn, q_jn, if_pos (by decide)]
      dsimp only
      rw [if_pos (by decide)]
    · rw [q_let_s, w2, q_bd_s', if_pos (by decide)]
