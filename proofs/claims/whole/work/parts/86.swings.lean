/-! LAYER 2: THE CALLS, 13: swings -/
theorem bsg_cg {c : Nat → Bool} {lt lt2 : Nat → Nat → Bool} {P : Nat} (h : ∀ q r, q < P → r < P → lt q r = lt2 q r) : ∀ (n t : Nat) (b : Option Nat), t + n ≤ P → (∀ q, b = some q → q < P) → bsg c lt t n b = bsg c lt2 t n b
  | 0, t, b, ht, hb => rfl
  | n + 1, t, b, ht, hb => by
    unfold bsg
    by_cases e : c t = true ∧ (∀ q, b = some q → lt q t = true)
    · have e2 : c t = true ∧ (∀ q, b = some q → lt2 q t = true) := ⟨e.1, fun q hq => by rw [← h q t (hb q hq) (by omega)]; exact e.2 q hq⟩
      rw [if_pos e, if_pos e2]
      exact bsg_cg h n (t + 1) _ (by omega) (fun q hq => by have := Option.some.inj hq; omega)
    · have e2 : ¬ (c t = true ∧ (∀ q, b = some q → lt2 q t = true)) := fun e2 => e ⟨e2.1, fun q hq => by rw [h q t (hb q hq) (by omega)]; exact e2.2 q hq⟩
      rw [if_neg e, if_neg e2]
      exact bsg_cg h n (t + 1) _ (by omega) hb
theorem stro_cg {f g : Nat → Int32} {P : Nat} (hP : P ≤ 5) (h : ∀ j, 10 ≤ j → j < 15 → f j = g j) : stro f P = stro g P := by
  unfold stro
  exact bsg_cg (P := P) (fun q r hq hr => by rw [h (10 + q) (by omega) (by omega), h (10 + r) (by omega) (by omega)]) P 0 none (by omega) (fun q hq => by cases hq)
theorem split_it {R N : Nat} {v2 : qS} (hRN : R ≤ N) (hN : N ≤ 60) : ∀ (n i f f' : Nat) (v : qS), i + n = R → n < f → q_it1 (m_X11_goesFor_L2 (nI R) (fun u => some (nI 0, u))) f (nI i) v = some (nI 0, v2) → ∀ K, q_it1 (m_X11_goesFor_L2 (nI N) K) (n + f') (nI i) v = q_it1 (m_X11_goesFor_L2 (nI N) K) f' (nI R) v2
  | n, i, 0, f', v, hi, hf, he => by omega
  | 0, i, f + 1, f', v, hi, hf, he => fun K => by
    have c1 : (nI R).toInt ≤ (nI i).toInt := by rw [nI_t (by omega), nI_t (by omega)]; omega
    have he' : m_X11_goesFor_L2 (nI R) (fun u => some (nI 0, u)) (q_it1 (m_X11_goesFor_L2 (nI R) (fun u => some (nI 0, u))) f) (nI i) v = some (nI 0, v2) := he
    unfold m_X11_goesFor_L2 at he'
    rw [if_pos c1] at he'
    have e1 : v = v2 := (Prod.mk.inj (Option.some.inj he')).2
    have e2 : i = R := by omega
    rw [e1, e2, Nat.zero_add]
  | n + 1, i, f + 1, f', v, hi, hf, he => fun K => by
    have c1 : ¬ (nI R).toInt ≤ (nI i).toInt := by rw [nI_t (by omega), nI_t (by omega)]; omega
    have c2 : ¬ (nI N).toInt ≤ (nI i).toInt := by rw [nI_t (by omega), nI_t (by omega)]; omega
    have he' : m_X11_goesFor_L2 (nI R) (fun u => some (nI 0, u)) (q_it1 (m_X11_goesFor_L2 (nI R) (fun u => some (nI 0, u))) f) (nI i) v = some (nI 0, v2) := he
    have gb : ∃ r v1, m_X11_goesBy v = some (r, v1) := by
      cases hg : m_X11_goesBy v with
      | none =>
        unfold m_X11_goesFor_L2 at he'
        rw [if_neg c1, hg] at he'
        cases he'
      | some q => exact ⟨q.1, q.2, rfl⟩
    obtain ⟨r, v1, g1⟩ := gb
    have he2 : q_it1 (m_X11_goesFor_L2 (nI R) (fun u => some (nI 0, u))) f (nI (i + 1)) v1 = some (nI 0, v2) := by
      rw [← he']
      generalize q_it1 (m_X11_goesFor_L2 (nI R) (fun u => some (nI 0, u))) f = self
      unfold m_X11_goesFor_L2
      rw [if_neg c1, g1, q_bd_s', lit_n, nI_add]
    have ih := split_it hRN hN n (i + 1) f f' v1 (by omega) (by omega) he2 K
    rw [← ih, show n + 1 + f' = (n + f') + 1 by omega]
    show m_X11_goesFor_L2 _ _ (q_it1 (m_X11_goesFor_L2 (nI N) K) (n + f')) _ _ = _
    generalize q_it1 (m_X11_goesFor_L2 (nI N) K) (n + f') = self
    unfold m_X11_goesFor_L2
    rw [if_neg c2, g1, q_bd_s', lit_n, nI_add]
theorem rest_it {N : Nat} (hN : N ≤ 60) : ∀ (n i f : Nat) (u v : qS), i + n = N → n < f → ST false 90 92 u v → WK false false false 90 92 u v → (v.1 164 0).toInt + n ≤ 20000 → (∀ m, 1 ≤ m → m ≤ n → ¬ (q_rm (v.1 164 0 + nI m) (v.1 163 11 + nI 4)).toInt = 0) →
    ∃ u2 v2, (∀ K, q_it1 (m_X11_goesFor_L2 (nI N) K) f (nI i) v = K v2) ∧ WZ false false false 90 92 u v (fun _ => True) u2 v2 ∧ ∀ j, 10 ≤ j → j < 15 → v2.1 164 j = v.1 164 j
  | n, i, 0, u, v, hi, hf, hS, hW, hw, hs => by omega
  | 0, i, f + 1, u, v, hi, hf, hS, hW, hw, hs => by
    have c1 : (nI N).toInt ≤ (nI i).toInt := by rw [nI_t (by omega), nI_t (by omega)]; omega
    refine ⟨u, v, fun K => ?_, (WQ.rfl' hW).z, fun _ _ _ => rfl⟩
    show m_X11_goesFor_L2 _ _ _ _ _ = _
    unfold m_X11_goesFor_L2
    rw [if_pos c1]
  | n + 1, i, f + 1, u, v, hi, hf, hS, hW, hw, hs => by
    have c1 : ¬ (nI N).toInt ≤ (nI i).toInt := by rw [nI_t (by omega), nI_t (by omega)]; omega
    obtain ⟨m, u2, v2, -, a2, w1, -, h0, hst⟩ := week_s (x3 := nI 1) (x4 := nI 0) hS hW (by omega) rfl (by decide)
    obtain ⟨W, hW2, W1, W2⟩ := hW.2.1.week
    have h0' : (v2.1 164 0).toInt = (v.1 164 0).toInt + 1 := by rw [h0, W1, nI_add, nI_t (by omega), nI_t (by omega)]; omega
    have e11 : v2.1 163 11 = v.1 163 11 := w1.2.1.2.1 11 (by omega) (by omega) (by omega)
    obtain ⟨u3, v3, b2, w2, s2⟩ := rest_it hN n (i + 1) f u2 v2 (by omega) (by omega) (w1.st hS) w1.2.2.1 (by omega) (fun q q1 q2 => by
      have := hs (q + 1) (by omega) (by omega)
      rw [e11, h0]
      rw [W1, nI_add] at this ⊢
      rw [nI_add, show W + 1 + q = W + (q + 1) by omega]; exact this)
    refine ⟨u3, v3, fun K => ?_, w1.trans w2 (fun _ _ => trivial), fun j j1 j2 => by rw [s2 j j1 j2]; exact hst (hs 1 (by omega) (by omega)) j j1 j2⟩
    rw [← b2 K]
    show m_X11_goesFor_L2 _ _ (q_it1 (m_X11_goesFor_L2 (nI N) K) f) _ _ = _
    generalize q_it1 (m_X11_goesFor_L2 (nI N) K) f = self
    unfold m_X11_goesFor_L2
    rw [if_neg c1, a2, q_bd_s', lit_n, nI_add]
theorem WK.ff {tr th tg : Bool} {k k2 : Nat} {u v : qS} (h : WK tr th tg k k2 u v) : WK tr false false k k2 u v := ⟨h.1, h.2.1, h.2.2.1, fun e => absurd e (by decide), fun e => absurd e (by decide)⟩
theorem behind_s {x0 y0 x y : qS} {t d H R N P : Nat} (hR : Rel x0 y0) (h : TH x0 y0 x y) (ht : t < 14) (hH : y0.1 164 (62 + t) = nI H) (hH9 : H ≤ 99) (hd : d ≤ H) (hP : y0.1 163 6 = nI P) (hP5 : P ≤ 5) (hRN : R ≤ N) (hN : N ≤ 20) (hns : ∀ m, R < m → m ≤ N → ¬ (q_rm (y0.1 164 0 + nI m) (y0.1 163 11 + nI 4)).toInt = 0) :
    ∃ r x2 y2, m_X10_firstPartyBehind (nI t) (nI d) (nI R) x = some (r, x2) ∧ m_X11_strongestBehind (nI t) (nI d) (nI N) y = some (r, y2) ∧ TH x0 y0 x2 y2 ∧ (R = 0 → r = enc (stro (y0.1 164) P)) := by
  obtain ⟨y1, e1, t1, r1, g1⟩ := h.anew
  obtain ⟨x1, c1, t2, hC, hB, -, -⟩ := t1.copy hR r1
  have hS := t2.st hR
  have hWK : WK false false false 90 92 x1 y1 := ⟨hC, hB, fun e => absurd e (by decide), fun e => absurd e (by decide), fun e => absurd e (by decide)⟩
  have yh : y1.1 164 (62 + t) = nI H := by rw [r1 _ (by omega)]; exact hH
  have xh : x1.1 99 t = nI H := (hC.hang ht).trans yh
  have w1 := WQ.hang (t := t) (x := H - d) hWK hS ht (by omega)
  have t3 := t2.step w1.z
  have hS3 := t3.st hR
  have hw0 := hR.w
  have k0 : (q_up y1 164 (62 + t) (nI (H - d))).1 164 0 = y0.1 164 0 := by rw [w1.2.2.2 0 (by omega), r1 0 (by omega)]
  obtain ⟨x3, y3, a1, a2, w3, h0⟩ := thought_s (tr := false) (th := false) (tg := false) (k := 90) (k2 := 92) (N := R) (by omega) hS3.1 hS3 w1.2.2.1.1 w1.2.2.1.2.1 (fun e => absurd e (by decide)) (fun e => absurd e (by decide)) (fun e => absurd e (by decide)) (by rw [k0]; omega)
  have t4 := t3.step w3
  have hS4 := t4.st hR
  obtain ⟨W, W9, W1, W2⟩ := hR.B.week
  obtain ⟨W', W9', W1', W2'⟩ := w3.2.2.1.2.1.week
  have hW' : W' = W + R := by rw [W2', k0, W2] at h0; omega
  have e11 : y3.1 163 11 = y0.1 163 11 := t4.2.2.2.1 11 (by omega) (by omega)
  obtain ⟨x4, y4, b1, w4, s4⟩ := rest_it (N := N) (by omega) (N - R) R (3000 - R) x3 y3 (by omega) (by omega) hS4 w3.2.2.1 (by rw [W2']; omega) (fun m m1 m2 => by
    have := hns (R + m) (by omega) (by omega)
    rw [W1, nI_add] at this
    rw [e11, W1', nI_add, hW', show W + R + m = W + (R + m) by omega]; exact this)
  have t5 := t4.step w4
  have p3 : y3.1 163 6 = nI P := by rw [t4.2.2.2.1 6 (by omega) (by omega)]; exact hP
  have p4 : y4.1 163 6 = nI P := by rw [t5.2.2.2.1 6 (by omega) (by omega)]; exact hP
  have ec := stro_c (k2 := 92) (u := x3) w3.2.2.1.1 p3 hP5
  have er := stro_r (v := y4) p4 hP5
  have es : stro (y4.1 164) P = stro (y3.1 164) P := stro_cg hP5 s4
  have mm : nI H - nI d = nI (H - d) := nI_sub hd
  have go : m_X11_goesFor (nI N) (q_up y1 164 (62 + t) (nI (H - d))) = some (nI 0, y4) := by
    unfold m_X11_goesFor at a2 ⊢
    simp only [lit_n] at a2 ⊢
    have sp := split_it (R := R) (N := N) (v2 := y3) hRN (by omega) R 0 q_F (3000 - R) (q_up y1 164 (62 + t) (nI (H - d))) (by omega) (by rw [q_F_eq]; omega) a2 (fun u_2 => some (nI 0, u_2))
    rw [show R + (3000 - R) = q_F by rw [q_F_eq]; omega, b1] at sp
    exact sp
  refine ⟨enc (stro (y3.1 164) P), x3, y4, ?_, ?_, ?_, fun e => ?_⟩
  · unfold m_X10_firstPartyBehind
    rw [c1, q_bd_s', ald_n (by omega) (by omega), Option.bind_some, xh, mm, ast_n (by omega) (by omega), Option.bind_some]
    rw [show q_up x1 99 t (nI (H - d)) = q_up x1 (92 + 7) t (nI (H - d)) from rfl, a1, q_bd_s', ec, q_bd_s']
  · unfold m_X11_strongestBehind
    simp only [lit_n]
    rw [e1, q_bd_s', nI_add, ald_n (by omega) (by omega), Option.bind_some, yh, mm, ast_n (by omega) (by omega), Option.bind_some, go, q_bd_s', er, q_bd_s', es]
  · obtain ⟨h1, h2, -, -, -, -⟩ := t4
    obtain ⟨-, -, h3, h4, h5, h6⟩ := t5
    exact ⟨h1, h2, h3, h4, h5, h6⟩
  · subst e
    have a2' : m_X11_goesFor (nI 0) (q_up y1 164 (62 + t) (nI (H - d))) = some (nI 0, q_up y1 164 (62 + t) (nI (H - d))) := by
      unfold m_X11_goesFor
      simp only [lit_n]
      have : ∀ f (K : qS → qR) (v : qS), q_it1 (m_X11_goesFor_L2 (nI 0) K) (f + 1) (nI 0) v = K v := fun f K v => by
        show m_X11_goesFor_L2 _ _ _ _ _ = _
        unfold m_X11_goesFor_L2
        rw [if_pos (by decide)]
      exact this 2999 _ _
    rw [a2'] at a2
    have e3 := (Prod.mk.inj (Option.some.inj a2)).2
    rw [← e3]
    exact congrArg enc (stro_cg hP5 (fun j j1 j2 => by rw [w1.2.2.2 j (by omega), r1 j (by omega)]))
