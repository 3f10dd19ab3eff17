/-! LAYER 2: weeks in truth, weeks in thought -/
theorem q_let_s {α : Type} {x : α} {K : α → qR} : q_let x K = K x := Eq.trans rfl rfl
section
variable {tr th tg : Bool} {k k2 : Nat} {u v : qS}
theorem begin_it {K : qS → qR} {u0 : qS} (hk : k = 88 ∨ k = 90) : ∀ (n p f : Nat) (r : Nat → Int32), p + n = 5 → n < f → (∀ q, q < p → r q = nI 0) → ∃ r2, q_it1 (m_X7_begin_L17 k K) f (nI p) (q_st u0 (k + 1) r) = K (q_st u0 (k + 1) r2) ∧ ∀ q, q < 5 → r2 q = nI 0
  | n, p, 0, r, hp, hf, hr => by omega
  | 0, p, f + 1, r, hp, hf, hr => by
    refine ⟨r, ?_, fun q hq => hr q (by omega)⟩
    show m_X7_begin_L17 _ _ _ _ _ = _
    unfold m_X7_begin_L17
    rw [lit_n, if_pos (by rw [nI_t (by omega), nI_t (by omega)]; omega)]
  | n + 1, p, f + 1, r, hp, hf, hr => by
    obtain ⟨r2, e, h⟩ := begin_it (K := K) (u0 := u0) hk n (p + 1) f (upd r p (nI 0)) (by omega) (by omega) (fun q hq => by
      rw [upd_g]; split
      · rfl
      · exact hr q (by omega))
    refine ⟨r2, ?_, h⟩
    rw [← e]
    show m_X7_begin_L17 _ _ (q_it1 (m_X7_begin_L17 k K) f) _ _ = _
    generalize q_it1 (m_X7_begin_L17 k K) f = self
    unfold m_X7_begin_L17
    have c1 : ¬ (nI 5).toInt ≤ (nI p).toInt := by rw [nI_t (by omega), nI_t (by omega)]; omega
    have y1 : q_ast (q_st u0 (k + 1) r) (k + 1) 5 (nI p) (nI 0) = some (q_st u0 (k + 1) (upd r p (nI 0))) := by rw [q_ast_ok (by omega) (by omega), q_st_st, q_st_g, if_pos rfl]
    simp only [lit_n, nI_add, if_neg c1, y1, Option.bind_some]
theorem begin_c (hk : k = 88 ∨ k = 90) : ∃ r, m_X7_begin k u = some (nI 0, q_st (q_up (q_up (q_up u k 1 (nI 0)) k 2 mI) k 3 mI) (k + 1) r) ∧ ∀ q, q < 5 → r q = nI 0 := by
  unfold m_X7_begin
  simp only [lit_n, mI_lit]
  rw [q_let_s, q_let_s, q_let_s]
  obtain ⟨r2, e, h⟩ := begin_it (K := fun u_5 => some (nI 0, u_5)) (u0 := q_up (q_up (q_up u k 1 (nI 0)) k 2 mI) k 3 mI) hk 5 0 q_F ((q_up (q_up (q_up u k 1 (nI 0)) k 2 mI) k 3 mI).1 (k + 1)) (by omega) (by rw [q_F_eq]; omega) (fun q hq => by omega)
  rw [q_st_self rfl] at e
  exact ⟨r2, e, h⟩
theorem pass_it {N : Nat} {c0 : Int32} (hN : N ≤ 60) : ∀ (n i f1 f2 : Nat) (u v : qS), i + n = N → n < f1 → n < f2 → ST tr k k2 u v → WK tr th tg k k2 u v → (v.1 164 0).toInt + n ≤ 20000 →
    ∃ u2 v2, (∀ K1 : qS → qR, q_it1 (m_X7_pass_L7 k k2 (nI N) K1) f1 (nI i) u = K1 u2) ∧ (∀ K2 : qS → qR, q_it1 (m_X11_goesFor_L2 (nI N) K2) f2 (nI i) v = K2 v2) ∧ WZ tr th tg k k2 u v (fun _ => True) u2 v2 ∧ (v2.1 164 0).toInt = (v.1 164 0).toInt + n
  | n, i, 0, f2, u, v, hi, hf1, hf2, hS, hW, hw => by omega
  | n, i, f1, 0, u, v, hi, hf1, hf2, hS, hW, hw => by omega
  | 0, i, f1 + 1, f2 + 1, u, v, hi, hf1, hf2, hS, hW, hw => by
    have c1 : (nI N).toInt ≤ (nI i).toInt := by rw [nI_t (by omega), nI_t (by omega)]; omega
    refine ⟨u, v, fun K1 => ?_, fun K2 => ?_, (WQ.rfl' hW).z, by omega⟩
    · show m_X7_pass_L7 _ _ _ _ _ _ _ = _
      unfold m_X7_pass_L7
      rw [if_pos c1]
    · show m_X11_goesFor_L2 _ _ _ _ _ = _
      unfold m_X11_goesFor_L2
      rw [if_pos c1]
  | n + 1, i, f1 + 1, f2 + 1, u, v, hi, hf1, hf2, hS, hW, hw => by
    have c1 : ¬ (nI N).toInt ≤ (nI i).toInt := by rw [nI_t (by omega), nI_t (by omega)]; omega
    obtain ⟨m, u2, v2, a1, a2, w1, -, h0, -⟩ := week_s (x3 := nI N) (x4 := nI i) hS hW (by omega) rfl c1
    obtain ⟨W, hW2, W1, W2⟩ := hW.2.1.week
    have h0' : (v2.1 164 0).toInt = (v.1 164 0).toInt + 1 := by rw [h0, W1, nI_add, nI_t (by omega), nI_t (by omega)]; omega
    obtain ⟨u3, v3, b1, b2, w2, h3⟩ := pass_it (c0 := c0) hN n (i + 1) f1 f2 u2 v2 (by omega) (by omega) (by omega) (w1.st hS) w1.2.2.1 (by omega)
    refine ⟨u3, v3, fun K1 => ?_, fun K2 => ?_, w1.trans w2 (fun _ _ => trivial), by omega⟩
    · rw [← b1 K1]
      show m_X7_pass_L7 _ _ _ _ (q_it1 (m_X7_pass_L7 k k2 (nI N) K1) f1) _ _ = _
      rw [a1, nI_add]
    · rw [← b2 K2]
      show m_X11_goesFor_L2 _ _ (q_it1 (m_X11_goesFor_L2 (nI N) K2) f2) _ _ = _
      generalize q_it1 (m_X11_goesFor_L2 (nI N) K2) f2 = self
      unfold m_X11_goesFor_L2
      rw [if_neg c1, a2, q_bd_s', lit_n, nI_add]
/-- weeks in thought, from a thought's beginning -/
theorem thought_s {N : Nat} {u v : qS} (hN : N ≤ 60) (hm : MD tr k k2) (hS : ST tr k k2 u v) (hC : RC k2 u.1 (v.1 164) (v.1 163)) (hB : BC (v.1 164) (v.1 163)) (hb : tr = true → ∀ i, i < 600 → u.1 32 i = v.1 167 i) (h44 : th = true → v.1 163 44 = mI ∧ v.1 163 45 = mI) (h42 : tg = true → v.1 163 42 = nI 0) (hw : (v.1 164 0).toInt + N ≤ 20000) :
    ∃ u2 v2, m_X7_pass k k2 (nI N) u = some (nI 0, u2) ∧ m_X11_goesFor (nI N) v = some (nI 0, v2) ∧ WZ tr th tg k k2 u v (fun _ => True) u2 v2 ∧ (v2.1 164 0).toInt = (v.1 164 0).toInt + N := by
  have hk := hm.k
  obtain ⟨r, e1, hr⟩ := begin_c (k := k) (u := u) (by omega)
  let u1 := q_st (q_up (q_up (q_up u k 1 (nI 0)) k 2 mI) k 3 mI) (k + 1) r
  have hu1 : ∀ c, c ≠ k → c ≠ k + 1 → u1.1 c = u.1 c := fun c h1 h2 => by
    show (q_st (q_up (q_up (q_up u k 1 (nI 0)) k 2 mI) k 3 mI) (k + 1) r).1 c = u.1 c
    simp only [q_st_g, q_up_1, if_neg h1, if_neg h2]
  have hk1 : u1.1 k = upd (upd (upd (u.1 k) 1 (nI 0)) 2 mI) 3 mI := by
    show (q_st (q_up (q_up (q_up u k 1 (nI 0)) k 2 mI) k 3 mI) (k + 1) r).1 k = _
    simp only [q_st_g, q_up_1, if_true, if_neg (show ¬ (k = k + 1) by omega)]
  have hr1 : u1.1 (k + 1) = r := by
    show (q_st _ (k + 1) r).1 (k + 1) = r
    rw [q_st_g, if_pos rfl]
  have fz : FZ k k2 tr u u1 := ⟨fun c h1 h2 h3 _ _ _ => hu1 c h2 h3, by rw [hk1]; rfl, rfl⟩
  have wk1 : WK tr th tg k k2 u1 v := by
    refine ⟨hC.fr (fun c a b => hu1 c (by omega) (by omega)), hB, ?_, fun h => ?_, fun h p hp _ => ?_⟩
    · rw [hu1 32 (by omega) (by omega)]; exact hb
    · rw [hk1, (h44 h).1, (h44 h).2]; exact ⟨rfl, rfl⟩
    · rw [hr1, hr p hp, h42 h]
  have S1 : ST tr k k2 u1 v := hS.mz fz FY.rfl'
  obtain ⟨u2, v2, a1, a2, w, h0⟩ := pass_it (c0 := nI 0) hN N 0 q_F q_F u1 v (by omega) (by rw [q_F_eq]; omega) (by rw [q_F_eq]; omega) S1 wk1 hw
  refine ⟨u2, v2, ?_, ?_, ⟨fz.trans w.1, w.2.1, w.2.2.1, fun j hj => absurd trivial hj⟩, h0⟩
  · unfold m_X7_pass
    rw [e1, q_bd_s']
    simp only [lit_n]
    exact a1 _
  · unfold m_X11_goesFor
    simp only [lit_n]
    exact a2 _
/-- one week in truth -/
theorem truth_s {u v : qS} (hm : MD tr k k2) (hS : ST tr k k2 u v) (hC : RC k2 u.1 (v.1 164) (v.1 163)) (hB : BC (v.1 164) (v.1 163)) (hb : tr = true → ∀ i, i < 600 → u.1 32 i = v.1 167 i) (hw : (v.1 164 0).toInt + 1 ≤ 20000) :
    ∃ n u2 v2, m_X7_pass k k2 (nI 1) u = some (nI 0, u2) ∧ m_X11_goesBy v = some (n, v2) ∧ WZ tr false false k k2 u v (fun _ => True) u2 v2 ∧ u2.1 k 1 = n ∧ v2.1 164 0 = v.1 164 0 + nI 1 := by
  have hk := hm.k
  obtain ⟨r, e1, hr⟩ := begin_c (k := k) (u := u) (by omega)
  let u1 := q_st (q_up (q_up (q_up u k 1 (nI 0)) k 2 mI) k 3 mI) (k + 1) r
  have hu1 : ∀ c, c ≠ k → c ≠ k + 1 → u1.1 c = u.1 c := fun c h1 h2 => by
    show (q_st (q_up (q_up (q_up u k 1 (nI 0)) k 2 mI) k 3 mI) (k + 1) r).1 c = u.1 c
    simp only [q_st_g, q_up_1, if_neg h1, if_neg h2]
  have hk1 : u1.1 k = upd (upd (upd (u.1 k) 1 (nI 0)) 2 mI) 3 mI := by
    show (q_st (q_up (q_up (q_up u k 1 (nI 0)) k 2 mI) k 3 mI) (k + 1) r).1 k = _
    simp only [q_st_g, q_up_1, if_true, if_neg (show ¬ (k = k + 1) by omega)]
  have fz : FZ k k2 tr u u1 := ⟨fun c h1 h2 h3 _ _ _ => hu1 c h2 h3, by rw [hk1]; rfl, rfl⟩
  have wk1 : WK tr false false k k2 u1 v := by
    refine ⟨hC.fr (fun c a b => hu1 c (by omega) (by omega)), hB, ?_, fun h => absurd h (by decide), fun h => absurd h (by decide)⟩
    rw [hu1 32 (by omega) (by omega)]; exact hb
  have S1 : ST tr k k2 u1 v := hS.mz fz FY.rfl'
  obtain ⟨n, u2, v2, a1, a2, w, hn, h0, -⟩ := week_s (x3 := nI 1) (x4 := nI 0) (c0 := nI 0) S1 wk1 hw (by rw [hk1]; rfl) (by decide)
  refine ⟨n, u2, v2, ?_, a2, ⟨fz.trans w.1, w.2.1, w.2.2.1, fun j hj => absurd trivial hj⟩, by rw [hn]; exact Int32.zero_add n, h0⟩
  unfold m_X7_pass
  rw [e1, q_bd_s']
  simp only [lit_n]
  have st1 : ∀ (K : qS → qR) (f : Nat), q_it1 (m_X7_pass_L7 k k2 (nI 1) K) (f + 1 + 1) (nI 0) u1 = K u2 := fun K f => by
    show m_X7_pass_L7 _ _ _ _ (q_it1 (m_X7_pass_L7 k k2 (nI 1) K) (f + 1)) _ _ = _
    rw [a1, nI_add]
    show m_X7_pass_L7 _ _ _ _ _ _ _ = _
    unfold m_X7_pass_L7
    rw [if_pos (by decide)]
  exact st1 _ 2998
end
