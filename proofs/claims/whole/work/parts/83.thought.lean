/-! LAYER 2: THE CALLS, 10: thoughts -/
theorem think_it {K : qS → qR} {y : qS} : ∀ (n i f : Nat) (r : Nat → Int32), i + n = 136 → n < f → q_it1 (m_X11_thinks_L2 K) f (nI i) (q_st y 166 (fun j => if j < i then y.1 164 j else r j)) = K (q_st y 166 (fun j => if j < 136 then y.1 164 j else r j))
  | n, i, 0, r, hi, hf => by omega
  | 0, i, f + 1, r, hi, hf => by
    have : i = 136 := by omega
    subst this
    show m_X11_thinks_L2 _ _ _ _ = _
    unfold m_X11_thinks_L2
    rw [lit_n, if_pos (by decide)]
  | n + 1, i, f + 1, r, hi, hf => by
    have ih := think_it (K := K) (y := y) n (i + 1) f r (by omega) (by omega)
    rw [← ih]
    show m_X11_thinks_L2 _ (q_it1 (m_X11_thinks_L2 K) f) _ _ = _
    generalize q_it1 (m_X11_thinks_L2 K) f = self
    unfold m_X11_thinks_L2
    have c1 : ¬ (nI 136).toInt ≤ (nI i).toInt := by rw [nI_t (by omega), nI_t (by omega)]; omega
    have a1 : q_ald (q_st y 166 (fun j => if j < i then y.1 164 j else r j)) 164 136 (nI i) = some (y.1 164 i) := by rw [ald_n (by omega) (by omega), q_st_g, if_neg (by omega)]
    have b1 : q_ast (q_st y 166 (fun j => if j < i then y.1 164 j else r j)) 166 136 (nI i) (y.1 164 i) = some (q_st y 166 (fun j => if j < i + 1 then y.1 164 j else r j)) := by
      rw [q_ast_ok (by omega) (by omega), q_st_st, q_st_g, if_pos rfl]
      congr 2
      funext j
      rw [upd_g]
      by_cases h : j = i
      · rw [if_pos h, if_pos (by omega), h]
      · rw [if_neg h]
        by_cases h2 : j < i
        · rw [if_pos h2, if_pos (by omega)]
        · rw [if_neg h2, if_neg (by omega)]
    simp only [lit_n, nI_add, if_neg c1, a1, Option.bind_some, b1]
theorem anew_it {K : qS → qR} {y : qS} : ∀ (n i f : Nat) (r : Nat → Int32), i + n = 136 → n < f → q_it1 (m_X11_thinksAnew_L2 K) f (nI i) (q_st y 164 (fun j => if j < i then y.1 166 j else r j)) = K (q_st y 164 (fun j => if j < 136 then y.1 166 j else r j))
  | n, i, 0, r, hi, hf => by omega
  | 0, i, f + 1, r, hi, hf => by
    have : i = 136 := by omega
    subst this
    show m_X11_thinksAnew_L2 _ _ _ _ = _
    unfold m_X11_thinksAnew_L2
    rw [lit_n, if_pos (by decide)]
  | n + 1, i, f + 1, r, hi, hf => by
    have ih := anew_it (K := K) (y := y) n (i + 1) f r (by omega) (by omega)
    rw [← ih]
    show m_X11_thinksAnew_L2 _ (q_it1 (m_X11_thinksAnew_L2 K) f) _ _ = _
    generalize q_it1 (m_X11_thinksAnew_L2 K) f = self
    unfold m_X11_thinksAnew_L2
    have c1 : ¬ (nI 136).toInt ≤ (nI i).toInt := by rw [nI_t (by omega), nI_t (by omega)]; omega
    have a1 : q_ald (q_st y 164 (fun j => if j < i then y.1 166 j else r j)) 166 136 (nI i) = some (y.1 166 i) := by rw [ald_n (by omega) (by omega), q_st_g, if_neg (by omega)]
    have b1 : q_ast (q_st y 164 (fun j => if j < i then y.1 166 j else r j)) 164 136 (nI i) (y.1 166 i) = some (q_st y 164 (fun j => if j < i + 1 then y.1 166 j else r j)) := by
      rw [q_ast_ok (by omega) (by omega), q_st_st, q_st_g, if_pos rfl]
      congr 2
      funext j
      rw [upd_g]
      by_cases h : j = i
      · rw [if_pos h, if_pos (by omega), h]
      · rw [if_neg h]
        by_cases h2 : j < i
        · rw [if_pos h2, if_pos (by omega)]
        · rw [if_neg h2, if_neg (by omega)]
    simp only [lit_n, nI_add, if_neg c1, a1, Option.bind_some, b1]
/-- in a thought -/
def TH (x0 y0 x y : qS) : Prop := (∀ c, c ≠ 17 → c ≠ 18 → (c < 90 ∨ 102 ≤ c) → x.1 c = x0.1 c) ∧ x.1 90 0 = x0.1 90 0 ∧ (∀ c, c ≠ 163 → c ≠ 164 → c ≠ 166 → (c < 180 ∨ 183 < c) → y.1 c = y0.1 c) ∧ (∀ j, j ≠ 5 → (j < 42 ∨ 45 < j) → y.1 163 j = y0.1 163 j) ∧ y.1 163 5 = nI 1 ∧ ∀ j, j < 136 → y.1 166 j = y0.1 164 j
theorem thinks_s {x y : qS} : ∃ y2, m_X11_thinks y = some (nI 0, y2) ∧ TH x y x y2 ∧ y2.1 164 = y.1 164 ∧ y2.1 163 42 = nI 0 ∧ y2.1 163 44 = mI ∧ y2.1 163 45 = mI := by
  unfold m_X11_thinks
  simp only [lit_n, mI_lit]
  have th := fun K => think_it (K := K) (y := y) 136 0 q_F (y.1 166) (by omega) (by rw [q_F_eq]; omega)
  simp only [Nat.not_lt_zero, if_false] at th
  have se : q_st y 166 (fun j => y.1 166 j) = y := q_st_self rfl
  rw [se] at th
  rw [th, bz_1, q_let_s, q_let_s, q_let_s, q_let_s]
  refine ⟨_, rfl, ⟨fun _ _ _ _ => rfl, rfl, fun c h1 h2 h3 h4 => ?_, fun j h1 h2 => ?_, rfl, fun j hj => ?_⟩, rfl, rfl, rfl, rfl⟩
  · rw [q_up_1, if_neg h1, q_up_1, if_neg h1, q_up_1, if_neg h1, q_up_1, if_neg h1, q_st_g, if_neg h3]
  · rw [q_up_1, if_pos rfl, upd_g, if_neg (by omega), q_up_1, if_pos rfl, upd_g, if_neg (by omega), q_up_1, if_pos rfl, upd_g, if_neg (by omega), q_up_1, if_pos rfl, upd_g, if_neg h1, q_st_g, if_neg (by omega)]
  · show (if j < 136 then y.1 164 j else y.1 166 j) = _
    rw [if_pos hj]
theorem TH.anew {x0 y0 x y : qS} (h : TH x0 y0 x y) : ∃ y2, m_X11_thinksAnew y = some (nI 0, y2) ∧ TH x0 y0 x y2 ∧ (∀ j, j < 136 → y2.1 164 j = y0.1 164 j) ∧ y2.1 163 = y.1 163 := by
  unfold m_X11_thinksAnew
  simp only [lit_n]
  have th := fun K => anew_it (K := K) (y := y) 136 0 q_F (y.1 164) (by omega) (by rw [q_F_eq]; omega)
  simp only [Nat.not_lt_zero, if_false] at th
  have se : q_st y 164 (fun j => y.1 164 j) = y := q_st_self rfl
  rw [se] at th
  rw [th]
  obtain ⟨h1, h2, h3, h4, h5, h6⟩ := h
  refine ⟨_, rfl, ⟨h1, h2, fun c a1 a2 a3 a4 => ?_, h4, h5, h6⟩, fun j hj => ?_, rfl⟩
  · rw [q_st_g, if_neg a2]; exact h3 c a1 a2 a3 a4
  · show (if j < 136 then y.1 166 j else y.1 164 j) = _
    rw [if_pos hj]; exact h6 j hj
theorem TH.ends {x0 y0 x y : qS} (h : TH x0 y0 x y) (hR : Rel x0 y0) : ∃ y2, m_X11_endsThought y = some (nI 0, y2) ∧ Rel x y2 := by
  obtain ⟨y1, e1, t1, r1, g1⟩ := h.anew
  unfold m_X11_endsThought
  simp only [lit_n]
  rw [e1, q_bd_s', bz_0, q_let_s]
  refine ⟨_, rfl, ?_⟩
  obtain ⟨h1, h2, h3, h4, h5, h6⟩ := t1
  have h05 : y0.1 163 5 = nI 0 := hR.2.2.2.1.2.2.1
  refine hR.th h1 h2 (fun j hj => r1 j hj) (fun c a1 a2 a3 a4 a5 => ?_) (fun j a1 a2 => ?_)
  · rw [q_up_1, if_neg a1]; exact h3 c a1 a2 a3 a4
  · rw [q_up_1, if_pos rfl, upd_g]
    by_cases e : j = 5
    · rw [if_pos e, e, h05]
    · rw [if_neg e]; exact h4 j e a2
theorem TH.step {x0 y0 x y x2 y2 : qS} {th tg : Bool} {S : Nat → Prop} (h : TH x0 y0 x y) (w : WZ false th tg 90 92 x y S x2 y2) : TH x0 y0 x2 y2 := by
  obtain ⟨h1, h2, h3, h4, h5, h6⟩ := h
  obtain ⟨⟨fx, fk, fu⟩, ⟨fy, fj, fv⟩, -, -⟩ := w
  refine ⟨fun c a1 a2 a3 => ?_, by rw [fk]; exact h2, fun c a1 a2 a3 a4 => ?_, fun j a1 a2 => ?_, ?_, fun j hj => ?_⟩
  · rw [fx c (by omega) (by omega) (by omega) a1 a2 (Or.inl rfl)]; exact h1 c a1 a2 a3
  · rw [fy c a1 a2 a4 (Or.inl rfl)]; exact h3 c a1 a2 a3 a4
  · rw [fj j (by omega) (by omega) (by omega)]; exact h4 j a1 a2
  · rw [fj 5 (by omega) (by omega) (by omega)]; exact h5
  · rw [fy 166 (by omega) (by omega) (by omega) (Or.inl rfl)]; exact h6 j hj
theorem TH.st {x0 y0 x y : qS} (h : TH x0 y0 x y) (hR : Rel x0 y0) : ST false 90 92 x y := by
  obtain ⟨h1, h2, h3, h4, h5, h6⟩ := h
  obtain ⟨⟨r1, r2, r3, r4, r5, r6, r7, r8, r9⟩, -, -, c4, -⟩ := hR
  have hg : ∀ j, j = 6 ∨ j = 7 ∨ j = 8 ∨ j = 9 ∨ j = 10 ∨ j = 11 → y.1 163 j = y0.1 163 j := fun j hj => h4 j (by omega) (by omega)
  refine ⟨Or.inr ⟨rfl, rfl, rfl⟩, r4.mv hg, ?_, ?_, ?_, ?_, h5⟩
  · exact r5.fr (fun c a b => h1 c (by omega) (by omega) (by omega)) (fun c a b => h3 c (by omega) (by omega) (by omega) (by omega))
  · exact r6.fr (fun c a b => h1 c (by omega) (by omega) (by omega)) (h3 178 (by omega) (by omega) (by omega) (by omega)) (h4 36 (by omega) (by omega))
  · exact r7.fr (fun c a b => h1 c (by omega) (by omega) (by omega)) (h3 179 (by omega) (by omega) (by omega) (by omega)) (h4 38 (by omega) (by omega)) (hg 6 (by omega)) (hg 7 (by omega))
  · rw [h2]; exact c4.2.1
theorem TH.copy {x0 y0 x y : qS} (h : TH x0 y0 x y) (hR : Rel x0 y0) (hr : ∀ j, j < 136 → y.1 164 j = y0.1 164 j) : ∃ x2, m_X0_copyFrom 92 2 x = some (nI 0, x2) ∧ TH x0 y0 x2 y ∧ RC 92 x2.1 (y.1 164) (y.1 163) ∧ BC (y.1 164) (y.1 163) ∧ x2.1 90 = x.1 90 ∧ x2.1 91 = x.1 91 := by
  obtain ⟨x2, c1, c2⟩ := copy_c (u := x) (k := 92) (k1 := 2) (by omega)
  obtain ⟨h1, h2, h3, h4, h5, h6⟩ := h
  have hg : ∀ j, j = 6 ∨ j = 7 ∨ j = 8 ∨ j = 9 ∨ j = 10 ∨ j = 11 → y.1 163 j = y0.1 163 j := fun j hj => h4 j (by omega) (by omega)
  refine ⟨x2, c1, ⟨fun c a1 a2 a3 => ?_, ?_, h3, h4, h5, h6⟩, ?_, (hR.B.rw hr).gr (hg 6 (by omega)) (hg 7 (by omega)), c2.1 90 (by omega), c2.1 91 (by omega)⟩
  · rw [c2.1 c (by omega)]; exact h1 c a1 a2 a3
  · rw [c2.1 90 (by omega)]; exact h2
  · exact hR.C.mv (fun o s ho hs => by rw [c2.2.1 o s ho hs, h1 (2 + o) (by omega) (by omega) (by omega)]) hr hg
theorem sim_falls (a : Int32) : SIM (m_X10_falls a) (m_X11_falls a) := fun x y h => by
  obtain ⟨P, hP1, hP, hP2⟩ := h.G.P
  have hx7 : x.1 2 7 = nI P := by rw [h.C.parties, hP]
  have p63 : (q_up y 163 0 (nI 0)).1 163 6 = nI P := hP
  unfold m_X10_falls m_X11_falls
  simp only [lit_n, mI_lit]
  rcases party_b a hx7 p63 hP1 with ⟨p, p1, p2, w1, w2⟩ | ⟨w1, w2⟩
  · subst p2
    have h' := h.told (v := nI 0)
    obtain ⟨x2, c1, c2⟩ := copy_c (u := x) (k := 92) (k1 := 2) (by omega)
    obtain ⟨s, ga, re, s1, s2, s3, s4⟩ := seat_s (k2 := 92) (u := x2) (v := q_up y 163 0 (nI 0)) (by omega) (c2.rc h'.C) h'.B h'.G p63 hP1
    obtain ⟨n, n1, n2, n3⟩ := s3 p p1
    have a1 : q_ald (q_st x2 (92 + 3) s) 95 5 (nI p) = some (nI n) := by rw [ald_n (by omega) (by omega), q_st_g, if_pos rfl, n2]
    have a2 : q_ald (q_st (q_st (q_up y 163 0 (nI 0)) 182 ga) 183 re) 182 5 (nI p) = some (nI n) := by rw [ald_n (by omega) (by omega), q_st_g, if_neg (by omega), q_st_g, if_pos rfl, n3]
    refine ⟨nI n, q_st x2 (92 + 3) s, q_st (q_st (q_up y 163 0 (nI 0)) 182 ga) 183 re, ?_, ?_, h'.th (fun c b1 b2 b3 => ?_) ?_ (fun _ _ => rfl) (fun c b1 b2 b3 b4 b5 => ?_) (fun _ _ _ => rfl)⟩
    · rw [w1, q_bd_s', if_neg (by decide), c1, q_bd_s', s1, q_bd_s', a1, Option.bind_some]
    · rw [q_let_s, w2, q_bd_s', if_neg (by decide), s2, q_bd_s', a2, Option.bind_some]
    · rw [q_st_g, if_neg (by omega)]; exact c2.1 c (by omega)
    · rw [q_st_g, if_neg (by omega), c2.1 90 (by omega)]
    · rw [q_st_g, if_neg (by omega), q_st_g, if_neg (by omega)]
  · refine ⟨mI, x, q_up y 163 0 (nI 0), ?_, ?_, h.told⟩
    · rw [w1, q_bd_s', if_pos (by decide)]
    · rw [q_let_s, w2, q_bd_s', if_pos (by decide)]
