/-! LAYER 2: fruit eaten -/
theorem i32_mid (x y z : Int32) : (x + (y + z)) - y = x + z := by
  rw [Int32.add_comm y z, ← Int32.add_assoc, Int32.add_sub_cancel]
section
variable {tr th tg : Bool} {k k2 : Nat} {u v : qS}
theorem count_s {p n P : Nat} (hS : ST tr k k2 u v) (hW : WK tr th tg k k2 u v) (hP : v.1 163 6 = nI P) (hP5 : P ≤ 5) (hp : p < P) (hn : n ≤ 100000) :
    ∃ u2 v2, m_X7_count k k2 (nI p) (nI n) u = some (nI 0, u2) ∧ m_X11_counts (nI p) (nI n) v = some (nI 0, v2) ∧ WQ tr th tg k k2 u v (fun j => j = 5 + p) u2 v2 := by
  have hk := hS.1.k
  obtain ⟨V, hV, V1, V2⟩ := hW.2.1.votes (p := p) (by omega)
  have e9 : nI 9999 - nI V = nI (9999 - V) := nI_sub (by omega)
  have em : q_min (nI n) (nI (9999 - V)) = nI (min n (9999 - V)) := q_min_n (by omega) (by omega)
  have hmin : V + min n (9999 - V) = min 9999 (V + n) := by omega
  have w1 := WQ.votes (p := p) (x := min 9999 (V + n)) hW hS hP hP5 hp (by omega)
  have x2 : q_ald u (k2 + 2) 5 (nI p) = some (nI V) := by rw [ald_n (by omega) (by omega), hW.1.votes (by omega), V1]
  have y2 : ∀ x, q_ast u (k2 + 2) 5 (nI p) x = some (q_up u (k2 + 2) p x) := fun x => ast_n (by omega) (by omega)
  have x3 : ∀ x, q_ald (q_up u (k2 + 2) p x) (k + 1) 5 (nI p) = some (u.1 (k + 1) p) := fun x => by rw [ald_n (by omega) (by omega), q_up_1, if_neg (by omega)]
  have y3 : ∀ (w : qS) x, q_ast w (k + 1) 5 (nI p) x = some (q_up w (k + 1) p x) := fun w x => ast_n (by omega) (by omega)
  have z1 : q_ald v 164 136 (nI (5 + p)) = some (nI V) := by rw [ald_n (by omega) (by omega), V1]
  have z2 : m_X11_held (nI (V + n)) (nI 0) (nI 9999) v = some (nI (min 9999 (V + n)), v) := by rw [held_eq (by omega), hd_n (by omega) (by omega)]
  have z3 : ∀ x, q_ast v 164 136 (nI (5 + p)) x = some (q_up v 164 (5 + p) x) := fun x => ast_n (by omega) (by omega)
  have z4 : ∀ x, q_ald (q_up v 164 (5 + p) x) 164 136 (nI (5 + p)) = some x := fun x => by rw [ald_n (by omega) (by omega), q_up_1, if_pos rfl, upd_g, if_pos rfl]
  have ec : m_X7_count k k2 (nI p) (nI n) u = some (nI 0, q_up (q_up u (k2 + 2) p (nI (min 9999 (V + n)))) (k + 1) p (u.1 (k + 1) p + nI (min n (9999 - V)))) := by
    unfold m_X7_count
    simp only [lit_n, x2, Option.bind_some, q_let, e9, em, nI_add, hmin, y2, x3, y3]
  have hx : FX k k2 tr (q_up u (k2 + 2) p (nI (min 9999 (V + n)))) (q_up (q_up u (k2 + 2) p (nI (min 9999 (V + n)))) (k + 1) p (u.1 (k + 1) p + nI (min n (9999 - V)))) := FX.st FX.rfl' (by omega) (by omega)
  obtain ⟨h1, h2, h3, h4, h5⟩ := w1.2.2.1
  have g43 : (q_up v 164 (5 + p) (nI (min 9999 (V + n)))).1 163 43 = v.1 163 43 := rfl
  by_cases hg : (nI p).toInt = (v.1 163 43).toInt
  · have hg' : v.1 163 43 = nI p := i32_eq hg.symm
    refine ⟨_, q_up (q_up v 164 (5 + p) (nI (min 9999 (V + n)))) 163 42 ((v.1 163 42 + nI (min 9999 (V + n))) - nI V), ec, ?_, w1.1.trans hx, w1.2.1.trans (FY.upk FY.rfl' (by omega)), ⟨?_, ?_, ?_, ?_, ?_⟩, fun j hj => ?_⟩
    · unfold m_X11_counts
      simp only [lit_n, nI_add, z1, Option.bind_some, z2, q_bd_some, z3, g43, if_pos hg, z4, q_let]
      rfl
    · exact (h1.fr (fun c a b => by rw [q_up_1, if_neg (by omega)])).gr rfl rfl rfl rfl rfl rfl
    · exact h2
    · intro ht i hi; rw [q_up_1, if_neg (by omega)]; exact h3 ht i hi
    · intro ht; rw [q_up_1, if_neg (by omega)]; exact h4 ht
    · intro ht q hq hq2
      have hq2' : v.1 163 43 = nI q := hq2
      have : q = p := nI_inj (by omega) (by omega) (hq2'.symm.trans hg')
      subst this
      rw [q_up_1, if_pos rfl, upd_g, if_pos rfl]
      show _ = (v.1 163 42 + nI (min 9999 (V + n))) - nI V
      rw [← hmin, ← nI_add, i32_mid, ← hW.2.2.2.2 ht q hq hg']
    · rw [q_up_1, if_neg (by omega)]; exact w1.2.2.2 j hj
  · refine ⟨_, q_up v 164 (5 + p) (nI (min 9999 (V + n))), ec, ?_, w1.1.trans hx, w1.2.1, ⟨?_, h2, ?_, ?_, ?_⟩, w1.2.2.2⟩
    · unfold m_X11_counts
      simp only [lit_n, nI_add, z1, Option.bind_some, z2, q_bd_some, z3, g43, if_neg hg]
    · exact h1.fr (fun c a b => by rw [q_up_1, if_neg (by omega)])
    · intro ht i hi; rw [q_up_1, if_neg (by omega)]; exact h3 ht i hi
    · intro ht; rw [q_up_1, if_neg (by omega)]; exact h4 ht
    · intro ht q hq hq2
      have hq2' : v.1 163 43 = nI q := hq2
      have : q ≠ p := fun e => hg (by rw [hq2', e])
      rw [q_up_1, if_pos rfl, upd_g, if_neg this]
      exact h5 ht q hq hq2
theorem countF_nh {X Z : qX} {f f2 : Nat → Int32} {e p t : Nat} (hR : RLw 12 X Z) (h6 : X 12 6 = nI 0) (hp : p < 5) (ht : t < 14) (hf : ∀ j, j ≠ 1 → j ≠ 5 + p → j ≠ 62 + t → f2 j = f j) : countF X f2 e p t = countF X f e p t := by
  unfold countF
  rw [hf 0 (by omega) (by omega) (by omega), hf (34 + t) (by omega) (by omega) (by omega), hf (48 + t) (by omega) (by omega) (by omega), hf (76 + e) (by omega) (by omega) (by omega), hf (86 + (5 * e + p)) (by omega) (by omega) (by omega), hf (10 + p) (by omega) (by omega) (by omega)]
  rw [tF_nh hR h6 (fun j hj => ?_)]
  unfold aF
  by_cases h0 : j = 0
  · rw [if_pos h0, if_pos h0]
  by_cases h1 : j = 1
  · rw [if_neg h0, if_pos h1, if_neg h0, if_pos h1]
  by_cases h2 : j = 2
  · rw [if_neg h0, if_neg h1, if_pos h2, if_neg h0, if_neg h1, if_pos h2]
  by_cases h3 : j = 3
  · rw [if_neg h0, if_neg h1, if_neg h2, if_pos h3, if_neg h0, if_neg h1, if_neg h2, if_pos h3]
  rw [if_neg h0, if_neg h1, if_neg h2, if_neg h3, if_neg hj, if_neg h0, if_neg h1, if_neg h2, if_neg h3, if_neg hj]
theorem countF_X {X Y : qX} {f : Nat → Int32} {e p t : Nat} (h : ∀ c, 12 ≤ c → c < 17 → Y c = X c) : countF Y f e p t = countF X f e p t := by
  unfold countF; rw [tF_X h]
theorem countF_n {X : qX} {f : Nat → Int32} {e p t : Nat} : ∃ w : Nat, w ≤ 9 ∧ countF X f e p t = nI w := by
  have hr := hd_rng (m := 9) (r := tF X 12 (aF (q_rm (f 0) (nI 52)) (nI p) (f (34 + t)) (f (48 + t)) (f (62 + t)) (f (76 + e)) (f (86 + (5 * e + p)) + nI 5) (nI 0) (f (10 + p))) (nI 2) (nI 1)) (by omega)
  obtain ⟨w, h1, h2, -⟩ := nI_ex (b := 9) hr.1 hr.2 (by omega)
  exact ⟨w, h1, h2⟩
/-- what follows in the reference behind a bad fruit -/
def badR (e p : Int32) (K : qS → qR) (v : qS) : qR :=
  q_bd (m_X11_tasteOf e p v) fun r z => q_bd (m_X11_tasteBe e p (r - nI 2) z) fun _ z => q_bd (m_X11_notes (nI 4) e p z) fun _ z => K z
/-- one fruit -/
theorem one_s {e p t m s P E T : Nat} {x4 x7 worth : Int32} {K147 : qS → qR} {K189 : Int32 → qS → qR} {self : Int32 → Int32 → Int32 → qS → qR} (hS : ST tr k k2 u v) (hW : WK tr th tg k k2 u v) (hP : v.1 163 6 = nI P) (hP5 : P ≤ 5) (hE : v.1 163 7 = nI E) (hE1 : E ≤ 10) (he : e < E) (hp : p < P) (hT4 : T ≤ 14) (ht : t < T) (hpt : v.1 164 (20 + t) = nI p) (hm : v.1 164 (62 + t) = nI (m + 1)) (hm9 : m < 99) (hs : s < 100)
    (hw : worth = mI ∨ (∃ w : Nat, w ≤ 9 ∧ worth = nI w ∧ (u.1 12 6 = nI 0 → worth = countF u.1 (v.1 164) e p t))) :
    ∃ u2 v2, WQ tr th tg k k2 u v (fun j => j = 1 ∨ j = 5 + p ∨ j = 62 + t) u2 v2 ∧ v2.1 164 (62 + t) = nI m ∧
      ((m_X7_pick_L58 k k2 (nI e) x4 x7 (nI t) (nI p) K147 K189 self (nI (s + 1)) worth (nI (m + 1)) u = self (nI s) (countF u.1 (v.1 164) e p t) (nI m) u2 ∧ m_X11_isGood (nI e) (nI t) v = some (nI 1, v2)) ∨
       (m_X7_pick_L58 k k2 (nI e) x4 x7 (nI t) (nI p) K147 K189 self (nI (s + 1)) worth (nI (m + 1)) u = K147 u2 ∧ m_X11_isGood (nI e) (nI t) v = badR (nI e) (nI p) (fun z => some (nI 0, z)) v2)) := by
  have hk := hS.1.k
  obtain ⟨w, hw9, hwF⟩ := countF_n (X := u.1) (f := v.1 164) (e := e) (p := p) (t := t)
  obtain ⟨s1, a1, e1⟩ := count_c (u := u) (t := t) hS.1.k2 hW.1 hS.2.2.1 hP hP5 hE hE1 he hp (by omega)
  obtain ⟨s2, a2, e2⟩ := count_r (v := v) (e := e) (p := p) (t := t) hS.2.2.1 (by omega) (by omega) (by omega)
  rw [hwF] at e1 e2 hw ⊢
  -- the class, up to the counting
  have hcl : ∃ u1, WQ tr th tg k k2 u v (fun j => j = 62 + t) u1 (sr v s2 a2) ∧ m_X7_pick_L58 k k2 (nI e) x4 x7 (nI t) (nI p) K147 K189 self (nI (s + 1)) worth (nI (m + 1)) u =
      (q_bd (m_X7_count k k2 (nI p) (nI w) u1) fun _ u_5 =>
        Option.bind (q_ald u_5 (k2 + 7) 14 (nI t)) fun a =>
        Option.bind (q_ast u_5 (k2 + 7) 14 (nI t) (a - nI 1)) fun u_6 =>
        if (u_6.1 k 0).toInt = 0 then self (nI s) (nI w) (nI m) u_6 else if (u_6.1 k2 2).toInt ≤ 0 then self (nI s) (nI w) (nI m) u_6 else
            q_bd (m_X0_drawOfThousand k2 u_6) fun r u_8 =>
            if (u_8.1 k2 2).toInt ≤ r.toInt then self (nI s) (nI w) (nI m) u_8 else K147 u_8) := by
    have c1 : ¬ (nI (m + 1)).toInt ≤ 0 := by rw [nI_t (by omega)]; omega
    have c2 : ¬ (nI (s + 1)).toInt ≤ 0 := by rw [nI_t (by omega)]; omega
    rcases hw with hw | ⟨w0, hw0, hw1, hw2⟩
    · refine ⟨sc u s1 a1, ⟨FX.rfl'.sc hS.1, FY.rfl'.sr, (hW.sc hS.1).sr, fun j _ => rfl⟩, ?_⟩
      unfold m_X7_pick_L58
      have c3 : worth.toInt = mI.toInt := by rw [hw]
      simp only [lit_n, mI_lit, if_neg c1, if_neg c2, q_jn, if_pos c3, e1, q_bd_some, nI_m]
    · by_cases h6 : u.1 12 6 = nI 0
      · have hw3 := hw2 h6
        refine ⟨u, ⟨FX.rfl', FY.rfl'.sr, hW.sr, fun j _ => rfl⟩, ?_⟩
        rw [hw3]
        unfold m_X7_pick_L58
        have c3 : ¬ (nI w).toInt = mI.toInt := by rw [nI_t (by omega), mI_t]; omega
        have c4 : (u.1 12 6).toInt = 0 := by rw [h6]; rfl
        simp only [lit_n, mI_lit, if_neg c1, if_neg c2, q_jn, if_neg c3, if_pos c4, nI_m]
      · refine ⟨sc u s1 a1, ⟨FX.rfl'.sc hS.1, FY.rfl'.sr, (hW.sc hS.1).sr, fun j _ => rfl⟩, ?_⟩
        unfold m_X7_pick_L58
        have c3 : ¬ worth.toInt = mI.toInt := by rw [hw1, nI_t (by omega), mI_t]; omega
        have c4 : ¬ (u.1 12 6).toInt = 0 := fun h => h6 (i0 h)
        simp only [lit_n, mI_lit, if_neg c1, if_neg c2, q_jn, if_neg c3, if_neg c4, e1, q_bd_some, nI_m]
  obtain ⟨u1, w1, ec⟩ := hcl
  obtain ⟨u3, v3, g1, g2, w2⟩ := count_s (w1.st hS) w1.2.2.1 hP hP5 hp (n := w) (by omega)
  have w3 := w1.trans w2 (S3 := fun j => j = 5 + p ∨ j = 62 + t) (by omega)
  have hm3 : v3.1 164 (62 + t) = nI (m + 1) := by rw [w2.2.2.2 _ (by omega)]; exact hm
  have w4 := WQ.hang (t := t) (x := m) w3.2.2.1 (w3.st hS) (by omega) (by omega)
  have w5 := w3.trans w4 (S3 := fun j => j = 1 ∨ j = 5 + p ∨ j = 62 + t) (by omega)
  have x7' : q_ald u3 (k2 + 7) 14 (nI t) = some (nI (m + 1)) := by rw [ald_n (by omega) (by omega), w3.2.2.1.1.hang (by omega), hm3]
  have y7' : q_ald v3 164 136 (nI (62 + t)) = some (nI (m + 1)) := by rw [ald_n (by omega) (by omega), hm3]
  have em : nI (m + 1) - nI 1 = nI m := nI_sub (by omega)
  have x8' : q_ast u3 (k2 + 7) 14 (nI t) (nI m) = some (q_up u3 (k2 + 7) t (nI m)) := ast_n (by omega) (by omega)
  have y8' : q_ast v3 164 136 (nI (62 + t)) (nI m) = some (q_up v3 164 (62 + t) (nI m)) := ast_n (by omega) (by omega)
  have hhm : (q_up v3 164 (62 + t) (nI m)).1 164 (62 + t) = nI m := by rw [q_up_1, if_pos rfl, upd_g, if_pos rfl]
  have y20 : q_ald v 164 136 (nI (20 + t)) = some (nI p) := by rw [ald_n (by omega) (by omega), hpt]
  have S5 := w5.st hS
  have b0 : (q_up u3 (k2 + 7) t (nI m)).1 k 0 = (if tr then nI 1 else nI 0) := S5.2.2.2.2.2.1
  have b5 : (q_up v3 164 (62 + t) (nI m)).1 163 5 = (if tr then nI 0 else nI 1) := S5.2.2.2.2.2.2
  have b8 : (q_up v3 164 (62 + t) (nI m)).1 163 8 = v.1 163 8 := w5.2.1.2.1 8 (by omega) (by omega) (by omega)
  have b2 : (q_up u3 (k2 + 7) t (nI m)).1 k2 2 = v.1 163 8 := by rw [w5.2.2.1.1.bad]; exact b8
  have hbad := hS.2.1.2.2.1
  have er : m_X11_isGood (nI e) (nI t) v = (if (if tr then nI 0 else nI 1).toInt = 0 then
    if (v.1 163 8).toInt = 0 then
      some (nI 1, (q_up v3 164 (62 + t) (nI m)))
    else
      q_bd (m_X11_draw (nI 1000) (q_up v3 164 (62 + t) (nI m))) fun r_5 u_6 =>
      if r_5.toInt < (u_6.1 163 8).toInt then
        q_bd (m_X11_tasteOf (nI e) (nI p) u_6) fun r_7 u_8 =>
        q_bd (m_X11_tasteBe (nI e) (nI p) (r_7 - nI 2) u_8) fun _ u_9 =>
        q_bd (m_X11_notes (nI 4) (nI e) (nI p) u_9) fun _ u_10 =>
        some (nI 0, u_10)
      else
        some (nI 1, u_6)
  else
    some (nI 1, (q_up v3 164 (62 + t) (nI m)))) := by
    unfold m_X11_isGood
    simp only [lit_n, nI_add, y20, Option.bind_some, e2, q_bd_some, g2, y7', em, y8', b5, b8]
  simp only [g1, q_bd_some, x7', Option.bind_some, em, x8', b0, b2] at ec
  cases tr with
  | false =>
    refine ⟨_, _, w5, hhm, Or.inl ⟨?_, ?_⟩⟩
    · rw [ec, if_pos (by decide)]
    · rw [er, if_neg (by decide)]
  | true =>
    rw [if_neg (by decide)] at ec
    rw [if_pos (by decide)] at er
    by_cases hb0 : (v.1 163 8).toInt = 0
    · refine ⟨_, _, w5, hhm, Or.inl ⟨?_, ?_⟩⟩
      · rw [ec, if_pos (by omega)]
      · rw [er, if_pos hb0]
    · rw [if_neg (by omega)] at ec
      rw [if_neg hb0] at er
      obtain ⟨r, x, d1, d2⟩ := draw_s (k2 := k2) (u := q_up u3 (k2 + 7) t (nI m)) (v := q_up v3 164 (62 + t) (nI m)) w5.2.2.1.1.state
      have w6 := WQ.state (x := x) w5.2.2.1 S5
      have w7 := w5.trans w6 (S3 := fun j => j = 1 ∨ j = 5 + p ∨ j = 62 + t) (by omega)
      have hh7 : (q_up (q_up v3 164 (62 + t) (nI m)) 164 1 x).1 164 (62 + t) = nI m := by rw [w6.2.2.2 _ (by omega)]; exact hhm
      have c8 : (q_up (q_up v3 164 (62 + t) (nI m)) 164 1 x).1 163 8 = v.1 163 8 := w7.2.1.2.1 8 (by omega) (by omega) (by omega)
      have c2 : (q_up (q_up u3 (k2 + 7) t (nI m)) k2 1 x).1 k2 2 = v.1 163 8 := by rw [w7.2.2.1.1.bad]; exact c8
      simp only [d1, q_bd_some, c2] at ec
      simp only [d2, q_bd_some, c8] at er
      by_cases hr : r.toInt < (v.1 163 8).toInt
      · refine ⟨_, _, w7, hh7, Or.inr ⟨?_, ?_⟩⟩
        · rw [ec, if_neg (by omega)]
        · rw [er, if_pos hr]; rfl
      · refine ⟨_, _, w7, hh7, Or.inl ⟨?_, ?_⟩⟩
        · rw [ec, if_pos (by omega)]
        · rw [er, if_neg hr]
end
