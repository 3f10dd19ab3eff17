/-! LAYER 2: fruit eaten at a place -/
def ct (p : Nat → Bool) : Nat → Nat
  | 0 => 0
  | n + 1 => ct p n + (if p n = true then 1 else 0)
theorem ct_le (p : Nat → Bool) : ∀ n, ct p n ≤ n
  | 0 => Nat.le_refl _
  | n + 1 => by unfold ct; have := ct_le p n; split <;> omega
theorem ct_0 {p : Nat → Bool} : ∀ {n : Nat}, ct p n = 0 → ∀ t, t < n → p t = false
  | 0, _, t, ht => by omega
  | n + 1, h, t, ht => by
    unfold ct at h
    by_cases hp : p n = true
    · rw [if_pos hp] at h; omega
    · rw [if_neg hp] at h
      by_cases e : t = n
      · rw [e]; exact Bool.eq_false_iff.mpr hp
      · exact ct_0 (by omega) t (by omega)
theorem ct_m {p q : Nat → Bool} : ∀ {n : Nat}, (∀ t, t < n → q t = true → p t = true) → ct q n ≤ ct p n
  | 0, _ => Nat.le_refl _
  | n + 1, h => by
    unfold ct
    have := ct_m (n := n) (fun t ht => h t (by omega))
    by_cases hq : q n = true
    · rw [if_pos hq, if_pos (h n (by omega) hq)]; omega
    · rw [if_neg hq]; split <;> omega
theorem ct_d {p q : Nat → Bool} {t : Nat} : ∀ {n : Nat}, t < n → p t = true → q t = false → (∀ s, s < n → q s = true → p s = true) → ct q n + 1 ≤ ct p n
  | 0, ht, _, _, _ => by omega
  | n + 1, ht, hp, hq, h => by
    unfold ct
    by_cases e : t = n
    · subst e
      rw [if_pos hp, if_neg (by rw [hq]; decide)]
      have := ct_m (n := t) (fun s hs => h s (by omega))
      omega
    · have := ct_d (n := n) (by omega) hp hq (fun s hs => h s (by omega))
      by_cases hqn : q n = true
      · rw [if_pos hqn, if_pos (h n (by omega) hqn)]; omega
      · rw [if_neg hqn]; split <;> omega
def hg (f : Nat → Int32) (t : Nat) : Bool := decide (0 < (f (62 + t)).toInt)
section
variable {tr th tg : Bool} {k k2 : Nat}
theorem pick_in {e p t pl P E T : Nat} {x4 x5 x7 : Int32} {K147 K81 : qS → qR} {K189 K95 : Int32 → qS → qR} (hP5 : P ≤ 5) (hE1 : E ≤ 10) (he : e < E) (hp : p < P) (hpl : pl < 10) (hT4 : T ≤ 14) (ht : t < T) :
    ∀ (m s f1 f2 : Nat) (u v : qS) (worth : Int32), ST tr k k2 u v → WK tr th tg k k2 u v → v.1 164 4 = nI T → v.1 163 6 = nI P → v.1 163 7 = nI E → v.1 164 (20 + t) = nI p → v.1 164 (62 + t) = nI m → m ≤ 99 → s < 100 → m < f1 → s < f2 → (0 < m → bT (v.1 164) e pl T = some t) →
      (worth = mI ∨ (∃ w : Nat, w ≤ 9 ∧ worth = nI w ∧ (u.1 12 6 = nI 0 → worth = countF u.1 (v.1 164) e p t))) →
      (∃ u2 v2, q_it3 (m_X7_pick_L58 k k2 (nI e) (nI pl) x7 (nI t) (nI p) K147 K189) f1 (nI s) worth (nI m) u = K147 u2 ∧ q_it2 (m_X11_leftByPath_L57 (nI e) x4 x5 (nI pl) K81 K95) f2 (nI s) (enc (bT (v.1 164) e pl T)) v = badR (nI e) (nI p) K81 v2 ∧ WQ tr th tg k k2 u v (fun j => j = 1 ∨ j = 5 + p ∨ j = 62 + t) u2 v2) ∨
      (∃ (s2 g2 : Nat) (u2 v2 : qS), s2 ≤ s ∧ s2 < g2 ∧ q_it3 (m_X7_pick_L58 k k2 (nI e) (nI pl) x7 (nI t) (nI p) K147 K189) f1 (nI s) worth (nI m) u = K189 (nI s2) u2 ∧ q_it2 (m_X11_leftByPath_L57 (nI e) x4 x5 (nI pl) K81 K95) f2 (nI s) (enc (bT (v.1 164) e pl T)) v = q_it2 (m_X11_leftByPath_L57 (nI e) x4 x5 (nI pl) K81 K95) g2 (nI s2) (enc (bT (v2.1 164) e pl T)) v2 ∧ WQ tr th tg k k2 u v (fun j => j = 1 ∨ j = 5 + p ∨ j = 62 + t) u2 v2 ∧ (s2 = 0 ∨ v2.1 164 (62 + t) = nI 0))
  | m, s, 0, f2, u, v, worth, hS, hW, hT, hP, hE, hpt, hm, hm9, hs, hf1, hf2, hb, hw => by omega
  | m, s, f1, 0, u, v, worth, hS, hW, hT, hP, hE, hpt, hm, hm9, hs, hf1, hf2, hb, hw => by omega
  | 0, s, f1 + 1, f2 + 1, u, v, worth, hS, hW, hT, hP, hE, hpt, hm, hm9, hs, hf1, hf2, hb, hw => by
    refine Or.inr ⟨s, f2 + 1, u, v, Nat.le_refl _, by omega, ?_, rfl, WQ.rfl' hW, Or.inr hm⟩
    show m_X7_pick_L58 _ _ _ _ _ _ _ _ _ _ _ _ _ _ = _
    unfold m_X7_pick_L58
    rw [if_pos (by decide)]
  | m + 1, 0, f1 + 1, f2 + 1, u, v, worth, hS, hW, hT, hP, hE, hpt, hm, hm9, hs, hf1, hf2, hb, hw => by
    refine Or.inr ⟨0, f2 + 1, u, v, Nat.le_refl _, by omega, ?_, rfl, WQ.rfl' hW, Or.inl rfl⟩
    show m_X7_pick_L58 _ _ _ _ _ _ _ _ _ _ _ _ _ _ = _
    unfold m_X7_pick_L58
    rw [if_neg (by rw [nI_t (by omega)]; omega), if_pos (by decide)]
  | m + 1, s + 1, f1 + 1, f2 + 1, u, v, worth, hS, hW, hT, hP, hE, hpt, hm, hm9, hs, hf1, hf2, hb, hw => by
    obtain ⟨u2, v2, w1, hm2, hor⟩ := one_s (s := s) (x4 := nI pl) (x7 := x7) (K147 := K147) (K189 := K189) (self := q_it3 (m_X7_pick_L58 k k2 (nI e) (nI pl) x7 (nI t) (nI p) K147 K189) f1) hS hW hP hP5 hE hE1 he hp hT4 ht hpt hm (by omega) (by omega) hw
    have hb1 := hb (by omega)
    have S2 := w1.st hS
    have P2 : v2.1 163 6 = nI P := by rw [w1.2.1.2.1 6 (by omega) (by omega) (by omega)]; exact hP
    have E2 : v2.1 163 7 = nI E := by rw [w1.2.1.2.1 7 (by omega) (by omega) (by omega)]; exact hE
    have T2 : v2.1 164 4 = nI T := by rw [w1.2.2.2 4 (by omega)]; exact hT
    have c1 : ¬ (nI (s + 1)).toInt ≤ 0 := by rw [nI_t (by omega)]; omega
    have c2 : ¬ (nI t).toInt = mI.toInt := by rw [nI_t (by omega), mI_t]; omega
    have e1 : nI (s + 1) - nI 1 = nI s := nI_sub (by omega)
    have t2 := tree_r (v := v2) (e := e) (pl := pl) w1.2.2.1.2.1 T2 hT4 P2 hP5 hE1 he
    rcases hor with ⟨g1, g2⟩ | ⟨g1, g2⟩
    · have hx : ∀ c, 12 ≤ c → c < 17 → u2.1 c = u.1 c := fun c a b => w1.1.1 c (by have := hS.1.k; omega) (by have := hS.1.k; omega) (by have := hS.1.k; omega) (by omega) (by omega) (Or.inr (by omega))
      have hwn : ∃ w : Nat, w ≤ 9 ∧ countF u.1 (v.1 164) e p t = nI w ∧ (u2.1 12 6 = nI 0 → countF u.1 (v.1 164) e p t = countF u2.1 (v2.1 164) e p t) := by
        obtain ⟨w, a, b⟩ := countF_n (X := u.1) (f := v.1 164) (e := e) (p := p) (t := t)
        refine ⟨w, a, b, fun h6 => ?_⟩
        rw [hx 12 (by omega) (by omega)] at h6
        rw [countF_X hx, countF_nh (f2 := v2.1 164) (f := v.1 164) hS.2.2.1 h6 (by omega) (by omega) (fun j h1 h2 h3 => w1.2.2.2 j (by omega))]
      have hb2 : 0 < m → bT (v2.1 164) e pl T = some t := fun hm0 => by
        rw [← hb1]
        unfold bT
        refine bst_cong _ _ _ (fun q hq => ?_) (fun q hq => by cases hq)
        have hp20 : v2.1 164 (20 + q) = v.1 164 (20 + q) := w1.2.2.2 _ (by omega)
        obtain ⟨pq, hpq, -, pq2⟩ := hW.2.1.tparty hT hP hP5 hT4 (t := q) (by omega)
        have hpq' : (v.1 164 (20 + q)).toInt.toNat = pq := by rw [pq2]; rfl
        have htT : tT (v2.1 164) e q = tT (v.1 164) e q := by
          unfold tT; rw [hp20, hpq', w1.2.2.2 _ (by omega)]
        refine ⟨?_, by rw [htT]⟩
        unfold cd
        rw [htT, w1.2.2.2 (34 + q) (by omega)]
        by_cases hqt : q = t
        · rw [hqt, hm2, hm]
          have a1 : 0 < (nI m).toInt := by rw [nI_t (by omega)]; omega
          have a2 : 0 < (nI (m + 1)).toInt := by rw [nI_t (by omega)]; omega
          simp only [a1, a2]
        · rw [w1.2.2.2 (62 + q) (by omega)]
      have g1' : q_it3 (m_X7_pick_L58 k k2 (nI e) (nI pl) x7 (nI t) (nI p) K147 K189) (f1 + 1) (nI (s + 1)) worth (nI (m + 1)) u = q_it3 (m_X7_pick_L58 k k2 (nI e) (nI pl) x7 (nI t) (nI p) K147 K189) f1 (nI s) (countF u.1 (v.1 164) e p t) (nI m) u2 := g1
      have g2' : q_it2 (m_X11_leftByPath_L57 (nI e) x4 x5 (nI pl) K81 K95) (f2 + 1) (nI (s + 1)) (enc (bT (v.1 164) e pl T)) v = q_it2 (m_X11_leftByPath_L57 (nI e) x4 x5 (nI pl) K81 K95) f2 (nI s) (enc (bT (v2.1 164) e pl T)) v2 := by
        rw [hb1]
        show m_X11_leftByPath_L57 _ _ _ _ _ _ (q_it2 (m_X11_leftByPath_L57 (nI e) x4 x5 (nI pl) K81 K95) f2) _ (nI t) _ = _
        generalize q_it2 (m_X11_leftByPath_L57 (nI e) x4 x5 (nI pl) K81 K95) f2 = self
        unfold m_X11_leftByPath_L57
        have c3 : ¬ (nI 1).toInt = 0 := by decide
        simp only [lit_n, mI_lit, if_neg c1, if_neg c2, q_let, e1, g2, q_bd_some, if_neg c3, t2]
      rcases pick_in hP5 hE1 he hp hpl hT4 ht m s f1 f2 u2 v2 (countF u.1 (v.1 164) e p t) S2 w1.2.2.1 T2 P2 E2 (by rw [w1.2.2.2 _ (by omega)]; exact hpt) hm2 (by omega) (by omega) (by omega) (by omega) hb2 (Or.inr hwn) with ⟨u3, v3, a1, a2, a3⟩ | ⟨s3, g3, u3, v3, a0, a0', a1, a2, a3, a4⟩
      · exact Or.inl ⟨u3, v3, g1'.trans a1, g2'.trans a2, w1.trans a3 (by omega)⟩
      · exact Or.inr ⟨s3, g3, u3, v3, by omega, a0', g1'.trans a1, g2'.trans a2, w1.trans a3 (by omega), a4⟩
    · refine Or.inl ⟨u2, v2, g1, ?_, w1⟩
      rw [hb1]
      show m_X11_leftByPath_L57 _ _ _ _ _ _ (q_it2 (m_X11_leftByPath_L57 (nI e) x4 x5 (nI pl) K81 K95) f2) _ (nI t) _ = _
      generalize q_it2 (m_X11_leftByPath_L57 (nI e) x4 x5 (nI pl) K81 K95) f2 = self
      unfold m_X11_leftByPath_L57
      simp only [lit_n, mI_lit, if_neg c1, if_neg c2, q_let, e1, g2]
      unfold badR
      cases m_X11_tasteOf (nI e) (nI p) v2 with
      | none => rfl
      | some z =>
        simp only [q_bd, Option.bind_some]
        cases m_X11_tasteBe (nI e) (nI p) (z.1 - nI 2) z.2 with
        | none => rfl
        | some z2 =>
          simp only [Option.bind_some]
          cases m_X11_notes (nI 4) (nI e) (nI p) z2.2 with
          | none => rfl
          | some z3 => simp only [Option.bind_some]; rw [if_pos (by decide)]
/-- behind a bad fruit: the taste falls, it is noted -/
theorem bad_s {e p P E : Nat} {u v : qS} {K : qS → qR} (hS : ST tr k k2 u v) (hW : WK tr th tg k k2 u v) (hP5 : P ≤ 5) (hE : v.1 163 7 = nI E) (hE1 : E ≤ 10) (he : e < E) (hp : p < P) :
    ∃ u2 v2, (q_bd (m_X0_tasteFor k2 (nI e) (nI p) u) fun r u_17 =>
      Option.bind (q_ast u_17 (k2 + 9) 50 ((nI e * nI 5) + nI p) (q_max (nI 0) (r - nI 2))) fun u_18 =>
      q_bd (m_X7_note k k2 (nI 4) (nI e) (nI p) u_18) fun _ u_19 => some (nI 0, u_19)) = some (nI 0, u2) ∧ badR (nI e) (nI p) K v = K v2 ∧ WQ tr th tg k k2 u v (fun j => j = 2 ∨ 86 ≤ j) u2 v2 := by
  have hk := hS.1.k
  have ht := hW.2.1.taste (i := 5 * e + p) (by omega)
  have htt := taste_t ht
  have t2 : (nI 2).toInt = 2 := rfl
  have t5 : (nI 5).toInt = 5 := rfl
  have hr2 : (v.1 164 (86 + (5 * e + p)) + nI 5 - nI 2).toInt = (v.1 164 (86 + (5 * e + p))).toInt + 3 := by
    rw [i32_sub] <;> rw [htt, t2] <;> omega
  let x : Int32 := hd (nI 9) (v.1 164 (86 + (5 * e + p)) + nI 5 - nI 2)
  have hx : 0 ≤ x.toInt ∧ x.toInt ≤ 9 := hd_rng (m := 9) (r := v.1 164 (86 + (5 * e + p)) + nI 5 - nI 2) (by omega)
  have hxm : q_max (nI 0) (v.1 164 (86 + (5 * e + p)) + nI 5 - nI 2) = x := by
    show _ = q_max (nI 0) (q_min (nI 9) _)
    have : q_min (nI 9) (v.1 164 (86 + (5 * e + p)) + nI 5 - nI 2) = v.1 164 (86 + (5 * e + p)) + nI 5 - nI 2 := by
      unfold q_min
      have t9 : (nI 9).toInt = 9 := rfl
      rw [if_pos (by rw [Int32.lt_iff_toInt_lt, hr2, t9]; omega)]
    rw [this]
  have hx5 : (x - nI 5).toInt = x.toInt - 5 := by
    rw [i32_sub] <;> rw [t5] <;> (have := hx; omega)
  have hxx : x = (x - nI 5) + nI 5 := (Int32.sub_add_cancel x (nI 5)).symm
  have hw1 : WK tr th tg k k2 (q_up u (k2 + 9) (5 * e + p) x) (q_up v 164 (86 + (5 * e + p)) (x - nI 5)) := hW.upTaste hS.1 hS.2.1 (by omega) hxx (by rw [hx5]; have := hx; omega) (by rw [hE, nI_t (by omega)]; omega)
  have w1 : WQ tr th tg k k2 u v (fun j => 86 ≤ j) (q_up u (k2 + 9) (5 * e + p) x) (q_up v 164 (86 + (5 * e + p)) (x - nI 5)) := ⟨FX.upc FX.rfl' hS.1 (by omega), FY.up FY.rfl', hw1, fun j hj => by rw [q_up_1, if_pos rfl, upd_g, if_neg (by omega)]⟩
  obtain ⟨u3, v3, n1, n2, w2⟩ := note_s (w := nI 4) (x := nI e) (y := nI p) (w1.st hS) w1.2.2.1
  have z1 := taste_c (u := u) hW.1 hE hE1 he (p := p) (by omega)
  have z2 := taste_r (v := v) (e := e) (p := p) (by omega) (by omega)
  have y1 : q_ast u (k2 + 9) 50 (nI (e * 5 + p)) x = some (q_up u (k2 + 9) (5 * e + p) x) := by rw [ast_n (by omega) (by omega), show e * 5 + p = 5 * e + p by omega]
  have y2 : q_ast v 164 136 (nI (86 + 5 * e + p)) (x - nI 5) = some (q_up v 164 (86 + (5 * e + p)) (x - nI 5)) := by rw [ast_n (by omega) (by omega), show 86 + 5 * e + p = 86 + (5 * e + p) by omega]
  have y3 : m_X11_held (v.1 164 (86 + (5 * e + p)) + nI 5 - nI 2) (nI 0) (nI 9) v = some (x, v) := held_eq (by omega)
  refine ⟨u3, v3, ?_, ?_, w1.trans w2 (by omega)⟩
  · simp only [z1, q_bd_some, hxm, pk_mul, nI_add, y1, Option.bind_some, n1]
  · unfold badR m_X11_tasteBe
    simp only [z2, q_bd_some, lit_n, y3, pk_mul, nI_add, y2, Option.bind_some, n2]
end
