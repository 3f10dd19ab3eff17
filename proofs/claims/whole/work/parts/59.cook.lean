/-! LAYER 2: small numbers; boiling -/
theorem q_min_n {a b : Nat} (ha : a < 2147483648) (hb : b < 2147483648) : q_min (nI a) (nI b) = nI (min a b) := by
  unfold q_min
  have e : (nI b < nI a) ↔ (b < a) := by rw [Int32.lt_iff_toInt_lt, nI_t ha, nI_t hb]; omega
  by_cases h : b < a
  · rw [if_pos (e.mpr h), Nat.min_eq_right (by omega)]
  · rw [if_neg (fun q => h (e.mp q)), Nat.min_eq_left (by omega)]
theorem q_max_n {a b : Nat} (ha : a < 2147483648) (hb : b < 2147483648) : q_max (nI a) (nI b) = nI (max a b) := by
  unfold q_max
  have e : (nI a < nI b) ↔ (a < b) := by rw [Int32.lt_iff_toInt_lt, nI_t ha, nI_t hb]; omega
  by_cases h : a < b
  · rw [if_pos (e.mpr h), Nat.max_eq_right (by omega)]
  · rw [if_neg (fun q => h (e.mp q)), Nat.max_eq_left (by omega)]
theorem hd_n {m r : Nat} (hm : m < 2147483648) (hr : r < 2147483648) : hd (nI m) (nI r) = nI (min m r) := by
  unfold hd; rw [q_min_n hm hr, q_max_n (by omega) (by omega), Nat.max_eq_right (by omega)]
theorem lesser_n {a b : Nat} {u : qS} (ha : a < 2147483648) (hb : b < 2147483648) : m_X11_lesser (nI a) (nI b) u = some (nI (min a b), u) := by
  unfold m_X11_lesser
  rw [nI_t ha, nI_t hb]
  by_cases h : (b : Int) ≤ a
  · rw [if_pos h, Nat.min_eq_right (by omega)]
  · rw [if_neg h, Nat.min_eq_left (by omega)]
theorem greater_n {a b : Nat} {u : qS} (ha : a < 2147483648) (hb : b < 2147483648) : m_X11_greater (nI a) (nI b) u = some (nI (max a b), u) := by
  unfold m_X11_greater
  rw [nI_t ha, nI_t hb]
  by_cases h : (a : Int) ≤ b
  · rw [if_pos h, Nat.max_eq_right (by omega)]
  · rw [if_neg h, Nat.max_eq_left (by omega)]
theorem q_up_self {u : qS} {k j : Nat} {x : Int32} (h : u.1 k j = x) : q_up u k j x = u := by
  rw [q_up_st]
  refine q_st_self (funext fun i => ?_)
  rw [upd_g]
  split
  · rename_i e; rw [e, h]
  · rfl
section
variable {tr th tg : Bool} {k k2 : Nat} {u v : qS}
theorem WQ.rfl' {S : Nat → Prop} (h : WK tr th tg k k2 u v) : WQ tr th tg k k2 u v S u v := ⟨FX.rfl', FY.rfl', h, fun _ _ => rfl⟩
theorem WQ.trans {S S2 S3 : Nat → Prop} {u1 v1 u2 v2 : qS} (h : WQ tr th tg k k2 u v S u1 v1) (h2 : WQ tr th tg k k2 u1 v1 S2 u2 v2) (hs : ∀ j, S j ∨ S2 j → S3 j) : WQ tr th tg k k2 u v S3 u2 v2 :=
  ⟨h.1.trans h2.1, h.2.1.trans h2.2.1, h2.2.2.1, fun j hj => (h2.2.2.2 j (fun e => hj (hs j (Or.inr e)))).trans (h.2.2.2 j (fun e => hj (hs j (Or.inl e))))⟩
theorem WQ.sub {S S3 : Nat → Prop} {u1 v1 : qS} (h : WQ tr th tg k k2 u v S u1 v1) (hs : ∀ j, S j → S3 j) : WQ tr th tg k k2 u v S3 u1 v1 :=
  ⟨h.1, h.2.1, h.2.2.1, fun j hj => h.2.2.2 j (fun e => hj (hs j e))⟩
theorem WQ.st {S : Nat → Prop} {u1 v1 : qS} (h : WQ tr th tg k k2 u v S u1 v1) (hS : ST tr k k2 u v) : ST tr k k2 u1 v1 := hS.mv h.1 h.2.1
/-- a slot changed on both sides -/
theorem WQ.up (h : WK tr th tg k k2 u v) (hm : MD tr k k2) (hG : BG (v.1 163)) (j : Nat) {c s : Nat} {x : Int32} (hj : j < 86) (hc : cC j = c) (hs : cS j = s) (hv : bLo j ≤ x.toInt ∧ x.toInt ≤ bHi j) (h4 : j ≠ 4)
    (ht : 20 ≤ j → j < 34 → x.toInt < (v.1 163 6).toInt) (hp : 5 ≤ j → j < 10 → (v.1 163 6).toInt ≤ ((j - 5 : Nat) : Int) → x = nI 0) (hq : 10 ≤ j → j < 15 → (v.1 163 6).toInt ≤ ((j - 10 : Nat) : Int) → x = nI 0) :
    WQ tr th tg k k2 u v (fun i => i = j) (q_up u (k2 + c) s x) (q_up v 164 j x) :=
  ⟨FX.upc FX.rfl' hm (by have := cC_lt j hj; omega), FY.up FY.rfl', h.up hm hG j hj hc hs hv h4 ht hp hq, fun i hi => by rw [q_up_1, if_pos rfl, upd_g, if_neg hi]⟩
theorem WQ.hang {t x : Nat} (h : WK tr th tg k k2 u v) (hS : ST tr k k2 u v) (ht : t < 14) (hx : x ≤ 99) : WQ tr th tg k k2 u v (fun i => i = 62 + t) (q_up u (k2 + 7) t (nI x)) (q_up v 164 (62 + t) (nI x)) :=
  WQ.up h hS.1 hS.2.1 (62 + t) (by omega) (by unfold cC; simp (disch := omega) only [if_pos, if_neg]) (by unfold cS; simp (disch := omega) only [if_pos, if_neg]; omega) (by rw [nI_t (by omega), bLo_0 (by omega) (by omega), bHi_h (by omega)]; omega) (by omega) (by omega) (by omega) (by omega)
theorem WQ.jam {p x : Nat} (h : WK tr th tg k k2 u v) (hS : ST tr k k2 u v) (hp : p < 5) (hx : x ≤ 999) : WQ tr th tg k k2 u v (fun i => i = 15 + p) (q_up u (k2 + 1) p (nI x)) (q_up v 164 (15 + p) (nI x)) :=
  WQ.up h hS.1 hS.2.1 (15 + p) (by omega) (by unfold cC; simp (disch := omega) only [if_pos, if_neg]) (by unfold cS; simp (disch := omega) only [if_pos, if_neg]; omega) (by rw [nI_t (by omega), bLo_0 (by omega) (by omega), bHi_j (by omega)]; omega) (by omega) (by omega) (by omega) (by omega)
theorem WQ.votes {p x P : Nat} (h : WK tr th tg k k2 u v) (hS : ST tr k k2 u v) (hP : v.1 163 6 = nI P) (hP5 : P ≤ 5) (hp : p < P) (hx : x ≤ 9999) : WQ tr th tg k k2 u v (fun i => i = 5 + p) (q_up u (k2 + 2) p (nI x)) (q_up v 164 (5 + p) (nI x)) :=
  WQ.up h hS.1 hS.2.1 (5 + p) (by omega) (by unfold cC; simp (disch := omega) only [if_pos, if_neg]) (by unfold cS; simp (disch := omega) only [if_pos, if_neg]; omega) (by rw [nI_t (by omega), bLo_0 (by omega) (by omega), bHi_v (by omega)]; omega) (by omega) (by omega) (fun _ _ h => by rw [hP, nI_t (by omega)] at h; omega) (by omega)
theorem WQ.seats {p x P : Nat} (h : WK tr th tg k k2 u v) (hS : ST tr k k2 u v) (hP : v.1 163 6 = nI P) (hP5 : P ≤ 5) (hp : p < P) (hx : x ≤ 100) : WQ tr th tg k k2 u v (fun i => i = 10 + p) (q_up u (k2 + 3) p (nI x)) (q_up v 164 (10 + p) (nI x)) :=
  WQ.up h hS.1 hS.2.1 (10 + p) (by omega) (by unfold cC; simp (disch := omega) only [if_pos, if_neg]) (by unfold cS; simp (disch := omega) only [if_pos, if_neg]; omega) (by rw [nI_t (by omega), bLo_0 (by omega) (by omega), bHi_s (by omega)]; omega) (by omega) (by omega) (by omega) (fun _ _ h => by rw [hP, nI_t (by omega)] at h; omega)
theorem WQ.age {t x : Nat} (h : WK tr th tg k k2 u v) (hS : ST tr k k2 u v) (ht : t < 14) (hx : x ≤ 99) : WQ tr th tg k k2 u v (fun i => i = 48 + t) (q_up u (k2 + 6) t (nI x)) (q_up v 164 (48 + t) (nI x)) :=
  WQ.up h hS.1 hS.2.1 (48 + t) (by omega) (by unfold cC; simp (disch := omega) only [if_pos, if_neg]) (by unfold cS; simp (disch := omega) only [if_pos, if_neg]; omega) (by rw [nI_t (by omega), bLo_0 (by omega) (by omega), bHi_a (by omega)]; omega) (by omega) (by omega) (by omega) (by omega)
theorem WQ.hunger {e x : Nat} (h : WK tr th tg k k2 u v) (hS : ST tr k k2 u v) (he : e < 10) (hx : x ≤ 20) : WQ tr th tg k k2 u v (fun i => i = 76 + e) (q_up u (k2 + 8) e (nI x)) (q_up v 164 (76 + e) (nI x)) :=
  WQ.up h hS.1 hS.2.1 (76 + e) (by omega) (by unfold cC; simp (disch := omega) only [if_pos, if_neg]) (by unfold cS; simp (disch := omega) only [if_pos, if_neg]; omega) (by rw [nI_t (by omega), bLo_0 (by omega) (by omega), bHi_u (by omega)]; omega) (by omega) (by omega) (by omega) (by omega)
/-- nothing left to boil: the reference's loop changes nothing -/
theorem boils_0 {p n T : Nat} {g : Nat → Int32} {K : Int32 → qS → qR} (hB : BC (v.1 164) g) (hT : v.1 164 4 = nI T) (hT4 : T ≤ 14) : ∀ (m t f : Nat), t + m = T → m < f → q_it2 (m_X11_boils_L5 (nI p) (nI n) K) f (nI 0) (nI t) v = K (nI 0) v
  | 0, t, f, ht, hf => by
    cases f with
    | zero => omega
    | succ f =>
      show m_X11_boils_L5 _ _ _ _ _ _ _ = _
      unfold m_X11_boils_L5
      have a4 : q_ald v 164 136 (nI 4) = some (nI T) := by rw [ald_n (by omega) (by omega), hT]
      have c1 : (nI T).toInt ≤ (nI t).toInt := by rw [nI_t (by omega), nI_t (by omega)]; omega
      simp only [lit_n, a4, Option.bind_some, if_pos c1]
  | m + 1, t, f, ht, hf => by
    cases f with
    | zero => omega
    | succ f =>
      have ih := boils_0 (p := p) (n := n) (K := K) hB hT hT4 m (t + 1) f (by omega) (by omega)
      show m_X11_boils_L5 _ _ _ (q_it2 (m_X11_boils_L5 (nI p) (nI n) K) f) _ _ _ = _
      generalize q_it2 (m_X11_boils_L5 (nI p) (nI n) K) f = self at ih ⊢
      unfold m_X11_boils_L5
      have a4 : q_ald v 164 136 (nI 4) = some (nI T) := by rw [ald_n (by omega) (by omega), hT]
      have c1 : ¬ (nI T).toInt ≤ (nI t).toInt := by rw [nI_t (by omega), nI_t (by omega)]; omega
      obtain ⟨h, hh, h1, h2⟩ := hB.hang (t := t) (by omega)
      have a20 : q_ald v 164 136 (nI (20 + t)) = some (v.1 164 (20 + t)) := ald_n (by omega) (by omega)
      have a62 : q_ald v 164 136 (nI (62 + t)) = some (nI h) := by rw [ald_n (by omega) (by omega), h1]
      have e1 : nI h - nI 0 = nI h := by rw [nI_sub (by omega)]; rfl
      have e2 : nI 0 - nI 0 = nI 0 := rfl
      have b62 : q_ast v 164 136 (nI (62 + t)) (nI h) = some v := by rw [ast_n (by omega) (by omega), q_up_self h1]
      have l0 : m_X11_lesser (nI 0) (nI h) v = some (nI 0, v) := by rw [lesser_n (by omega) (by omega), Nat.min_eq_left (by omega)]
      simp only [lit_n, nI_add, a4, Option.bind_some, if_neg c1, a20, q_jn, a62, l0, q_bd_some, e1, b62, q_let, e2, ih, ite_self]
theorem cook_it {p n T : Nat} {K1 K2 : Int32 → qS → qR} (hT4 : T ≤ 14) (hn : n ≤ 99) : ∀ (m t f1 f2 a l : Nat) (u v : qS), t + m = T → m < f1 → m < f2 → a + l = n → ST tr k k2 u v → WK tr th tg k k2 u v → v.1 164 4 = nI T →
    ∃ (a2 l2 : Nat) (u2 v2 : qS), a2 + l2 = n ∧ q_it2 (m_X0_cook_L5 k2 (nI p) (nI n) K1) f1 (nI a) (nI t) u = K1 (nI a2) u2 ∧ q_it2 (m_X11_boils_L5 (nI p) (nI n) K2) f2 (nI l) (nI t) v = K2 (nI l2) v2 ∧ WQ tr th tg k k2 u v (fun j => 62 ≤ j ∧ j < 76) u2 v2
  | m, t, 0, f2, a, l, u, v, ht, hf1, hf2, hal, hS, hW, hT => by omega
  | m, t, f1, 0, a, l, u, v, ht, hf1, hf2, hal, hS, hW, hT => by omega
  | 0, t, f1 + 1, f2 + 1, a, l, u, v, ht, hf1, hf2, hal, hS, hW, hT => by
    refine ⟨a, l, u, v, hal, ?_, ?_, WQ.rfl' hW⟩
    · show m_X0_cook_L5 _ _ _ _ _ _ _ _ = _
      unfold m_X0_cook_L5
      rw [if_pos (by rw [hW.1.trees, hT, nI_t (by omega), nI_t (by omega)]; omega)]
    · show m_X11_boils_L5 _ _ _ _ _ _ _ = _
      unfold m_X11_boils_L5
      have a4 : q_ald v 164 136 (nI 4) = some (nI T) := by rw [ald_n (by omega) (by omega), hT]
      have c1 : (nI T).toInt ≤ (nI t).toInt := by rw [nI_t (by omega), nI_t (by omega)]; omega
      simp only [lit_n, a4, Option.bind_some, if_pos c1]
  | m + 1, t, f1 + 1, f2 + 1, a, l, u, v, ht, hf1, hf2, hal, hS, hW, hT => by
    have hk := hS.1.k
    by_cases hl0 : l = 0
    · subst hl0
      refine ⟨a, 0, u, v, hal, ?_, boils_0 hW.2.1 hT hT4 (m + 1) t (f2 + 1) ht (by omega), WQ.rfl' hW⟩
      show m_X0_cook_L5 _ _ _ _ _ _ _ _ = _
      unfold m_X0_cook_L5
      rw [if_neg (by rw [hW.1.trees, hT, nI_t (by omega), nI_t (by omega)]; omega), if_pos (by rw [nI_t (by omega), nI_t (by omega)]; omega)]
    · have c1 : ¬ (u.1 k2 8).toInt ≤ (nI t).toInt := by rw [hW.1.trees, hT, nI_t (by omega), nI_t (by omega)]; omega
      have c1' : ¬ (nI T).toInt ≤ (nI t).toInt := by rw [nI_t (by omega), nI_t (by omega)]; omega
      have c2 : ¬ (nI n).toInt ≤ (nI a).toInt := by rw [nI_t (by omega), nI_t (by omega)]; omega
      obtain ⟨h, hh, h1, h2⟩ := hW.2.1.hang (t := t) (by omega)
      have a4 : q_ald v 164 136 (nI 4) = some (nI T) := by rw [ald_n (by omega) (by omega), hT]
      have a20 : q_ald v 164 136 (nI (20 + t)) = some (v.1 164 (20 + t)) := ald_n (by omega) (by omega)
      have a62 : q_ald v 164 136 (nI (62 + t)) = some (nI h) := by rw [ald_n (by omega) (by omega), h1]
      have x4 : q_ald u (k2 + 4) 14 (nI t) = some (v.1 164 (20 + t)) := by rw [ald_n (by omega) (by omega), hW.1.tparty (by omega)]
      have x7 : q_ald u (k2 + 7) 14 (nI t) = some (nI h) := by rw [ald_n (by omega) (by omega), hW.1.hang (by omega), h1]
      by_cases hp : (v.1 164 (20 + t)).toInt = (nI p).toInt
      · have w1 := WQ.hang (x := h - min l h) hW hS (t := t) (by omega) (by omega)
        have e1 : nI n - nI a = nI l := by rw [nI_sub (by omega)]; congr 1; omega
        have e2 : q_min (nI l) (nI h) = nI (min l h) := q_min_n (by omega) (by omega)
        have e3 : nI h - nI (min l h) = nI (h - min l h) := nI_sub (Nat.min_le_right _ _)
        have e4 : nI l - nI (min l h) = nI (l - min l h) := nI_sub (Nat.min_le_left _ _)
        have y7 : q_ast u (k2 + 7) 14 (nI t) (nI (h - min l h)) = some (q_up u (k2 + 7) t (nI (h - min l h))) := ast_n (by omega) (by omega)
        have b62 : q_ast v 164 136 (nI (62 + t)) (nI (h - min l h)) = some (q_up v 164 (62 + t) (nI (h - min l h))) := ast_n (by omega) (by omega)
        have l0 : m_X11_lesser (nI l) (nI h) v = some (nI (min l h), v) := lesser_n (by omega) (by omega)
        obtain ⟨a2, l2, u2, v2, g1, g2, g3, g4⟩ := cook_it (p := p) (K1 := K1) (K2 := K2) hT4 hn m (t + 1) f1 f2 (a + min l h) (l - min l h) _ _ (by omega) (by omega) (by omega) (by omega) (w1.st hS) w1.2.2.1 (by rw [w1.2.2.2 4 (by omega)]; exact hT)
        refine ⟨a2, l2, u2, v2, g1, ?_, ?_, w1.trans g4 (by omega)⟩
        · rw [← g2]
          show m_X0_cook_L5 _ _ _ _ _ _ _ _ = _
          unfold m_X0_cook_L5
          simp only [lit_n, nI_add, if_neg c1, if_neg c2, x4, Option.bind_some, q_jn, if_pos hp, x7, q_let, e1, e2, e3, y7]
        · rw [← g3]
          show m_X11_boils_L5 _ _ _ _ _ _ _ = _
          unfold m_X11_boils_L5
          simp only [lit_n, nI_add, a4, Option.bind_some, if_neg c1', a20, q_jn, if_pos hp, a62, l0, q_bd_some, e3, b62, q_let, e4]
      · obtain ⟨a2, l2, u2, v2, g1, g2, g3, g4⟩ := cook_it (p := p) (K1 := K1) (K2 := K2) hT4 hn m (t + 1) f1 f2 a l u v (by omega) (by omega) (by omega) (by omega) hS hW hT
        refine ⟨a2, l2, u2, v2, g1, ?_, ?_, g4⟩
        · rw [← g2]
          show m_X0_cook_L5 _ _ _ _ _ _ _ _ = _
          unfold m_X0_cook_L5
          simp only [lit_n, nI_add, if_neg c1, if_neg c2, x4, Option.bind_some, q_jn, if_neg hp]
        · rw [← g3]
          show m_X11_boils_L5 _ _ _ _ _ _ _ = _
          unfold m_X11_boils_L5
          simp only [lit_n, nI_add, a4, Option.bind_some, if_neg c1', a20, q_jn, if_neg hp]
theorem cook_s {p n P : Nat} (hS : ST tr k k2 u v) (hW : WK tr th tg k k2 u v) (hP : v.1 163 6 = nI P) (hP5 : P ≤ 5) (hp : p < P) (hn : n ≤ 99) :
    ∃ (m : Nat) (u2 v2 : qS), m ≤ 99 ∧ m_X0_cook k2 (nI p) (nI n) u = some (nI m, u2) ∧ m_X11_boils (nI p) (nI n) v = q_bd (m_X11_notes (nI 3) (nI p) (nI m) v2) (fun _ z => some (nI m, z)) ∧ WQ tr th tg k k2 u v (fun j => (62 ≤ j ∧ j < 76) ∨ j = 15 + p) u2 v2 := by
  have hk := hS.1.k
  obtain ⟨T, hT4, hT, -⟩ := hW.2.1.trees
  unfold m_X0_cook m_X11_boils
  obtain ⟨a2, l2, u2, v2, g1, g2, g3, g4⟩ := cook_it (p := p) (n := n) (K1 := fun x3 u_6 =>
    Option.bind (q_ald u_6 (k2 + 1) 5 (nI p)) fun a =>
    Option.bind (q_ast u_6 (k2 + 1) 5 (nI p) (q_min (999 : Int32) (a + x3))) fun u_7 =>
    some (x3, u_7)) (K2 := fun x3 u_8 =>
    Option.bind (q_ald u_8 164 136 ((15 : Int32) + nI p)) fun a =>
    q_bd (m_X11_held ((a + nI n) - x3) (0 : Int32) (999 : Int32) u_8) fun r u_9 =>
    Option.bind (q_ast u_9 164 136 ((15 : Int32) + nI p) r) fun u_10 =>
    q_bd (m_X11_notes (3 : Int32) (nI p) (nI n - x3) u_10) fun _ u_11 =>
    some ((nI n - x3), u_11)) hT4 hn T 0 q_F q_F 0 n u v (by omega) (by rw [q_F_eq]; omega) (by rw [q_F_eq]; omega) (by omega) hS hW hT
  obtain ⟨s, hs, s1, s2⟩ := g4.2.2.1.2.1.jam (p := p) (by omega)
  have w1 := WQ.jam (x := min 999 (s + a2)) g4.2.2.1 (g4.st hS) (p := p) (by omega) (by omega)
  refine ⟨a2, _, _, by omega, ?_, ?_, g4.trans w1 (by omega)⟩
  · have x1 : q_ald u2 (k2 + 1) 5 (nI p) = some (nI s) := by rw [ald_n (by omega) (by omega), g4.2.2.1.1.store (by omega), s1]
    have e1 : q_min (nI 999) (nI (s + a2)) = nI (min 999 (s + a2)) := q_min_n (by omega) (by omega)
    have y1 : q_ast u2 (k2 + 1) 5 (nI p) (nI (min 999 (s + a2))) = some (q_up u2 (k2 + 1) p (nI (min 999 (s + a2)))) := ast_n (by omega) (by omega)
    simp only [lit_n] at g2 ⊢
    rw [g2]
    simp only [x1, Option.bind_some, nI_add, e1, y1]
  · have x1 : q_ald v2 164 136 (nI (15 + p)) = some (nI s) := by rw [ald_n (by omega) (by omega), s1]
    have e0 : nI (s + n) - nI l2 = nI (s + a2) := by rw [nI_sub (by omega)]; congr 1; omega
    have e1 : m_X11_held (nI (s + a2)) (nI 0) (nI 999) v2 = some (nI (min 999 (s + a2)), v2) := by rw [held_eq (by omega), hd_n (by omega) (by omega)]
    have e2 : nI n - nI l2 = nI a2 := by rw [nI_sub (by omega)]; congr 1; omega
    have y1 : q_ast v2 164 136 (nI (15 + p)) (nI (min 999 (s + a2))) = some (q_up v2 164 (15 + p) (nI (min 999 (s + a2)))) := ast_n (by omega) (by omega)
    simp only [lit_n] at g3 ⊢
    rw [g3]
    simp only [nI_add, x1, Option.bind_some, e0, e1, q_bd_some, y1, e2]
end
