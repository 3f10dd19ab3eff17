/-! LAYER 2: a path gone -/
section
variable {tr th tg : Bool} {k k2 : Nat}
def SP (j : Nat) : Prop := j = 1 ∨ j = 2 ∨ (5 ≤ j ∧ j < 10) ∨ (62 ≤ j ∧ j < 76) ∨ 86 ≤ j
theorem left_z {x1 x4 x5 x6 x7 : Int32} {K81 : qS → qR} {K95 : Int32 → qS → qR} {g : Nat} {v : qS} : q_it2 (m_X11_leftByPath_L57 x1 x4 x5 x6 K81 K95) (g + 1) (nI 0) x7 v = K95 (nI 0) v := by
  show m_X11_leftByPath_L57 _ _ _ _ _ _ _ _ _ _ = _
  unfold m_X11_leftByPath_L57
  rw [if_pos (by decide)]
theorem left_n {x1 x4 x5 x6 : Int32} {K81 : qS → qR} {K95 : Int32 → qS → qR} {g s : Nat} {v : qS} : q_it2 (m_X11_leftByPath_L57 x1 x4 x5 x6 K81 K95) (g + 1) (nI s) mI v = K95 (nI s) v := by
  show m_X11_leftByPath_L57 _ _ _ _ _ _ _ _ _ _ = _
  unfold m_X11_leftByPath_L57
  by_cases h : (nI s).toInt ≤ 0
  · rw [if_pos h]
  · rw [if_neg h, if_pos (by rfl)]
theorem pick_z {x3 x4 : Int32} {K34 K147 K195 : Int32 → qS → qR} {f i : Nat} {u : qS} : q_it2 (m_X7_pick_L7 k k2 x3 x4 K34 K147 K195) (f + 1) (nI 0) (nI i) u = K195 (nI 0) u := by
  show m_X7_pick_L7 _ _ _ _ _ _ _ _ _ _ _ = _
  unfold m_X7_pick_L7
  by_cases h : (14 : Int32).toInt ≤ (nI i).toInt
  · rw [if_pos h]
  · rw [if_neg h, if_pos (by decide)]
theorem pick_out {e pl P E T : Nat} {x4 x5 : Int32} {K81 : qS → qR} {K95 : Int32 → qS → qR} (hP5 : P ≤ 5) (hE1 : E ≤ 10) (he : e < E) (hpl : pl < 10) (hT4 : T ≤ 14) :
    ∀ (n i s f1 g : Nat) (u v : qS), ST tr k k2 u v → WK tr th tg k k2 u v → v.1 164 4 = nI T → v.1 163 6 = nI P → v.1 163 7 = nI E → i + n = 14 → n < f1 → s < g → s < 100 → ct (hg (v.1 164)) T ≤ n →
      ∃ (s2 : Nat) (u2 v2 : qS), s2 ≤ s ∧ q_it2 (m_X7_pick_L7 k k2 (nI e) (nI pl) (fun x6 u_15 => some (x6, u_15)) (fun x9 u_16 =>
          q_bd (m_X0_tasteFor k2 (nI e) x9 u_16) fun r u_17 =>
          Option.bind (q_ast u_17 (k2 + 9) 50 ((nI e * nI 5) + x9) (q_max (nI 0) (r - nI 2))) fun u_18 =>
          q_bd (m_X7_note k k2 (nI 4) (nI e) x9 u_18) fun _ u_19 =>
          some (nI 0, u_19)) (fun x6_20 u_21 => some (x6_20, u_21))) f1 (nI s) (nI i) u = some (nI s2, u2) ∧
        (q_it2 (m_X11_leftByPath_L57 (nI e) x4 x5 (nI pl) K81 K95) g (nI s) (enc (bT (v.1 164) e pl T)) v = K95 (nI s2) v2 ∨ (s2 = 0 ∧ q_it2 (m_X11_leftByPath_L57 (nI e) x4 x5 (nI pl) K81 K95) g (nI s) (enc (bT (v.1 164) e pl T)) v = K81 v2)) ∧ WQ tr th tg k k2 u v SP u2 v2
  | n, i, s, 0, g, u, v, hS, hW, hT, hP, hE, hi, hf, hg', hs, hct => by omega
  | n, i, s, f1, 0, u, v, hS, hW, hT, hP, hE, hi, hf, hg', hs, hct => by omega
  | n, i, 0, f1 + 1, g + 1, u, v, hS, hW, hT, hP, hE, hi, hf, hg', hs, hct => ⟨0, u, v, Nat.le_refl _, pick_z, Or.inl left_z, WQ.rfl' hW⟩
  | 0, i, s + 1, f1 + 1, g + 1, u, v, hS, hW, hT, hP, hE, hi, hf, hg', hs, hct => by
    refine ⟨s + 1, u, v, Nat.le_refl _, ?_, Or.inl ?_, WQ.rfl' hW⟩
    · show m_X7_pick_L7 _ _ _ _ _ _ _ _ _ _ _ = _
      unfold m_X7_pick_L7
      rw [lit_n, if_pos (by rw [nI_t (by omega), nI_t (by omega)]; omega)]
    · have : bT (v.1 164) e pl T = none := by
        unfold bT
        refine bst_none _ _ (fun q _ hq => ?_)
        have h0 := ct_0 (Nat.le_zero.mp hct) q (by omega)
        unfold hg at h0
        unfold cd
        rw [decide_eq_false_iff_not] at h0 ⊢
        exact fun h => h0 h.2.1
      rw [this]
      exact left_n
  | n + 1, i, s + 1, f1 + 1, g + 1, u, v, hS, hW, hT, hP, hE, hi, hf, hg', hs, hct => by
    have hk := hS.1.k
    have c1 : ¬ (nI 14).toInt ≤ (nI i).toInt := by rw [nI_t (by omega), nI_t (by omega)]; omega
    have c2 : ¬ (nI (s + 1)).toInt ≤ 0 := by rw [nI_t (by omega)]; omega
    have tc := tree_c (u := u) (v := v) (e := e) (pl := pl) hW.1 hW.2.1 hT hT4 hP hP5 hE hE1 he hpl
    cases hb : bT (v.1 164) e pl T with
    | none =>
      rw [hb] at tc
      refine ⟨s + 1, u, v, Nat.le_refl _, ?_, Or.inl left_n, WQ.rfl' hW⟩
      show m_X7_pick_L7 _ _ _ _ _ _ _ _ _ _ _ = _
      unfold m_X7_pick_L7
      have c3 : (enc none).toInt = mI.toInt := rfl
      simp only [lit_n, mI_lit, if_neg c1, if_neg c2, tc, q_bd_some, if_pos c3]
    | some t =>
      have hbt := hb
      unfold bT at hbt
      rcases bst_c _ _ _ _ hbt with h | ⟨-, htT, hcd⟩
      · cases h
      have htT' : t < T := by omega
      unfold cd at hcd
      rw [decide_eq_true_iff] at hcd
      obtain ⟨p, hp, p1, p2⟩ := hW.2.1.tparty hT hP hP5 hT4 htT'
      obtain ⟨m, hm9, m1, m2⟩ := hW.2.1.hang (t := t) (by omega)
      have hm0 : 0 < m := by have := hcd.2.1; rw [m2] at this; omega
      rw [hb] at tc
      have x4' : q_ald u (k2 + 4) 14 (nI t) = some (nI p) := by rw [ald_n (by omega) (by omega), hW.1.tparty (by omega), p1]
      have x7' : q_ald u (k2 + 7) 14 (nI t) = some (nI m) := by rw [ald_n (by omega) (by omega), hW.1.hang (by omega), m1]
      have c3 : ¬ (nI t).toInt = mI.toInt := by rw [nI_t (by omega), mI_t]; omega
      have tc' : m_X0_treeFor k2 (nI e) (nI pl) u = some (nI t, u) := tc
      have step : ∀ (self : Int32 → Int32 → qS → qR) (K34 K147 K195 : Int32 → qS → qR), m_X7_pick_L7 k k2 (nI e) (nI pl) K34 K147 K195 self (nI (s + 1)) (nI i) u = q_it3 (m_X7_pick_L58 k k2 (nI e) (nI pl) (nI i) (nI t) (nI p) (fun u_12 => K147 (nI p) u_12) (fun x6_13 u_14 => self x6_13 (nI (i + 1)) u_14)) q_F (nI (s + 1)) mI (nI m) u := fun self K34 K147 K195 => by
        unfold m_X7_pick_L7
        simp only [lit_n, mI_lit, nI_add, if_neg c1, if_neg c2, tc', q_bd_some, if_neg c3, x4', x7', Option.bind_some]
      generalize hself : q_it2 (m_X7_pick_L7 k k2 (nI e) (nI pl) (fun x6 u_15 => some (x6, u_15)) (fun x9 u_16 =>
          q_bd (m_X0_tasteFor k2 (nI e) x9 u_16) fun r u_17 =>
          Option.bind (q_ast u_17 (k2 + 9) 50 ((nI e * nI 5) + x9) (q_max (nI 0) (r - nI 2))) fun u_18 =>
          q_bd (m_X7_note k k2 (nI 4) (nI e) x9 u_18) fun _ u_19 =>
          some (nI 0, u_19)) (fun x6_20 u_21 => some (x6_20, u_21))) f1 = self
      have hin := pick_in (x4 := x4) (x5 := x5) (x7 := nI i) (K147 := fun u_12 => (fun x9 u_16 =>
          q_bd (m_X0_tasteFor k2 (nI e) x9 u_16) fun r u_17 =>
          Option.bind (q_ast u_17 (k2 + 9) 50 ((nI e * nI 5) + x9) (q_max (nI 0) (r - nI 2))) fun u_18 =>
          q_bd (m_X7_note k k2 (nI 4) (nI e) x9 u_18) fun _ u_19 =>
          some (nI 0, u_19)) (nI p) u_12) (K81 := K81) (K189 := fun x6_13 u_14 => self x6_13 (nI (i + 1)) u_14) (K95 := K95) hP5 hE1 he hp hpl hT4 htT' m (s + 1) q_F (g + 1) u v mI hS hW hT hP hE p1 m1 hm9 hs (by rw [q_F_eq]; omega) (by omega) (fun _ => hb) (Or.inl rfl)
      rw [hb] at hin
      rcases hin with ⟨u2, v2, a1, a2, a3⟩ | ⟨s2, g2, u2, v2, b1, b2, a1, a2, a3, a4⟩
      · obtain ⟨u3, v3, d1, d2, w2⟩ := bad_s (K := K81) (e := e) (p := p) (P := P) (a3.st hS) a3.2.2.1 hP5 (by rw [a3.2.1.2.1 7 (by omega) (by omega) (by omega)]; exact hE) hE1 he hp
        refine ⟨0, u3, v3, by omega, ?_, Or.inr ⟨rfl, a2.trans d2⟩, a3.trans w2 (fun j hj => by unfold SP; omega)⟩
        show m_X7_pick_L7 _ _ _ _ _ _ _ (q_it2 _ f1) _ _ _ = _
        rw [hself, step, a1]
        exact d1
      · have P2 : v2.1 163 6 = nI P := by rw [a3.2.1.2.1 6 (by omega) (by omega) (by omega)]; exact hP
        have E2 : v2.1 163 7 = nI E := by rw [a3.2.1.2.1 7 (by omega) (by omega) (by omega)]; exact hE
        have T2 : v2.1 164 4 = nI T := by rw [a3.2.2.2 4 (by omega)]; exact hT
        by_cases hs2 : s2 = 0
        · subst hs2
          refine ⟨0, u2, v2, by omega, ?_, Or.inl ?_, a3.sub (fun j hj => by unfold SP; omega)⟩
          · show m_X7_pick_L7 _ _ _ _ _ _ _ (q_it2 _ f1) _ _ _ = _
            rw [hself, step, a1, ← hself]
            cases f1 with
            | zero => omega
            | succ f1 => exact pick_z
          · rw [a2]
            cases g2 with
            | zero => omega
            | succ g2 => exact left_z
        · have hz : v2.1 164 (62 + t) = nI 0 := a4.elim (fun h => absurd h hs2) id
          have hct2 : ct (hg (v2.1 164)) T ≤ n := by
            have := ct_d (p := hg (v.1 164)) (q := hg (v2.1 164)) (t := t) (n := T) htT' (by unfold hg; rw [decide_eq_true_iff]; exact hcd.2.1) (by unfold hg; rw [hz, decide_eq_false_iff_not]; decide) (fun q hq h => by
              by_cases hqt : q = t
              · rw [hqt] at h; unfold hg at h; rw [hz, decide_eq_true_iff] at h; exact absurd h (by decide)
              · unfold hg at h ⊢; rw [a3.2.2.2 (62 + q) (by omega)] at h; exact h)
            omega
          obtain ⟨s3, u3, v3, c3', d1, d2, w2⟩ := pick_out (x4 := x4) (x5 := x5) (K81 := K81) (K95 := K95) hP5 hE1 he hpl hT4 n (i + 1) s2 f1 g2 u2 v2 (a3.st hS) a3.2.2.1 T2 P2 E2 (by omega) (by omega) b2 (by omega) hct2
          refine ⟨s3, u3, v3, by omega, ?_, ?_, a3.trans w2 (fun j hj => by unfold SP at hj ⊢; omega)⟩
          · show m_X7_pick_L7 _ _ _ _ _ _ _ (q_it2 _ f1) _ _ _ = _
            rw [hself, step, a1, ← hself]
            exact d1
          · rw [← a2] at d2; exact d2
theorem pick_s {e pl P E s : Nat} {x4 x5 : Int32} {K81 : qS → qR} {K95 : Int32 → qS → qR} {u v : qS} (hS : ST tr k k2 u v) (hW : WK tr th tg k k2 u v) (hP : v.1 163 6 = nI P) (hP5 : P ≤ 5) (hE : v.1 163 7 = nI E) (hE1 : E ≤ 10) (he : e < E) (hpl : pl < 10) (hs : s < 100) :
    ∃ (r : Int32) (s2 : Nat) (u2 v2 : qS), s2 ≤ s ∧ m_X7_pick k k2 (nI e) (nI pl) (nI s) u = some (nI s2, u2) ∧ m_X11_treeFor (nI e) (nI pl) v = some (r, v) ∧ (q_it2 (m_X11_leftByPath_L57 (nI e) x4 x5 (nI pl) K81 K95) q_F (nI s) r v = K95 (nI s2) v2 ∨ (s2 = 0 ∧ q_it2 (m_X11_leftByPath_L57 (nI e) x4 x5 (nI pl) K81 K95) q_F (nI s) r v = K81 v2)) ∧ WQ tr th tg k k2 u v SP u2 v2 := by
  obtain ⟨T, hT4, hT, -⟩ := hW.2.1.trees
  obtain ⟨s2, u2, v2, a0, a1, a2, a3⟩ := pick_out (x4 := x4) (x5 := x5) (K81 := K81) (K95 := K95) hP5 hE1 he hpl hT4 14 0 s q_F q_F u v hS hW hT hP hE (by omega) (by rw [q_F_eq]; omega) (by rw [q_F_eq]; omega) hs (Nat.le_trans (ct_le _ _) hT4)
  refine ⟨_, s2, u2, v2, a0, ?_, tree_r (v := v) (e := e) (pl := pl) hW.2.1 hT hT4 hP hP5 hE1 he, a2, a3⟩
  unfold m_X7_pick
  simp only [lit_n] at a1 ⊢
  exact a1
/-- with nothing left to eat, the reference goes the path to its end -/
theorem path_0 {e P E M : Nat} {K81 : qS → qR} {K101 : Int32 → qS → qR} {u v : qS} (hS : ST tr k k2 u v) (hW : WK tr th tg k k2 u v) (hP : v.1 163 6 = nI P) (hP5 : P ≤ 5) (hE : v.1 163 7 = nI E) (hE1 : E ≤ 10) (he : e < E) (hM : v.1 178 (9 * e) = nI M) (hM8 : M ≤ 8) (hq : ∀ i, i < M → ∃ q : Nat, q < 10 ∧ v.1 178 (9 * e + 1 + i) = nI q) :
    ∀ (n i f : Nat), i + n = M → n < f → q_it2 (m_X11_leftByPath_L11 (nI e) (nI (9 * e)) K81 K101) f (nI 0) (nI (i + 1)) v = K101 (nI 0) v
  | n, i, 0, hi, hf => by omega
  | 0, i, f + 1, hi, hf => by
    show m_X11_leftByPath_L11 _ _ _ _ _ _ _ _ = _
    unfold m_X11_leftByPath_L11
    have a1 : q_ald v 178 180 (nI (9 * e)) = some (nI M) := by rw [ald_n (by omega) (by omega), hM]
    have c1 : (nI M).toInt < (nI (i + 1)).toInt := by rw [nI_t (by omega), nI_t (by omega)]; omega
    simp only [a1, Option.bind_some, if_pos c1]
  | n + 1, i, f + 1, hi, hf => by
    obtain ⟨q, hq1, hq2⟩ := hq i (by omega)
    obtain ⟨T, hT4, hT, -⟩ := hW.2.1.trees
    have ih := path_0 (K81 := K81) (K101 := K101) hS hW hP hP5 hE hE1 he hM hM8 hq n (i + 1) f (by omega) (by omega)
    show m_X11_leftByPath_L11 _ _ _ _ (q_it2 (m_X11_leftByPath_L11 (nI e) (nI (9 * e)) K81 K101) f) _ _ _ = _
    generalize q_it2 (m_X11_leftByPath_L11 (nI e) (nI (9 * e)) K81 K101) f = self at ih ⊢
    unfold m_X11_leftByPath_L11
    have a1 : q_ald v 178 180 (nI (9 * e)) = some (nI M) := by rw [ald_n (by omega) (by omega), hM]
    have a2 : q_ald v 178 180 (nI (9 * e + (i + 1))) = some (nI q) := by rw [ald_n (by omega) (by omega), show 9 * e + (i + 1) = 9 * e + 1 + i by omega, hq2]
    have c1 : ¬ (nI M).toInt < (nI (i + 1)).toInt := by rw [nI_t (by omega), nI_t (by omega)]; omega
    obtain ⟨F, b, hF, hb, F1, f1, f2, -⟩ := fenced_c (k2 := k2) (u := u) (v := v) (q := q) hW.1 hW.2.1 hq1
    have t1 := tree_r (v := v) (e := e) (pl := q) hW.2.1 hT hT4 hP hP5 hE1 he
    have hz : ∀ (x7 : Int32), q_it2 (m_X11_leftByPath_L57 (nI e) (nI (9 * e)) (nI (i + 1)) (nI q) (fun u_7 => K81 u_7) (fun x3_8 u_9 => self x3_8 (nI (i + 1 + 1)) u_9)) q_F (nI 0) x7 v = self (nI 0) (nI (i + 1 + 1)) v := fun x7 => left_z (g := 2999)
    simp only [lit_n, mI_lit, nI_add, a1, a2, Option.bind_some, if_neg c1, f2, q_bd_some, q_jn, t1, hz, ite_self]
    exact ih
theorem path_it {e P E M : Nat} {K73 : Int32 → qS → qR} {K81 : qS → qR} {K101 : Int32 → qS → qR} (hP5 : P ≤ 5) (hE1 : E ≤ 10) (he : e < E) (hM8 : M ≤ 8) :
    ∀ (n i s f1 f2 : Nat) (u v : qS), ST tr k k2 u v → WK tr th tg k k2 u v → v.1 163 6 = nI P → v.1 163 7 = nI E → i + n = M → n < f1 → n < f2 → s < 100 → u.1 20 e = nI M → v.1 178 (9 * e) = nI M → (∀ i, i < M → ∃ q : Nat, q < 10 ∧ u.1 21 (8 * e + i) = nI q ∧ v.1 178 (9 * e + 1 + i) = nI q) →
      ∃ (s2 : Nat) (u2 v2 : qS), s2 ≤ s ∧ q_it2 (m_X7_eat_L14 k k2 (nI e) K73) f1 (nI s) (nI i) u = K73 (nI s2) u2 ∧ (q_it2 (m_X11_leftByPath_L11 (nI e) (nI (9 * e)) K81 K101) f2 (nI s) (nI (i + 1)) v = K101 (nI s2) v2 ∨ (s2 = 0 ∧ q_it2 (m_X11_leftByPath_L11 (nI e) (nI (9 * e)) K81 K101) f2 (nI s) (nI (i + 1)) v = K81 v2)) ∧ WQ tr th tg k k2 u v SP u2 v2
  | n, i, s, 0, f2, u, v, hS, hW, hP, hE, hi, hf1, hf2, hs, hu, hM, hq => by omega
  | n, i, s, f1, 0, u, v, hS, hW, hP, hE, hi, hf1, hf2, hs, hu, hM, hq => by omega
  | 0, i, s, f1 + 1, f2 + 1, u, v, hS, hW, hP, hE, hi, hf1, hf2, hs, hu, hM, hq => by
    refine ⟨s, u, v, Nat.le_refl _, ?_, Or.inl ?_, WQ.rfl' hW⟩
    · show m_X7_eat_L14 _ _ _ _ _ _ _ _ = _
      unfold m_X7_eat_L14
      have a1 : q_ald u 20 10 (nI e) = some (nI M) := by rw [ald_n (by omega) (by omega), hu]
      have c1 : (nI M).toInt ≤ (nI i).toInt := by rw [nI_t (by omega), nI_t (by omega)]; omega
      simp only [a1, Option.bind_some, if_pos c1]
    · show m_X11_leftByPath_L11 _ _ _ _ _ _ _ _ = _
      unfold m_X11_leftByPath_L11
      have a1 : q_ald v 178 180 (nI (9 * e)) = some (nI M) := by rw [ald_n (by omega) (by omega), hM]
      have c1 : (nI M).toInt < (nI (i + 1)).toInt := by rw [nI_t (by omega), nI_t (by omega)]; omega
      simp only [a1, Option.bind_some, if_pos c1]
  | n + 1, i, 0, f1 + 1, f2 + 1, u, v, hS, hW, hP, hE, hi, hf1, hf2, hs, hu, hM, hq => by
    refine ⟨0, u, v, Nat.le_refl _, ?_, Or.inl (path_0 hS hW hP hP5 hE hE1 he hM hM8 (fun j hj => by obtain ⟨q, a, b, c⟩ := hq j hj; exact ⟨q, a, c⟩) (n + 1) i (f2 + 1) (by omega) (by omega)), WQ.rfl' hW⟩
    show m_X7_eat_L14 _ _ _ _ _ _ _ _ = _
    unfold m_X7_eat_L14
    have a1 : q_ald u 20 10 (nI e) = some (nI M) := by rw [ald_n (by omega) (by omega), hu]
    have c1 : ¬ (nI M).toInt ≤ (nI i).toInt := by rw [nI_t (by omega), nI_t (by omega)]; omega
    have c2 : (nI 0).toInt ≤ 0 := by decide
    simp only [a1, Option.bind_some, if_neg c1, if_pos c2]
  | n + 1, i, s + 1, f1 + 1, f2 + 1, u, v, hS, hW, hP, hE, hi, hf1, hf2, hs, hu, hM, hq => by
    have hk := hS.1.k
    obtain ⟨q, hq1, hq2, hq3⟩ := hq i (by omega)
    have a1 : q_ald u 20 10 (nI e) = some (nI M) := by rw [ald_n (by omega) (by omega), hu]
    have c1 : ¬ (nI M).toInt ≤ (nI i).toInt := by rw [nI_t (by omega), nI_t (by omega)]; omega
    have c2 : ¬ (nI (s + 1)).toInt ≤ 0 := by rw [nI_t (by omega)]; omega
    have c3 : ¬ (nI i).toInt < 0 := by rw [nI_t (by omega)]; omega
    have a2 : q_ald u 21 80 (nI (e * 8 + i)) = some (nI q) := by rw [ald_n (by omega) (by omega), show e * 8 + i = 8 * e + i by omega, hq2]
    have st : m_X4_step 19 (nI e) (nI i) u = some (nI q, u) := by
      unfold m_X4_step
      simp only [if_neg c3, a1, Option.bind_some, if_neg c1, lit_n, pk_mul, nI_add, a2]
    have b1 : q_ald v 178 180 (nI (9 * e)) = some (nI M) := by rw [ald_n (by omega) (by omega), hM]
    have b2 : q_ald v 178 180 (nI (9 * e + (i + 1))) = some (nI q) := by rw [ald_n (by omega) (by omega), show 9 * e + (i + 1) = 9 * e + 1 + i by omega, hq3]
    have d1 : ¬ (nI M).toInt < (nI (i + 1)).toInt := by rw [nI_t (by omega), nI_t (by omega)]; omega
    obtain ⟨F, b, hF, hb, F1, g1, g2, -⟩ := fenced_c (k2 := k2) (u := u) (v := v) (q := q) hW.1 hW.2.1 hq1
    have hb' : b = 0 ∨ b = 1 := by omega
    generalize hs1 : q_it2 (m_X7_eat_L14 k k2 (nI e) K73) f1 = self1
    generalize hs2 : q_it2 (m_X11_leftByPath_L11 (nI e) (nI (9 * e)) K81 K101) f2 = self2
    rcases hb' with rfl | rfl
    · obtain ⟨r, s2, u2, v2, p0, p1, p2, p3, w1⟩ := pick_s (x4 := nI (9 * e)) (x5 := nI (i + 1)) (K81 := fun u_7 => K81 u_7) (K95 := fun x3_8 u_9 => self2 x3_8 (nI (i + 1 + 1)) u_9) (s := s + 1) (e := e) hS hW hP hP5 hE hE1 he hq1 hs
      have hC : q_it2 (m_X7_eat_L14 k k2 (nI e) K73) (f1 + 1) (nI (s + 1)) (nI i) u = self1 (nI s2) (nI (i + 1)) u2 := by
        show m_X7_eat_L14 _ _ _ _ (q_it2 (m_X7_eat_L14 k k2 (nI e) K73) f1) _ _ _ = _
        rw [hs1]
        unfold m_X7_eat_L14
        have c4 : (nI 0).toInt = 0 := rfl
        simp only [a1, Option.bind_some, if_neg c1, if_neg c2, st, q_bd_some, g1, q_jn, c4, if_true, p1, lit_n, nI_add]
      have hR : q_it2 (m_X11_leftByPath_L11 (nI e) (nI (9 * e)) K81 K101) (f2 + 1) (nI (s + 1)) (nI (i + 1)) v = q_it2 (m_X11_leftByPath_L57 (nI e) (nI (9 * e)) (nI (i + 1)) (nI q) (fun u_7 => K81 u_7) (fun x3_8 u_9 => self2 x3_8 (nI (i + 1 + 1)) u_9)) q_F (nI (s + 1)) r v := by
        show m_X11_leftByPath_L11 _ _ _ _ (q_it2 (m_X11_leftByPath_L11 (nI e) (nI (9 * e)) K81 K101) f2) _ _ _ = _
        rw [hs2]
        unfold m_X11_leftByPath_L11
        have c4 : (nI 0).toInt = 0 := rfl
        simp only [lit_n, mI_lit, nI_add, b1, b2, Option.bind_some, if_neg d1, g2, q_bd_some, q_jn, c4, if_true, p2]
      have fx : ∀ c, 19 ≤ c → c < 23 → u2.1 c = u.1 c := fun c a b => w1.1.1 c (by omega) (by omega) (by omega) (by omega) (by omega) (Or.inr (by omega))
      have fy : v2.1 178 = v.1 178 := w1.2.1.1 178 (by omega) (by omega) (by omega) (Or.inr (by omega))
      have P2 : v2.1 163 6 = nI P := by rw [w1.2.1.2.1 6 (by omega) (by omega) (by omega)]; exact hP
      have E2 : v2.1 163 7 = nI E := by rw [w1.2.1.2.1 7 (by omega) (by omega) (by omega)]; exact hE
      obtain ⟨s3, u3, v3, r0, r1, r2, w2⟩ := path_it (K73 := K73) (K81 := K81) (K101 := K101) hP5 hE1 he hM8 n (i + 1) s2 f1 f2 u2 v2 (w1.st hS) w1.2.2.1 P2 E2 (by omega) (by omega) (by omega) (by omega) (by rw [fx 20 (by omega) (by omega)]; exact hu) (by rw [fy]; exact hM) (by rw [fy, fx 21 (by omega) (by omega)]; exact hq)
      rw [hs1] at r1
      rw [hs2] at r2
      rcases p3 with p3 | ⟨hz, p3⟩
      · refine ⟨s3, u3, v3, by omega, hC.trans r1, ?_, w1.trans w2 (fun j hj => hj.elim id id)⟩
        rw [hR, p3]; exact r2
      · subst hz
        refine ⟨0, u2, v2, by omega, hC.trans ?_, Or.inr ⟨rfl, hR.trans p3⟩, w1⟩
        rw [← hs1]
        cases f1 with
        | zero => omega
        | succ f1 =>
          show m_X7_eat_L14 _ _ _ _ _ _ _ _ = _
          unfold m_X7_eat_L14
          have a1' : q_ald u2 20 10 (nI e) = some (nI M) := by rw [ald_n (by omega) (by omega), fx 20 (by omega) (by omega), hu]
          have c2' : (nI 0).toInt ≤ 0 := by decide
          simp only [a1', Option.bind_some, if_pos c2', ite_self]
    · have hC : q_it2 (m_X7_eat_L14 k k2 (nI e) K73) (f1 + 1) (nI (s + 1)) (nI i) u = self1 (nI (s + 1)) (nI (i + 1)) u := by
        show m_X7_eat_L14 _ _ _ _ (q_it2 (m_X7_eat_L14 k k2 (nI e) K73) f1) _ _ _ = _
        rw [hs1]
        unfold m_X7_eat_L14
        have c4 : ¬ (nI 1).toInt = 0 := by decide
        simp only [a1, Option.bind_some, if_neg c1, if_neg c2, st, q_bd_some, g1, q_jn, if_neg c4, lit_n, nI_add]
      have hz : q_it2 (m_X11_leftByPath_L57 (nI e) (nI (9 * e)) (nI (i + 1)) (nI q) (fun u_7 => K81 u_7) (fun x3_8 u_9 => self2 x3_8 (nI (i + 1 + 1)) u_9)) q_F (nI (s + 1)) mI v = self2 (nI (s + 1)) (nI (i + 1 + 1)) v := left_n (g := 2999)
      have hR : q_it2 (m_X11_leftByPath_L11 (nI e) (nI (9 * e)) K81 K101) (f2 + 1) (nI (s + 1)) (nI (i + 1)) v = self2 (nI (s + 1)) (nI (i + 1 + 1)) v := by
        show m_X11_leftByPath_L11 _ _ _ _ (q_it2 (m_X11_leftByPath_L11 (nI e) (nI (9 * e)) K81 K101) f2) _ _ _ = _
        rw [hs2]
        unfold m_X11_leftByPath_L11
        have c4 : ¬ (nI 1).toInt = 0 := by decide
        simp only [lit_n, mI_lit, nI_add, b1, b2, Option.bind_some, if_neg d1, g2, q_bd_some, q_jn, if_neg c4, hz]
      obtain ⟨s3, u3, v3, r0, r1, r2, w2⟩ := path_it (K73 := K73) (K81 := K81) (K101 := K101) hP5 hE1 he hM8 n (i + 1) (s + 1) f1 f2 u v hS hW hP hE (by omega) (by omega) (by omega) hs hu hM hq
      rw [hs1] at r1
      rw [hs2] at r2
      refine ⟨s3, u3, v3, by omega, hC.trans r1, ?_, w2⟩
      rw [hR]; exact r2
end
