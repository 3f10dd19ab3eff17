/-! LAYER 2: one eats; all eat -/
section
variable {tr th tg : Bool} {k k2 : Nat}
theorem spoon_s {e P E s : Nat} {K79 : Int32 → qS → qR} {u v : qS} (hS : ST tr k k2 u v) (hW : WK tr th tg k k2 u v) (hP : v.1 163 6 = nI P) (hP5 : P ≤ 5) (hE : v.1 163 7 = nI E) (hE1 : E ≤ 10) (he : e < E) (hs : s < 100) :
    ∃ (s2 : Nat) (u2 v2 : qS), s2 ≤ s ∧ m_X7_spoon k k2 (nI e) (nI s) u = some (nI s2, u2) ∧ q_it2 (m_X11_isHungry_L25 (nI e) K79) q_F (nI s) (enc (bJ (v.1 164) e P)) v = K79 (nI s2) v2 ∧ WQ tr th tg k k2 u v SJ u2 v2 := by
  obtain ⟨s2, u2, v2, a0, a1, a2, a3⟩ := spoon_out (K79 := K79) hP5 hE1 he 5 0 s q_F q_F u v hS hW hP hE (by omega) (by rw [q_F_eq]; omega) (by rw [q_F_eq]; omega) hs (Nat.le_trans (ct_le _ _) hP5)
  exact ⟨s2, u2, v2, a0, a1, a2, a3⟩
def SE (j : Nat) : Prop := j = 1 ∨ j = 2 ∨ (5 ≤ j ∧ j < 10) ∨ (15 ≤ j ∧ j < 20) ∨ (62 ≤ j ∧ j < 76) ∨ 86 ≤ j
/-- up to the end of the jam: s2 are still wanted -/
theorem hung_s {e P E : Nat} {u v : qS} (hS : ST tr k k2 u v) (hW : WK tr th tg k k2 u v) (hP : v.1 163 6 = nI P) (hP5 : P ≤ 5) (hE : v.1 163 7 = nI E) (hE1 : E ≤ 10) (he : e < E) :
    ∃ (s2 : Nat) (u2 v2 : qS), s2 < 100 ∧ m_X7_eat k k2 (nI e) u = (if (nI s2).toInt ≤ 0 then
      some (nI 0, u2)
    else
      q_bd (m_X7_note k k2 (nI 5) (nI e) (nI s2) u2) fun _ u_12 =>
      q_let (q_up u_12 k 1 ((u_12.1 k 1) + nI 1)) fun u_13 =>
      if (u_13.1 k 2).toInt = mI.toInt then
        q_let (q_up u_13 k 2 (nI e)) fun u_14 =>
        q_let (q_up u_14 k 3 (u_14.1 k2 0)) fun u_15 =>
        some (nI 0, u_15)
      else
        some (nI 0, u_13)) ∧ m_X11_isHungry (nI e) v = (if 0 < (nI s2).toInt then
        q_bd (m_X11_notes (nI 5) (nI e) (nI s2) v2) fun _ u_11 =>
        some (nI 1, u_11)
      else
        some (nI 0, v2)) ∧ WQ tr th tg k k2 u v SE u2 v2 := by
  have hk := hS.1.k
  obtain ⟨s1, a1, e1⟩ := wants_c (u := u) (e := e) hS.1.k2 hW.1 hS.2.2.1 (by omega)
  obtain ⟨s1', a1', e2⟩ := want_r (v := v) (X := u.1) (e := e) hS.2.2.1 (by omega)
  have hr := hd_rng (m := 20) (r := tF u.1 12 (aF (q_rm (v.1 164 0) (nI 52)) (nI 0) (nI 0) (nI 0) (nI 0) (v.1 164 (76 + e)) (nI 0) (nI 0) (nI 0)) (nI 1) (v.1 164 (76 + e))) (by omega)
  obtain ⟨s, hs20, hs1, -⟩ := nI_ex (b := 20) hr.1 hr.2 (by omega)
  have hwF : wantF u.1 (v.1 164) e = nI s := hs1
  rw [hwF] at e1 e2
  have w0 : WQ tr th tg k k2 u v SP (sc u s1 a1) (sr v s1' a1') := ⟨FX.rfl'.sc hS.1, FY.rfl'.sr, (hW.sc hS.1).sr, fun _ _ => rfl⟩
  have S0 := w0.st hS
  obtain ⟨-, hpa⟩ := S0.2.2.2.1
  obtain ⟨M, hM8, hM1, hM2, hM3, -⟩ := hpa e (by omega)
  obtain ⟨s2, u2, v2, p0, p1, p2, w1⟩ := path_it (e := e) (P := P) (E := E) (M := M) (K73 := fun x4 u_9 =>
    q_bd (m_X7_spoon k k2 (nI e) x4 u_9) fun r_10 u_11 =>
    if r_10.toInt ≤ 0 then
      some (nI 0, u_11)
    else
      q_bd (m_X7_note k k2 (nI 5) (nI e) r_10 u_11) fun _ u_12 =>
      q_let (q_up u_12 k 1 ((u_12.1 k 1) + nI 1)) fun u_13 =>
      if (u_13.1 k 2).toInt = mI.toInt then
        q_let (q_up u_13 k 2 (nI e)) fun u_14 =>
        q_let (q_up u_14 k 3 (u_14.1 k2 0)) fun u_15 =>
        some (nI 0, u_15)
      else
        some (nI 0, u_13)) (K81 := fun u_12 => some (mI, u_12)) (K101 := fun x3 u_13 => some (x3, u_13)) hP5 hE1 he hM8 M 0 s q_F q_F (sc u s1 a1) (sr v s1' a1') S0 w0.2.2.1 hP hE (by omega) (by rw [q_F_eq]; omega) (by rw [q_F_eq]; omega) (by omega) hM1 hM2 hM3
  have w01 := w0.trans w1 (S3 := SP) (fun j h => h.elim id id)
  have P2 : v2.1 163 6 = nI P := by rw [w01.2.1.2.1 6 (by omega) (by omega) (by omega)]; exact hP
  have E2 : v2.1 163 7 = nI E := by rw [w01.2.1.2.1 7 (by omega) (by omega) (by omega)]; exact hE
  obtain ⟨s3, u3, v3, q0, q1, q2, w2⟩ := spoon_s (e := e) (s := s2) (K79 := fun x2 u_10 =>
      if 0 < x2.toInt then
        q_bd (m_X11_notes (nI 5) (nI e) x2 u_10) fun _ u_11 =>
        some (nI 1, u_11)
      else
        some (nI 0, u_10)) (w01.st hS) w01.2.2.1 P2 hP5 E2 hE1 he (by omega)
  have w3 := w01.trans w2 (S3 := SE) (fun j h => by unfold SP SJ at h; unfold SE; omega)
  have jr := jam_r (v := v2) (e := e) w01.2.2.1.2.1 P2 hP5 hE1 he
  have hC : m_X7_eat k k2 (nI e) u = (if (nI s3).toInt ≤ 0 then
      some (nI 0, u3)
    else
      q_bd (m_X7_note k k2 (nI 5) (nI e) (nI s3) u3) fun _ u_12 =>
      q_let (q_up u_12 k 1 ((u_12.1 k 1) + nI 1)) fun u_13 =>
      if (u_13.1 k 2).toInt = mI.toInt then
        q_let (q_up u_13 k 2 (nI e)) fun u_14 =>
        q_let (q_up u_14 k 3 (u_14.1 k2 0)) fun u_15 =>
        some (nI 0, u_15)
      else
        some (nI 0, u_13)) := by
    unfold m_X7_eat
    simp only [e1, q_bd_some, lit_n, mI_lit]
    simp only [q_let] at p1 ⊢
    rw [p1, q1, q_bd_some]
  rcases p2 with p2 | ⟨hz, p2⟩
  · refine ⟨s3, u3, v3, by omega, hC, ?_, w3⟩
    unfold m_X11_isHungry m_X11_leftByPath
    simp only [e2, q_bd_some, lit_n, mI_lit, q_let, pk_mul]
    rw [show (0 : Nat) + 1 = 1 from rfl] at p2
    rw [p2, q_bd_some]
    by_cases h0 : s2 = 0
    · have hs3 : s3 = 0 := by omega
      rw [q_jn, if_pos (by rw [h0]; decide), h0]
      rw [h0, hs3] at q2
      have hz2 : ∀ x3 : Int32, q_it2 (m_X11_isHungry_L25 (nI e) (fun x2 u_10 =>
        if 0 < x2.toInt then
          q_bd (m_X11_notes (nI 5) (nI e) x2 u_10) fun _ u_11 =>
          some (nI 1, u_11)
        else
          some (nI 0, u_10))) q_F (nI 0) x3 v2 = some (nI 0, v2) := fun x3 => (hung_z (g := 2999)).trans (if_neg (by decide))
      rw [hz2] at q2
      have hv : v2 = v3 := by
        have := q2
        rw [if_neg (by decide)] at this
        exact (Prod.mk.inj (Option.some.inj this)).2
      dsimp only
      rw [hz2, hs3, if_neg (by decide), hv]
    · rw [q_jn, if_neg (by rw [nI_t (by omega)]; omega), jr, q_bd_some]
      exact q2
  · subst hz
    have hs3 : s3 = 0 := by omega
    subst hs3
    have hz2 : ∀ x3 : Int32, q_it2 (m_X11_isHungry_L25 (nI e) (fun x2 u_10 =>
        if 0 < x2.toInt then
          q_bd (m_X11_notes (nI 5) (nI e) x2 u_10) fun _ u_11 =>
          some (nI 1, u_11)
        else
          some (nI 0, u_10))) q_F (nI 0) x3 v2 = some (nI 0, v2) := fun x3 => (hung_z (g := 2999)).trans (if_neg (by decide))
    rw [hz2] at q2
    have hv : v2 = v3 := by
      have := q2
      rw [if_neg (by decide)] at this
      exact (Prod.mk.inj (Option.some.inj this)).2
    refine ⟨0, u3, v3, by omega, hC, ?_, w3⟩
    rw [if_neg (by decide)]
    unfold m_X11_isHungry m_X11_leftByPath
    simp only [e2, q_bd_some, lit_n, mI_lit, q_let, pk_mul]
    rw [show (0 : Nat) + 1 = 1 from rfl] at p2
    rw [p2, q_bd_some, q_jn, if_pos (by rw [mI_t]; decide)]
    show m_X11_isHungry_L25 _ _ _ _ _ _ = _
    unfold m_X11_isHungry_L25
    rw [if_pos (by rw [mI_t]; decide)]
    dsimp only
    rw [if_neg (by rw [mI_t]; decide), hv]
/-- as FX, but for the season's own counts -/
def FZ (k k2 : Nat) (tr : Bool) (u u2 : qS) : Prop := (∀ c, (c < k2 ∨ k2 + 10 ≤ c) → c ≠ k → c ≠ k + 1 → c ≠ 17 → c ≠ 18 → (tr = false ∨ c ≠ 32) → u2.1 c = u.1 c) ∧ u2.1 k 0 = u.1 k 0 ∧ u2.2 = u.2
theorem FX.z {u u2 : qS} (h : FX k k2 tr u u2) : FZ k k2 tr u u2 := ⟨h.1, by rw [h.2.1], h.2.2⟩
theorem FZ.trans {u u1 u2 : qS} (h : FZ k k2 tr u u1) (h2 : FZ k k2 tr u1 u2) : FZ k k2 tr u u2 :=
  ⟨fun c a b d e f g => (h2.1 c a b d e f g).trans (h.1 c a b d e f g), h2.2.1.trans h.2.1, h2.2.2.trans h.2.2⟩
theorem FZ.upk {j : Nat} {u u1 : qS} {x : Int32} (h : FZ k k2 tr u u1) (hj : j ≠ 0) : FZ k k2 tr u (q_up u1 k j x) := by
  refine ⟨fun a h1 h2 h3 h4 h5 h6 => ?_, ?_, h.2.2⟩
  · rw [q_up_1, if_neg h2]; exact h.1 a h1 h2 h3 h4 h5 h6
  · rw [q_up_1, if_pos rfl, upd_g, if_neg (fun e => hj e.symm)]; exact h.2.1
def WZ (tr th tg : Bool) (k k2 : Nat) (u v : qS) (S : Nat → Prop) (u2 v2 : qS) : Prop := FZ k k2 tr u u2 ∧ FY tr v v2 ∧ WK tr th tg k k2 u2 v2 ∧ ∀ j, ¬ S j → v2.1 164 j = v.1 164 j
theorem WQ.z {u v u2 v2 : qS} {S : Nat → Prop} (h : WQ tr th tg k k2 u v S u2 v2) : WZ tr th tg k k2 u v S u2 v2 := ⟨h.1.z, h.2.1, h.2.2.1, h.2.2.2⟩
theorem WZ.trans {u v u1 v1 u2 v2 : qS} {S S2 S3 : Nat → Prop} (h : WZ tr th tg k k2 u v S u1 v1) (h2 : WZ tr th tg k k2 u1 v1 S2 u2 v2) (hs : ∀ j, S j ∨ S2 j → S3 j) : WZ tr th tg k k2 u v S3 u2 v2 :=
  ⟨h.1.trans h2.1, h.2.1.trans h2.2.1, h2.2.2.1, fun j hj => (h2.2.2.2 j (fun e => hj (hs j (Or.inr e)))).trans (h.2.2.2 j (fun e => hj (hs j (Or.inl e))))⟩
theorem WZ.sub {u v u1 v1 : qS} {S S3 : Nat → Prop} (h : WZ tr th tg k k2 u v S u1 v1) (hs : ∀ j, S j → S3 j) : WZ tr th tg k k2 u v S3 u1 v1 :=
  ⟨h.1, h.2.1, h.2.2.1, fun j hj => h.2.2.2 j (fun e => hj (hs j e))⟩
theorem ST.mz {u v u2 v2 : qS} (h : ST tr k k2 u v) (hx : FZ k k2 tr u u2) (hy : FY tr v v2) : ST tr k k2 u2 v2 := by
  obtain ⟨h1, h2, h3, h4, h5, h6, h7⟩ := h
  have hk := h1.k
  have e163 : ∀ j, j ≠ 42 → j ≠ 44 → j ≠ 45 → v2.1 163 j = v.1 163 j := hy.2.1
  have ex : ∀ c, 12 ≤ c → c < 32 → c ≠ 17 → c ≠ 18 → u2.1 c = u.1 c := fun c a b d e => hx.1 c (by omega) (by omega) (by omega) d e (Or.inr (by omega))
  have ey : ∀ c, 168 ≤ c → c < 180 → v2.1 c = v.1 c := fun c a b => hy.1 c (by omega) (by omega) (by omega) (Or.inr (by omega))
  refine ⟨h1, ?_, h3.fr (fun c a b => ex c a (by omega) (by omega) (by omega)) (fun c a b => ey c (by omega) (by omega)), h4.fr (fun c a b => ex c (by omega) (by omega) (by omega) (by omega)) (ey 178 (by omega) (by omega)) (e163 36 (by omega) (by omega) (by omega)), h5.fr (fun c a b => ex c (by omega) (by omega) (by omega) (by omega)) (ey 179 (by omega) (by omega)) (e163 38 (by omega) (by omega) (by omega)) (e163 6 (by omega) (by omega) (by omega)) (e163 7 (by omega) (by omega) (by omega)), ?_, ?_⟩
  · unfold BG
    rw [e163 6 (by omega) (by omega) (by omega), e163 7 (by omega) (by omega) (by omega), e163 8 (by omega) (by omega) (by omega), e163 9 (by omega) (by omega) (by omega), e163 10 (by omega) (by omega) (by omega), e163 11 (by omega) (by omega) (by omega)]
    exact h2
  · rw [hx.2.1]; exact h6
  · rw [e163 5 (by omega) (by omega) (by omega)]; exact h7
theorem WZ.st {u v u1 v1 : qS} {S : Nat → Prop} (h : WZ tr th tg k k2 u v S u1 v1) (hS : ST tr k k2 u v) : ST tr k k2 u1 v1 := hS.mz h.1 h.2.1
theorem WK.sea {u v u2 v2 : qS} (h : WK tr th tg k k2 u v) (hm : MD tr k k2) (hx : ∀ c, c ≠ k → u2.1 c = u.1 c) (hy : ∀ c, c ≠ 163 → v2.1 c = v.1 c) (hz : ∀ j, j ≠ 44 → j ≠ 45 → v2.1 163 j = v.1 163 j) (ht : th = true → u2.1 k 2 = v2.1 163 44 ∧ u2.1 k 3 = v2.1 163 45) : WK tr th tg k k2 u2 v2 := by
  have hk := hm.k
  obtain ⟨h1, h2, h3, h4, h5⟩ := h
  refine ⟨?_, ?_, ?_, ht, ?_⟩
  · rw [hy 164 (by omega)]
    exact (h1.fr (fun c a b => hx c (by omega))).gr (hz 6 (by omega) (by omega)) (hz 7 (by omega) (by omega)) (hz 8 (by omega) (by omega)) (hz 9 (by omega) (by omega)) (hz 10 (by omega) (by omega)) (hz 11 (by omega) (by omega))
  · rw [hy 164 (by omega)]
    exact h2.gr (hz 6 (by omega) (by omega)) (hz 7 (by omega) (by omega))
  · rw [hx 32 (by omega), hy 167 (by omega)]; exact h3
  · rw [hx (k + 1) (by omega), hz 43 (by omega) (by omega), hz 42 (by omega) (by omega)]; exact h5
theorem eats_it {E : Nat} {x3 x4 c0 : Int32} {K2 : Int32 → qS → qR} (hE1 : E ≤ 10) :
    ∀ (m e f1 f2 : Nat) (n : Int32) (u v : qS), e + m = E → m < f1 → m < f2 → ST tr k k2 u v → WK tr th tg k k2 u v → v.1 163 7 = nI E → u.1 k 1 = c0 + n →
      ∃ n2 u2 v2, (∀ K1 : qS → qR, q_it1 (m_X7_pass_L70 k k2 x3 x4 K1) f1 (nI e) u = K1 u2) ∧ q_it2 (m_X11_eats_L4 K2) f2 n (nI e) v = K2 n2 v2 ∧ WZ tr th tg k k2 u v SE u2 v2 ∧ u2.1 k 1 = c0 + n2
  | m, e, 0, f2, n, u, v, hi, hf1, hf2, hS, hW, hE, hn => by omega
  | m, e, f1, 0, n, u, v, hi, hf1, hf2, hS, hW, hE, hn => by omega
  | 0, e, f1 + 1, f2 + 1, n, u, v, hi, hf1, hf2, hS, hW, hE, hn => by
    refine ⟨n, u, v, fun K1 => ?_, ?_, (WQ.rfl' hW).z, hn⟩
    · show m_X7_pass_L70 _ _ _ _ _ _ _ _ = _
      unfold m_X7_pass_L70
      rw [hW.1.eaters, hE, if_pos (by rw [nI_t (by omega), nI_t (by omega)]; omega)]
    · show m_X11_eats_L4 _ _ _ _ _ = _
      unfold m_X11_eats_L4
      rw [hE, if_pos (by rw [nI_t (by omega), nI_t (by omega)]; omega)]
  | m + 1, e, f1 + 1, f2 + 1, n, u, v, hi, hf1, hf2, hS, hW, hE, hn => by
    have hk := hS.1.k
    obtain ⟨P, hP5, hP, -⟩ := hS.2.1.P
    have c1 : ¬ (u.1 k2 9).toInt ≤ (nI e).toInt := by rw [hW.1.eaters, hE, nI_t (by omega), nI_t (by omega)]; omega
    have c2 : ¬ (v.1 163 7).toInt ≤ (nI e).toInt := by rw [hE, nI_t (by omega), nI_t (by omega)]; omega
    obtain ⟨s2, u2, v2, hs2, e1, e2, w1⟩ := hung_s (e := e) hS hW hP hP5 hE hE1 (by omega)
    -- one step of both loops
    have step : ∃ n2 u3 v3, WZ tr th tg k k2 u v SE u3 v3 ∧ u3.1 k 1 = c0 + n2 ∧ (∀ (K1 : qS → qR) (self : Int32 → qS → qR), m_X7_pass_L70 k k2 x3 x4 K1 self (nI e) u = self (nI (e + 1)) u3) ∧ (∀ self : Int32 → Int32 → qS → qR, m_X11_eats_L4 K2 self n (nI e) v = self n2 (nI (e + 1)) v3) := by
      by_cases h0 : s2 = 0
      · subst h0
        rw [if_pos (by decide)] at e1
        rw [if_neg (by decide)] at e2
        refine ⟨n, u2, v2, w1.z, by rw [w1.1.2.1]; exact hn, fun K1 self => ?_, fun self => ?_⟩
        · unfold m_X7_pass_L70
          simp only [if_neg c1, e1, q_bd_some, lit_n, nI_add]
        · unfold m_X11_eats_L4
          have c3 : (nI 0).toInt = 0 := rfl
          simp only [if_neg c2, e2, q_bd_some, lit_n, nI_add, q_jn, c3, if_true]
      · rw [if_neg (by rw [nI_t (by omega)]; omega)] at e1
        rw [if_pos (by rw [nI_t (by omega)]; omega)] at e2
        obtain ⟨u3, v3, n1, n2, w2⟩ := note_s (w := nI 5) (x := nI e) (y := nI s2) (w1.st hS) w1.2.2.1
        have w3 := (w1.trans w2 (S3 := SE) (fun j h => by unfold SE at h ⊢; omega)).z
        have hu3 : u3.1 k = u.1 k := w2.1.2.1.trans w1.1.2.1
        rw [n1, q_bd_some] at e1
        rw [n2, q_bd_some] at e2
        simp only [q_let, q_up_1, if_true, upd_g, if_neg (show ¬ (2 = 1) by omega)] at e1
        have c3 : ¬ (nI 1).toInt = 0 := by decide
        have wk3 := w3.2.2.1
        have hh4 := wk3.2.2.2.1
        have y0 : q_ald (q_up v3 163 44 (nI e)) 164 136 (nI 0) = some (v3.1 164 0) := by rw [ald_n (by omega) (by omega), q_up_1, if_neg (by omega)]
        have hwk : u3.1 k2 0 = v3.1 164 0 := wk3.1.week
        by_cases hA : (u3.1 k 2).toInt = mI.toInt
        · by_cases hB : (v3.1 163 44).toInt = mI.toInt
          · refine ⟨n + nI 1, q_up (q_up (q_up u3 k 1 (u3.1 k 1 + nI 1)) k 2 (nI e)) k 3 (v3.1 164 0), q_up (q_up v3 163 44 (nI e)) 163 45 (v3.1 164 0), ⟨((w3.1.upk (by omega)).upk (by omega)).upk (by omega), (w3.2.1.upk (by omega)).upk (by omega), ?_, ?_⟩, ?_, fun K1 self => ?_, fun self => ?_⟩
            · refine wk3.sea hS.1 (fun c hc => ?_) (fun c hc => ?_) (fun j h1 h2 => ?_) (fun _ => ⟨?_, ?_⟩)
              · simp only [q_up_1, if_neg hc]
              · simp only [q_up_1, if_neg hc]
              · simp only [q_up_1, if_true, upd_g, if_neg h1, if_neg h2]
              · simp only [q_up_1, if_true, upd_g, if_neg (show ¬ (2 = 3) by omega), if_neg (show ¬ (44 = 45) by omega)]
              · simp only [q_up_1, if_true, upd_g]
            · intro j hj; simp only [q_up_1, if_neg (show ¬ (164 = 163) by omega)]; exact w3.2.2.2 j hj
            · simp only [q_up_1, if_true, upd_g, if_neg (show ¬ (1 = 3) by omega), if_neg (show ¬ (1 = 2) by omega)]
              rw [hu3, hn, Int32.add_assoc]
            · unfold m_X7_pass_L70
              rw [if_neg c1, e1, if_pos hA, q_bd_some]
              simp only [q_up_1, if_neg (show ¬ (k2 = k) by omega), hwk, lit_n, nI_add]
            · unfold m_X11_eats_L4
              simp only [if_neg c2, e2, q_bd_some, lit_n, mI_lit, nI_add, q_jn, if_neg c3, q_let, if_pos hB, y0, Option.bind_some]
          · have hth : ¬ th = true := fun h => hB (by rw [← (hh4 h).1]; exact hA)
            refine ⟨n + nI 1, q_up (q_up (q_up u3 k 1 (u3.1 k 1 + nI 1)) k 2 (nI e)) k 3 (v3.1 164 0), v3, ⟨((w3.1.upk (by omega)).upk (by omega)).upk (by omega), w3.2.1, ?_, w3.2.2.2⟩, ?_, fun K1 self => ?_, fun self => ?_⟩
            · refine wk3.sea hS.1 (fun c hc => ?_) (fun c hc => rfl) (fun j h1 h2 => rfl) (fun h => absurd h hth)
              simp only [q_up_1, if_neg hc]
            · simp only [q_up_1, if_true, upd_g, if_neg (show ¬ (1 = 3) by omega), if_neg (show ¬ (1 = 2) by omega)]
              rw [hu3, hn, Int32.add_assoc]
            · unfold m_X7_pass_L70
              rw [if_neg c1, e1, if_pos hA, q_bd_some]
              simp only [q_up_1, if_neg (show ¬ (k2 = k) by omega), hwk, lit_n, nI_add]
            · unfold m_X11_eats_L4
              simp only [if_neg c2, e2, q_bd_some, lit_n, mI_lit, nI_add, q_jn, if_neg c3, q_let, if_neg hB]
        · by_cases hB : (v3.1 163 44).toInt = mI.toInt
          · have hth : ¬ th = true := fun h => hA (by rw [(hh4 h).1]; exact hB)
            refine ⟨n + nI 1, q_up u3 k 1 (u3.1 k 1 + nI 1), q_up (q_up v3 163 44 (nI e)) 163 45 (v3.1 164 0), ⟨w3.1.upk (by omega), (w3.2.1.upk (by omega)).upk (by omega), ?_, ?_⟩, ?_, fun K1 self => ?_, fun self => ?_⟩
            · refine wk3.sea hS.1 (fun c hc => ?_) (fun c hc => ?_) (fun j h1 h2 => ?_) (fun h => absurd h hth)
              · simp only [q_up_1, if_neg hc]
              · simp only [q_up_1, if_neg hc]
              · simp only [q_up_1, if_true, upd_g, if_neg h1, if_neg h2]
            · intro j hj; simp only [q_up_1, if_neg (show ¬ (164 = 163) by omega)]; exact w3.2.2.2 j hj
            · simp only [q_up_1, if_true, upd_g]
              rw [hu3, hn, Int32.add_assoc]
            · unfold m_X7_pass_L70
              rw [if_neg c1, e1, if_neg hA, q_bd_some]
              simp only [lit_n, nI_add]
            · unfold m_X11_eats_L4
              simp only [if_neg c2, e2, q_bd_some, lit_n, mI_lit, nI_add, q_jn, if_neg c3, q_let, if_pos hB, y0, Option.bind_some]
          · refine ⟨n + nI 1, q_up u3 k 1 (u3.1 k 1 + nI 1), v3, ⟨w3.1.upk (by omega), w3.2.1, ?_, w3.2.2.2⟩, ?_, fun K1 self => ?_, fun self => ?_⟩
            · refine wk3.sea hS.1 (fun c hc => ?_) (fun c hc => rfl) (fun j h1 h2 => rfl) (fun h => ?_)
              · simp only [q_up_1, if_neg hc]
              · simp only [q_up_1, if_true, upd_g, if_neg (show ¬ (2 = 1) by omega), if_neg (show ¬ (3 = 1) by omega)]
                exact hh4 h
            · simp only [q_up_1, if_true, upd_g]
              rw [hu3, hn, Int32.add_assoc]
            · unfold m_X7_pass_L70
              rw [if_neg c1, e1, if_neg hA, q_bd_some]
              simp only [lit_n, nI_add]
            · unfold m_X11_eats_L4
              simp only [if_neg c2, e2, q_bd_some, lit_n, mI_lit, nI_add, q_jn, if_neg c3, q_let, if_neg hB]
    obtain ⟨n2, u3, v3, wz, hn2, st1, st2⟩ := step
    obtain ⟨n4, u4, v4, r1, r2, w4, hn4⟩ := eats_it (x3 := x3) (x4 := x4) (K2 := K2) hE1 m (e + 1) f1 f2 n2 u3 v3 (by omega) (by omega) (by omega) (wz.st hS) wz.2.2.1 (by rw [wz.2.1.2.1 7 (by omega) (by omega) (by omega)]; exact hE) hn2
    exact ⟨n4, u4, v4, fun K1 => (st1 K1 _).trans (r1 K1), (st2 _).trans r2, wz.trans w4 (fun j h => h.elim id id), hn4⟩
end
