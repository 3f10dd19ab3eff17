/-! LAYER 2: who is strongest; a vote -/
def stro (f : Nat → Int32) (P : Nat) : Option Nat := bsg (fun _ => true) (fun q t => decide ((f (10 + q)).toInt < (f (10 + t)).toInt)) 0 P none
section
variable {tr th tg : Bool} {k k2 : Nat} {u v : qS}
theorem stroC_it {P : Nat} {f g : Nat → Int32} {K : Int32 → qS → qR} (hC : RC k2 u.1 f g) (hP : g 6 = nI P) (hP5 : P ≤ 5) :
    ∀ (n p fu : Nat) (b : Option Nat), p + n = P → n < fu → (∀ q, b = some q → q < P) → q_it2 (m_X0_partyWithMostSeats_L4 k2 K) fu (enc b) (nI p) u = K (enc (bsg (fun _ => true) (fun q t => decide ((f (10 + q)).toInt < (f (10 + t)).toInt)) p n b)) u
  | n, p, 0, b, hp, hf, hb => by omega
  | 0, p, fu + 1, b, hp, hf, hb => by
    show m_X0_partyWithMostSeats_L4 _ _ _ _ _ _ = _
    unfold m_X0_partyWithMostSeats_L4
    rw [hC.parties, hP, if_pos (by rw [nI_t (by omega), nI_t (by omega)]; omega)]; rfl
  | n + 1, p, fu + 1, b, hp, hf, hb => by
    have c1 : ¬ (u.1 k2 7).toInt ≤ (nI p).toInt := by rw [hC.parties, hP, nI_t (by omega), nI_t (by omega)]; omega
    have x3 : ∀ q, q < P → q_ald u (k2 + 3) 5 (nI q) = some (f (10 + q)) := fun q hq => by rw [ald_n (by omega) (by omega), hC.seats (by omega)]
    unfold bsg
    have key : ∀ b2 : Option Nat, (if (true : Bool) = true ∧ (∀ q, b = some q → decide ((f (10 + q)).toInt < (f (10 + p)).toInt) = true) then some p else b) = b2 → m_X0_partyWithMostSeats_L4 k2 K (q_it2 (m_X0_partyWithMostSeats_L4 k2 K) fu) (enc b) (nI p) u = q_it2 (m_X0_partyWithMostSeats_L4 k2 K) fu (enc b2) (nI (p + 1)) u := by
      intro b2 hb2
      generalize q_it2 (m_X0_partyWithMostSeats_L4 k2 K) fu = self
      unfold m_X0_partyWithMostSeats_L4
      simp only [lit_n, mI_lit, nI_add, if_neg c1, q_jn, x3 p (by omega), Option.bind_some]
      cases b with
      | none =>
        rw [if_pos ⟨rfl, fun q hq => by cases hq⟩] at hb2
        subst hb2
        rw [if_pos (show (enc none).toInt = mI.toInt from rfl)]; rfl
      | some q0 =>
        have hq0 := hb q0 rfl
        have em : ¬ (enc (some q0)).toInt = mI.toInt := by show ¬ (nI q0).toInt = mI.toInt; rw [nI_t (by omega), mI_t]; omega
        have x3' : q_ald u (k2 + 3) 5 (enc (some q0)) = some (f (10 + q0)) := x3 q0 hq0
        rw [if_neg em, x3', Option.bind_some]
        by_cases h1 : (f (10 + q0)).toInt < (f (10 + p)).toInt
        · rw [if_pos ⟨rfl, fun q hq => by cases hq; exact decide_eq_true h1⟩] at hb2
          subst hb2
          rw [if_neg (by omega)]; rfl
        · rw [if_neg (fun e => h1 (of_decide_eq_true (e.2 q0 rfl)))] at hb2
          subst hb2
          rw [if_pos (by omega)]
    refine (key _ rfl).trans ?_
    refine stroC_it hC hP hP5 n (p + 1) fu _ (by omega) (by omega) (fun q hq => ?_)
    split at hq
    · cases hq; omega
    · exact hb q hq
theorem stroR_it {P : Nat} {K : Int32 → qS → qR} (hP : v.1 163 6 = nI P) (hP5 : P ≤ 5) :
    ∀ (n p fu q0 : Nat), p + n = P → n < fu → q0 < P → q_it2 (m_X11_strongest_L15 K) fu (nI q0) (nI p) v = K (enc (bsg (fun _ => true) (fun q t => decide ((v.1 164 (10 + q)).toInt < (v.1 164 (10 + t)).toInt)) p n (some q0))) v
  | n, p, 0, q0, hp, hf, hq0 => by omega
  | 0, p, fu + 1, q0, hp, hf, hq0 => by
    show m_X11_strongest_L15 _ _ _ _ _ = _
    unfold m_X11_strongest_L15
    rw [hP, if_pos (by rw [nI_t (by omega), nI_t (by omega)]; omega)]; rfl
  | n + 1, p, fu + 1, q0, hp, hf, hq0 => by
    have c1 : ¬ (v.1 163 6).toInt ≤ (nI p).toInt := by rw [hP, nI_t (by omega), nI_t (by omega)]; omega
    have x3 : ∀ q, q < P → q_ald v 164 136 (nI (10 + q)) = some (v.1 164 (10 + q)) := fun q hq => ald_n (by omega) (by omega)
    unfold bsg
    by_cases h1 : (v.1 164 (10 + q0)).toInt < (v.1 164 (10 + p)).toInt
    · have ih := stroR_it (K := K) hP hP5 n (p + 1) fu p (by omega) (by omega) (by omega)
      rw [if_pos ⟨rfl, fun q hq => by cases hq; exact decide_eq_true h1⟩, ← ih]
      show m_X11_strongest_L15 _ (q_it2 (m_X11_strongest_L15 K) fu) _ _ _ = _
      generalize q_it2 (m_X11_strongest_L15 K) fu = self
      unfold m_X11_strongest_L15
      have c2 : ¬ (v.1 164 (10 + p)).toInt ≤ (v.1 164 (10 + q0)).toInt := by omega
      simp only [lit_n, nI_add, if_neg c1, x3 p (by omega), x3 q0 hq0, Option.bind_some, q_jn, if_neg c2]
    · have ih := stroR_it (K := K) hP hP5 n (p + 1) fu q0 (by omega) (by omega) hq0
      rw [if_neg (fun e => h1 (of_decide_eq_true (e.2 q0 rfl))), ← ih]
      show m_X11_strongest_L15 _ (q_it2 (m_X11_strongest_L15 K) fu) _ _ _ = _
      generalize q_it2 (m_X11_strongest_L15 K) fu = self
      unfold m_X11_strongest_L15
      have c2 : (v.1 164 (10 + p)).toInt ≤ (v.1 164 (10 + q0)).toInt := by omega
      simp only [lit_n, nI_add, if_neg c1, x3 p (by omega), x3 q0 hq0, Option.bind_some, q_jn, if_pos c2]
theorem stro_c {P : Nat} {f g : Nat → Int32} (hC : RC k2 u.1 f g) (hP : g 6 = nI P) (hP5 : P ≤ 5) : m_X0_partyWithMostSeats k2 u = some (enc (stro f P), u) := by
  unfold m_X0_partyWithMostSeats
  have := stroC_it (K := fun x1 u_5 => some (x1, u_5)) hC hP hP5 P 0 q_F none (by omega) (by rw [q_F_eq]; omega) (fun q hq => by cases hq)
  simp only [lit_n, mI_lit]
  exact this
theorem str_z {K : Int32 → qS → qR} {fu : Nat} (hP : v.1 163 6 = nI 0) : q_it2 (m_X11_strongest_L15 K) (fu + 1) mI (nI 1) v = K mI v := by
  show m_X11_strongest_L15 _ _ _ _ _ = _
  unfold m_X11_strongest_L15
  rw [hP, if_pos (by decide)]
theorem stro_r {P : Nat} (hP : v.1 163 6 = nI P) (hP5 : P ≤ 5) : m_X11_strongest v = some (enc (stro (v.1 164) P), v) := by
  unfold m_X11_strongest
  simp only [lit_n, mI_lit]
  rw [q_jn]
  by_cases h0 : P = 0
  · subst h0
    rw [if_pos (by rw [hP]; decide)]
    exact str_z (fu := 2999) hP
  · rw [if_neg (by rw [hP, nI_t (by omega)]; omega)]
    have := stroR_it (v := v) (K := fun x1 u_5 => some (x1, u_5)) hP hP5 (P - 1) 1 q_F 0 (by omega) (by rw [q_F_eq]; omega) (by omega)
    dsimp only
    rw [this]
    unfold stro
    obtain ⟨Q, hQ⟩ : ∃ Q, P = Q + 1 := ⟨P - 1, by omega⟩
    subst hQ
    rw [show Q + 1 - 1 = Q from rfl]
    conv => rhs; unfold bsg
    rw [if_pos ⟨rfl, fun q hq => by cases hq⟩]
theorem stro_lt {f : Nat → Int32} {P r : Nat} (h : stro f P = some r) : r < P := by
  unfold stro at h
  rcases bsg_c _ _ _ _ h with h1 | ⟨-, h2, -⟩
  · cases h1
  · omega
/-- the class's state when p parties are seated -/
def UV (k2 : Nat) (u : qS) (s : Nat → Int32) (p : Nat) : qS := q_st (q_st u (k2 + 3) (fun q => if q < p then s q else u.1 (k2 + 3) q)) (k2 + 2) (fun q => if q < p then nI 0 else u.1 (k2 + 2) q)
theorem UV_s {s : Nat → Int32} {p : Nat} : q_up (q_up (UV k2 u s p) (k2 + 3) p (s p)) (k2 + 2) p (nI 0) = UV k2 u s (p + 1) := by
  refine q_ext (fun c i => ?_) rfl
  unfold UV
  simp only [q_up_gg, q_st_g]
  by_cases h2 : c = k2 + 2
  · subst h2
    simp only [if_true, true_and, show ¬ (k2 + 2 = k2 + 3) by omega, false_and, if_false]
    by_cases h : i = p
    · subst h; rw [if_pos rfl, if_pos (by omega)]
    · rw [if_neg h]
      by_cases h3 : i < p
      · rw [if_pos h3, if_pos (by omega)]
      · rw [if_neg h3, if_neg (by omega)]
  · by_cases h1 : c = k2 + 3
    · subst h1
      simp only [if_true, true_and, show ¬ (k2 + 3 = k2 + 2) by omega, false_and, if_false]
      by_cases h : i = p
      · subst h; rw [if_pos rfl, if_pos (by omega)]
      · rw [if_neg h]
        by_cases h3 : i < p
        · rw [if_pos h3, if_pos (by omega)]
        · rw [if_neg h3, if_neg (by omega)]
    · simp only [h1, h2, false_and, if_false]
theorem elect_it {P : Nat} {s ga : Nat → Int32} {K : qS → qR} (hP5 : P ≤ 5) (hs : ∀ p, p < P → ∃ x : Nat, x ≤ 100 ∧ s p = nI x ∧ ga p = nI x) :
    ∀ (n p f : Nat) (w : qS), p + n = P → n < f → ST tr k k2 (UV k2 u s p) w → WK tr th tg k k2 (UV k2 u s p) w → w.1 163 6 = nI P → w.1 182 = ga →
      ∃ w2, q_it1 (m_X11_elects_L6 K) f (nI p) w = K w2 ∧ WK tr th tg k k2 (UV k2 u s P) w2 ∧ FY tr w w2 ∧ (∀ j, ¬ (5 ≤ j ∧ j < 15) → w2.1 164 j = w.1 164 j)
  | n, p, 0, w, hp, hf, hS, hW, h6, hg => by omega
  | 0, p, f + 1, w, hp, hf, hS, hW, h6, hg => by
    have : p = P := by omega
    subst this
    refine ⟨w, ?_, hW, FY.rfl', fun _ _ => rfl⟩
    show m_X11_elects_L6 _ _ _ _ = _
    unfold m_X11_elects_L6
    rw [h6, if_pos (by omega)]
  | n + 1, p, f + 1, w, hp, hf, hS, hW, h6, hg => by
    obtain ⟨x, hx, hx1, hx2⟩ := hs p (by omega)
    have w1 := WQ.seats (p := p) (x := x) hW hS h6 hP5 (by omega) hx
    have w2 := WQ.votes (p := p) (x := 0) w1.2.2.1 (w1.st hS) h6 hP5 (by omega) (by omega)
    have w3 := w1.trans w2 (S3 := fun j => 5 ≤ j ∧ j < 15) (by omega)
    rw [← hx1, UV_s] at w3
    have h63 : (q_up (q_up w 164 (10 + p) (s p)) 164 (5 + p) (nI 0)).1 163 6 = nI P := h6
    obtain ⟨w4, r1, r2, r3, r4⟩ := elect_it (K := K) hP5 hs n (p + 1) f _ (by omega) (by omega) (w3.st hS) w3.2.2.1 h63 hg
    refine ⟨w4, ?_, r2, w3.2.1.trans r3, fun j hj => (r4 j hj).trans (w3.2.2.2 j hj)⟩
    rw [← r1]
    show m_X11_elects_L6 _ (q_it1 (m_X11_elects_L6 K) f) _ _ = _
    generalize q_it1 (m_X11_elects_L6 K) f = self
    unfold m_X11_elects_L6
    have c1 : ¬ (w.1 163 6).toInt ≤ (nI p).toInt := by rw [h6, nI_t (by omega), nI_t (by omega)]; omega
    have x2 : q_ald w 182 5 (nI p) = some (s p) := by rw [ald_n (by omega) (by omega), hg, hx2, hx1]
    have y1 : ∀ (z : qS) y, q_ast z 164 136 (nI (10 + p)) y = some (q_up z 164 (10 + p) y) := fun z y => ast_n (by omega) (by omega)
    have y2 : ∀ (z : qS) y, q_ast z 164 136 (nI (5 + p)) y = some (q_up z 164 (5 + p) y) := fun z y => ast_n (by omega) (by omega)
    simp only [if_neg c1, x2, Option.bind_some, lit_n, nI_add, y1, y2]
theorem votes0_it {P : Nat} {u1 : qS} {K : qS → qR} (hk : (k = 88 ∧ k2 = 2) ∨ (k = 90 ∧ k2 = 92)) (hP5 : P ≤ 5) (h7 : u1.1 k2 7 = nI P) : ∀ (n p f : Nat) (r : Nat → Int32), p + n = P → n < f →
    q_it1 (m_X7_vote_L6 k k2 K) f (nI p) (q_st u1 (k2 + 2) r) = K (q_st u1 (k2 + 2) (fun q => if p ≤ q ∧ q < P then nI 0 else r q))
  | n, p, 0, r, hp, hf => by omega
  | 0, p, f + 1, r, hp, hf => by
    have : (fun q => if p ≤ q ∧ q < P then nI 0 else r q) = r := funext fun q => if_neg (by omega)
    rw [this]
    show m_X7_vote_L6 _ _ _ _ _ _ = _
    unfold m_X7_vote_L6
    rw [if_pos (by rw [q_st_g, if_neg (by omega), h7, nI_t (by omega), nI_t (by omega)]; omega)]
  | n + 1, p, f + 1, r, hp, hf => by
    have ih := votes0_it (K := K) hk hP5 h7 n (p + 1) f (upd r p (nI 0)) (by omega) (by omega)
    have e : (fun q => if p + 1 ≤ q ∧ q < P then nI 0 else upd r p (nI 0) q) = (fun q => if p ≤ q ∧ q < P then nI 0 else r q) := funext fun q => by
      rw [upd_g]
      by_cases h : q = p
      · subst h; rw [if_neg (by omega), if_pos rfl, if_pos (by omega)]
      · by_cases h2 : p + 1 ≤ q ∧ q < P
        · rw [if_pos h2, if_pos (by omega)]
        · rw [if_neg h2, if_neg h, if_neg (by omega)]
    rw [e] at ih
    rw [← ih]
    show m_X7_vote_L6 _ _ _ (q_it1 (m_X7_vote_L6 k k2 K) f) _ _ = _
    generalize q_it1 (m_X7_vote_L6 k k2 K) f = self
    unfold m_X7_vote_L6
    have c1 : ¬ ((q_st u1 (k2 + 2) r).1 k2 7).toInt ≤ (nI p).toInt := by rw [q_st_g, if_neg (by omega), h7, nI_t (by omega), nI_t (by omega)]; omega
    have y1 : ∀ z, q_ast (q_st u1 (k2 + 2) r) (k2 + 2) 5 (nI p) z = some (q_st u1 (k2 + 2) (upd r p z)) := fun z => by rw [q_ast_ok (by omega) (by omega), q_st_st, q_st_g, if_pos rfl]
    simp only [if_neg c1, lit_n, nI_add, y1, Option.bind_some]
theorem vote_s (hS : ST tr k k2 u v) (hW : WK tr th tg k k2 u v) : ∃ u2 v2, m_X7_vote k k2 u = some (nI 0, u2) ∧ m_X11_elects v = some (nI 0, v2) ∧ WQ tr th tg k k2 u v (fun j => j = 2 ∨ (5 ≤ j ∧ j < 15)) u2 v2 := by
  have hk := hS.1.k
  obtain ⟨P, hP5, hP, -⟩ := hS.2.1.P
  obtain ⟨s, ga, re, e1, e2, hs, hsP⟩ := seat_s (k2 := k2) (u := u) (v := v) hS.1.k2 hW.1 hW.2.1 hS.2.1 hP hP5
  have hU0 : UV k2 u s 0 = u := by
    unfold UV
    rw [show (fun q => if q < 0 then s q else u.1 (k2 + 3) q) = u.1 (k2 + 3) from funext fun q => if_neg (by omega), q_st_self rfl, show (fun q => if q < 0 then nI 0 else u.1 (k2 + 2) q) = u.1 (k2 + 2) from funext fun q => if_neg (by omega), q_st_self rfl]
  have hY1 : FY tr v (q_st (q_st v 182 ga) 183 re) := (FY.rfl'.st (by omega)).st (by omega)
  have hW1 : WK tr th tg k k2 u (q_st (q_st v 182 ga) 183 re) := hW
  obtain ⟨w2, r1, r2, r3, r4⟩ := elect_it (u := u) (K := fun u_4 =>
    q_bd (m_X11_strongest  u_4) fun r u_5 =>
    q_jn (fun (s0 : Int32) (u_6 : qS) =>
      q_bd (m_X11_notes (nI 7) r s0 u_6) fun _ u_7 =>
      some (nI 0, u_7)) fun J71 =>
    if r.toInt = mI.toInt then
      J71 (nI 0) u_5
    else
      Option.bind (q_ald u_5 164 136 (nI 10 + r)) fun a =>
      J71 a u_5) hP5 hs P 0 q_F (q_st (q_st v 182 ga) 183 re) (by omega) (by rw [q_F_eq]; omega) (by rw [hU0]; exact hS.mv FX.rfl' hY1) (by rw [hU0]; exact hW1) hP (by rw [q_st_g, if_neg (by omega), q_st_g, if_pos rfl])
  have r1' := votes0_it (u1 := q_st u (k2 + 3) s) (K := fun u_3 =>
    q_bd (m_X0_partyWithMostSeats k2 u_3) fun r u_4 =>
    q_jn (fun (s0 : Int32) (u_5 : qS) =>
      q_bd (m_X7_note k k2 (nI 7) r s0 u_5) fun _ u_6 =>
      some (nI 0, u_6)) fun J53 =>
    if r.toInt = mI.toInt then
      J53 (nI 0) u_4
    else
      Option.bind (q_ald u_4 (k2 + 3) 5 r) fun a =>
      J53 a u_4) hk hP5 (by rw [q_st_g, if_neg (by omega), hW.1.parties, hP]) P 0 q_F ((q_st u (k2 + 3) s).1 (k2 + 2)) (by omega) (by rw [q_F_eq]; omega)
  rw [q_st_self rfl] at r1'
  have hUP : q_st (q_st u (k2 + 3) s) (k2 + 2) (fun q => if 0 ≤ q ∧ q < P then nI 0 else (q_st u (k2 + 3) s).1 (k2 + 2) q) = UV k2 u s P := by
    unfold UV
    rw [show (fun q => if q < P then s q else u.1 (k2 + 3) q) = s from funext fun q => by
      by_cases h : q < P
      · rw [if_pos h]
      · rw [if_neg h, hsP q (by omega)]]
    have e22 : (q_st u (k2 + 3) s).1 (k2 + 2) = u.1 (k2 + 2) := by rw [q_st_g, if_neg (by omega)]
    rw [e22]
    have e23 : (fun q => if 0 ≤ q ∧ q < P then nI 0 else u.1 (k2 + 2) q) = (fun q => if q < P then nI 0 else u.1 (k2 + 2) q) := funext fun q => by
      by_cases h : q < P
      · rw [if_pos ⟨by omega, h⟩, if_pos h]
      · rw [if_neg (fun e => h e.2), if_neg h]
    rw [e23]
  rw [hUP] at r1'
  have hXP : FX k k2 tr u (UV k2 u s P) := by
    unfold UV
    exact (FX.rfl'.st (by omega) (by omega)).st (by omega) (by omega)
  have w1 : WQ tr th tg k k2 u v (fun j => 5 ≤ j ∧ j < 15) (UV k2 u s P) w2 := ⟨hXP, hY1.trans r3, r2, fun j hj => r4 j hj⟩
  have S2 := w1.st hS
  have P2 : w2.1 163 6 = nI P := by rw [w1.2.1.2.1 6 (by omega) (by omega) (by omega)]; exact hP
  have sc' := stro_c (k2 := k2) (u := UV k2 u s P) r2.1 P2 hP5
  have sr' := stro_r (v := w2) P2 hP5
  have hC : ∀ K : qS → qR, True := fun _ => trivial
  have hcl : m_X7_vote k k2 u = q_bd (m_X0_partyWithMostSeats k2 (UV k2 u s P)) fun r u_4 =>
    q_jn (fun (s0 : Int32) (u_5 : qS) =>
      q_bd (m_X7_note k k2 (nI 7) r s0 u_5) fun _ u_6 =>
      some (nI 0, u_6)) fun J53 =>
    if r.toInt = mI.toInt then
      J53 (nI 0) u_4
    else
      Option.bind (q_ald u_4 (k2 + 3) 5 r) fun a =>
      J53 a u_4 := by
    unfold m_X7_vote
    simp only [lit_n, mI_lit]
    rw [e1, q_bd_s', r1']
  have hrf : m_X11_elects v = q_bd (m_X11_strongest  w2) fun r u_5 =>
    q_jn (fun (s0 : Int32) (u_6 : qS) =>
      q_bd (m_X11_notes (nI 7) r s0 u_6) fun _ u_7 =>
      some (nI 0, u_7)) fun J71 =>
    if r.toInt = mI.toInt then
      J71 (nI 0) u_5
    else
      Option.bind (q_ald u_5 164 136 (nI 10 + r)) fun a =>
      J71 a u_5 := by
    unfold m_X11_elects
    simp only [lit_n, mI_lit]
    rw [e2, q_bd_s', r1]
  cases hb : stro (w2.1 164) P with
  | none =>
    rw [hb] at sc' sr'
    obtain ⟨u3, v3, n1, n2, w3⟩ := note_s (w := nI 7) (x := enc none) (y := nI 0) S2 r2
    refine ⟨u3, v3, ?_, ?_, w1.trans w3 (by omega)⟩
    · rw [hcl, sc', q_bd_some, q_jn, if_pos (show (enc none).toInt = mI.toInt from rfl)]; dsimp only; rw [n1, q_bd_some]
    · rw [hrf, sr', q_bd_some, q_jn, if_pos (show (enc none).toInt = mI.toInt from rfl)]; dsimp only; rw [n2, q_bd_some]
  | some r =>
    rw [hb] at sc' sr'
    have hr := stro_lt hb
    have em : ¬ (enc (some r)).toInt = mI.toInt := by show ¬ (nI r).toInt = mI.toInt; rw [nI_t (by omega), mI_t]; omega
    have x3 : q_ald (UV k2 u s P) (k2 + 3) 5 (enc (some r)) = some (w2.1 164 (10 + r)) := by
      show q_ald _ _ _ (nI r) = _
      rw [ald_n (by omega) (by omega), r2.1.seats (by omega)]
    have y3 : q_ald w2 164 136 (nI 10 + enc (some r)) = some (w2.1 164 (10 + r)) := by
      show q_ald _ _ _ (nI 10 + nI r) = _
      rw [nI_add, ald_n (by omega) (by omega)]
    obtain ⟨u3, v3, n1, n2, w3⟩ := note_s (w := nI 7) (x := enc (some r)) (y := w2.1 164 (10 + r)) S2 r2
    refine ⟨u3, v3, ?_, ?_, w1.trans w3 (by omega)⟩
    · rw [hcl, sc', q_bd_some, q_jn, if_neg em, x3, Option.bind_some]; dsimp only; rw [n1, q_bd_some]
    · rw [hrf, sr', q_bd_some, q_jn, if_neg em, y3, Option.bind_some]; dsimp only; rw [n2, q_bd_some]
end
