/-! LAYER 2: THE CALLS, 25: the tokens one behind the other -/
def bl (N : Nat) (z : Nat → Int) (p : Nat) : Nat := rnF zB z (N - p) p
def te (N : Nat) (z : Nat → Int) (q : Nat) : Nat := if zL (z q) = true then rnF zL z (N - (q + 1)) (q + 1) else if zD (z q) = true then rnF zD z (N - (q + 1)) (q + 1) else if q < N then q + 1 else q
def tpo (N : Nat) (z : Nat → Int) : Nat → Nat
  | 0 => 0
  | i + 1 => te N z (bl N z (tpo N z i))
def tq (N : Nat) (z : Nat → Int) (i : Nat) : Nat := bl N z (tpo N z i)
def oT : Option Nat → Nat × Nat
  | none => (1, 0)
  | some w => (2, w)
def tt (N : Nat) (z : Nat → Int) (q : Nat) : Nat × Nat := if N ≤ q then (0, 0) else if zL (z q) = true then oT (fI z q (te N z q) 25 0) else if zD (z q) = true then (if te N z q - q < 5 then (3, nv z (te N z q - q) q 0) else (1, 0)) else if zS (z q) = true then (4, (z q).toNat) else (1, 0)
def ck (si : Nat) (t : Nat × Nat) : Nat := if t.1 = 0 then 0 else if t.1 = 2 then kc si (some t.2) else if t.1 = 3 then 1 else if t.1 = 4 then t.2 else 2
section
variable {N : Nat} {z : Nat → Int} {u v : qS}
theorem TP.e (hT : TP N z) : z N = -1 := hT.2.2 N (Nat.le_refl _)
theorem bl_le {p : Nat} (hp : p ≤ N) : p ≤ bl N z p ∧ bl N z p ≤ N := by
  have := rn_ge (P := zB) (z := z) (N - p) p
  unfold bl
  omega
theorem bl_n (hT : TP N z) {p : Nat} (hp : p ≤ N) : zB (z (bl N z p)) = false := by
  refine rn_not _ _ ?_
  rw [show p + (N - p) = N by omega, hT.e]; rfl
theorem bl_s {p : Nat} (hp : p < N) (h : zB (z p) = true) : bl N z p = bl N z (p + 1) := by
  unfold bl
  rw [show N - p = (N - (p + 1)) + 1 by omega]
  show (if zB (z p) = true then _ else _) = _
  rw [if_pos h]
theorem bl_0 {p : Nat} (h : zB (z p) = false) : bl N z p = p := by
  unfold bl
  cases N - p with
  | zero => rfl
  | succ n =>
    show (if zB (z p) = true then _ else _) = _
    rw [if_neg (by rw [h]; decide)]
theorem te_le (hT : TP N z) {q : Nat} (hq : q ≤ N) : te N z q ≤ N ∧ (q < N → q < te N z q) := by
  unfold te
  by_cases e : q = N
  · subst e
    rw [if_neg (by rw [hT.e]; decide), if_neg (by rw [hT.e]; decide), if_neg (by omega)]
    omega
  · have h1 := rn_ge (P := zL) (z := z) (N - (q + 1)) (q + 1)
    have h2 := rn_ge (P := zD) (z := z) (N - (q + 1)) (q + 1)
    split
    · omega
    · split
      · omega
      · split <;> omega
theorem te_N (hT : TP N z) : te N z N = N := by
  unfold te
  rw [if_neg (by rw [hT.e]; decide), if_neg (by rw [hT.e]; decide), if_neg (by omega)]
theorem tpo_le (hT : TP N z) : ∀ i, tpo N z i ≤ N
  | 0 => Nat.zero_le _
  | i + 1 => (te_le hT (bl_le (tpo_le hT i)).2).1
theorem tq_le (hT : TP N z) (i : Nat) : tq N z i ≤ N := (bl_le (tpo_le hT i)).2
theorem bl_N (hT : TP N z) : bl N z N = N := by have := bl_le (z := z) (Nat.le_refl N); omega
theorem tq_e (hT : TP N z) {i : Nat} (h : tq N z i = N) : ∀ j, tq N z (i + j) = N
  | 0 => h
  | j + 1 => by
    have ih := tq_e hT h j
    show bl N z (te N z (tq N z (i + j))) = N
    rw [ih, te_N hT, bl_N hT]
/-- each token takes a byte at least -/
theorem tpo_ge (hT : TP N z) : ∀ i, (∀ j, j < i → tq N z j < N) → i ≤ tpo N z i
  | 0, _ => Nat.zero_le _
  | i + 1, h => by
    have ih := tpo_ge hT i (fun j hj => h j (by omega))
    have h1 := h i (by omega)
    have h2 := (te_le hT (tq_le hT i)).2 h1
    have h3 := (bl_le (z := z) (tpo_le hT i)).1
    show i + 1 ≤ te N z (tq N z i)
    unfold tq at h2 ⊢
    omega
theorem ck_l {si q : Nat} (hs : si < 3) (hq : q < N) (h : zL (z q) = true) : ck si (tt N z q) = wC z si q (te N z q) := by
  rw [wC_kc hs]
  unfold tt
  rw [if_neg (by omega), if_pos h]
  cases fI z q (te N z q) 25 0 with
  | none => rfl
  | some w => rfl
theorem ck_d {si q : Nat} (hq : q < N) (h : zL (z q) = false) (h2 : zD (z q) = true) : ck si (tt N z q) = if te N z q - q < 5 then 1 else 2 := by
  unfold tt
  rw [if_neg (by omega), if_neg (by rw [h]; decide), if_pos h2]
  split <;> rfl
theorem ck_s {si q : Nat} (hq : q < N) (h : zL (z q) = false) (h2 : zD (z q) = false) : ck si (tt N z q) = if zS (z q) = true then (z q).toNat else 2 := by
  unfold tt
  rw [if_neg (by omega), if_neg (by rw [h]; decide), if_neg (by rw [h2]; decide)]
  split <;> rfl
/-! the class cuts -/
def CI (N : Nat) (z : Nat → Int) (si : Nat) (u0 : qS) (t : Nat) (u : qS) : Prop := u.1 67 5 = nI t ∧ (∀ i, i < t → u.1 69 i = nI (ck si (tt N z (tq N z i))) ∧ u.1 70 i = nI (tq N z i) ∧ ((tt N z (tq N z i)).1 = 3 → u.1 71 i = nI (tt N z (tq N z i)).2)) ∧ (∀ c, c ≠ 67 → c ≠ 69 → c ≠ 70 → c ≠ 71 → u.1 c = u0.1 c) ∧ (∀ j, j ≠ 5 → u.1 67 j = u0.1 67 j) ∧ u.2 = u0.2
def tkU (u : qS) (t : Nat) (a q c : Int32) : qS := q_up (q_up (q_up (q_up u 69 t a) 70 t q) 71 t c) 67 5 (nI (t + 1))
theorem addTok {a q c : Int32} {t : Nat} (ht : u.1 67 5 = nI t) (h : t ≤ 400) : m_X8_addToken 67 a q c u = some (nI 0, tkU u t a q c) := by
  have e1 : (q_up u 69 t a).1 67 5 = nI t := ht
  have e2 : (q_up (q_up u 69 t a) 70 t q).1 67 5 = nI t := ht
  have e3 : (q_up (q_up (q_up u 69 t a) 70 t q) 71 t c).1 67 5 = nI t := ht
  unfold m_X8_addToken tkU
  simp only [lit_n]
  rw [ht, if_neg (by rw [nI_t (by omega), nI_t (by omega)]; omega), ast_n (by omega) (by omega), Option.bind_some, show 67 + 2 = 69 from rfl, e1, ast_n (by omega) (by omega), Option.bind_some, show 67 + 3 = 70 from rfl, e2, ast_n (by omega) (by omega), Option.bind_some, show 67 + 4 = 71 from rfl, e3, q_let_s, nI_add]
theorem tkU_c {t c' : Nat} {a q c : Int32} (h1 : c' ≠ 67) (h2 : c' ≠ 69) (h3 : c' ≠ 70) (h4 : c' ≠ 71) : (tkU u t a q c).1 c' = u.1 c' := by
  unfold tkU
  rw [q_up_1, if_neg h1, q_up_1, if_neg h4, q_up_1, if_neg h3, q_up_1, if_neg h2]
theorem CI.add {si t : Nat} {u0 : qS} {c : Int32} (h : CI N z si u0 t u) (hc : (tt N z (tq N z t)).1 = 3 → c = nI (tt N z (tq N z t)).2) : CI N z si u0 (t + 1) (tkU u t (nI (ck si (tt N z (tq N z t)))) (nI (tq N z t)) c) := by
  obtain ⟨h1, h2, h3, h4, h5⟩ := h
  refine ⟨rfl, fun i hi => ?_, fun c' a1 a2 a3 a4 => by rw [tkU_c a1 a2 a3 a4]; exact h3 c' a1 a2 a3 a4, fun j hj => ?_, h5⟩
  · have e1 : ∀ a q c, (tkU u t a q c).1 69 i = if i = t then a else u.1 69 i := fun _ _ _ => rfl
    have e2 : ∀ a q c, (tkU u t a q c).1 70 i = if i = t then q else u.1 70 i := fun _ _ _ => rfl
    have e3 : ∀ a q c, (tkU u t a q c).1 71 i = if i = t then c else u.1 71 i := fun _ _ _ => rfl
    rw [e1, e2, e3]
    by_cases e : i = t
    · subst e
      rw [if_pos rfl, if_pos rfl, if_pos rfl]
      exact ⟨rfl, rfl, hc⟩
    · rw [if_neg e, if_neg e, if_neg e]
      exact h2 i (by omega)
  · have e1 : ∀ a q c, (tkU u t a q c).1 67 j = if j = 5 then nI (t + 1) else u.1 67 j := fun _ _ _ => rfl
    rw [e1, if_neg hj]; exact h4 j hj
theorem CI.tc {si t : Nat} {u0 : qS} (h : CI N z si u0 t u) (h0 : TC N z u0) : TC N z u := by
  obtain ⟨h1, h2, h3, h4, h5⟩ := h
  refine ⟨by rw [h4 1 (by omega)]; exact h0.1, fun p hp => by rw [h3 68 (by omega) (by omega) (by omega) (by omega)]; exact h0.2 p hp⟩
theorem cut_it {si : Nat} {u0 : qS} (hs : si < 3) (hT : TP N z) (h0 : TC N z u0) : ∀ (m p t f : Nat) (u : qS), p ≤ N → N - p ≤ m → m < f → bl N z p = tq N z t → t ≤ p → CI N z si u0 t u →
    ∃ (T : Nat) (u2 : qS), T ≤ N ∧ tq N z T = N ∧ CI N z si u0 T u2 ∧ ∀ K, q_it1 (m_X8_cut_L9 67 si K) f (nI p) u = K u2
  | m, p, t, 0, u, hp, hm, hf, hb, ht, h => by omega
  | m, p, t, f + 1, u, hp, hm, hf, hb, ht, h => by
    have hN := hT.1
    have hc := h.tc h0
    by_cases e : p = N
    · subst e
      refine ⟨t, u, ht, by rw [← hb, bl_N hT], h, fun K => ?_⟩
      show m_X8_cut_L9 _ _ _ _ _ _ = _
      unfold m_X8_cut_L9
      rw [hc.1, if_pos (Int.le_refl _)]
    · cases m with
      | zero => omega
      | succ m =>
        have hz := hT.2.1 p (by omega)
        have hb8 : u.1 68 p = nI (z p).toNat := i32_eq (by rw [hc.2 p (by omega), nI_t (by omega)]; omega)
        have hbt : (nI (z p).toNat).toInt = z p := by rw [nI_t (by omega)]; omega
        have c1 : ¬ (u.1 67 1).toInt ≤ (nI p).toInt := by rw [hc.1, nI_t (by omega), nI_t (by omega)]; omega
        by_cases hB : zB (z p) = true
        · obtain ⟨T, u2, a1, a2, a3, a4⟩ := cut_it hs hT h0 m (p + 1) t f u (by omega) (by omega) (by omega) (by rw [← bl_s (by omega) hB]; exact hb) (by omega) h
          refine ⟨T, u2, a1, a2, a3, fun K => ?_⟩
          rw [← a4 K]
          have l0 : zL (z p) = false := by
            unfold zB at hB
            rw [Bool.or_eq_true, decide_eq_true_eq, decide_eq_true_eq] at hB
            rcases hB with e1 | e1 <;> rw [e1] <;> rfl
          have d0 : zD (z p) = false := by
            unfold zB at hB
            rw [Bool.or_eq_true, decide_eq_true_eq, decide_eq_true_eq] at hB
            rcases hB with e1 | e1 <;> rw [e1] <;> rfl
          show m_X8_cut_L9 _ _ _ (q_it1 (m_X8_cut_L9 67 si K) f) _ _ = _
          generalize q_it1 (m_X8_cut_L9 67 si K) f = self
          unfold m_X8_cut_L9
          simp only [lit_n]
          rw [if_neg c1, ald_n (by omega) (by omega), Option.bind_some, show 67 + 1 = 68 from rfl, hb8, q_let_s, letter_c, q_bd_s', q_jn, hbt, l0, if_pos bI_0, digit_c, q_bd_s', hbt, d0, if_pos bI_0, nI_add, nI_t (show 32 < _ by omega), nI_t (show 10 < _ by omega)]
          by_cases e1 : z p = 32
          · rw [if_pos (by omega)]
          · rw [if_neg (by omega), if_pos (by
              unfold zB at hB
              rw [Bool.or_eq_true, decide_eq_true_eq, decide_eq_true_eq] at hB
              omega)]
        · have hB' : zB (z p) = false := by cases hh : zB (z p) with
            | true => exact absurd hh hB
            | false => rfl
          rw [bl_0 hB'] at hb
          have hl := te_le hT hp
          have hlt := hl.2 (by omega)
          have nx : bl N z (te N z p) = tq N z (t + 1) := by
            show _ = bl N z (te N z (tq N z t)); rw [← hb]
          cases hL : zL (z p) with
          | true =>
            have ht' : te N z p = rnF zL z (N - (p + 1)) (p + 1) := by unfold te; rw [if_pos hL]
            have ca := h.add (c := nI 0) (fun h3 => by
              exfalso
              rw [← hb] at h3
              unfold tt at h3
              rw [if_neg (by omega), if_pos hL] at h3
              cases hh : fI z p (te N z p) 25 0 with
              | none => rw [hh] at h3; cases h3
              | some w => rw [hh] at h3; cases h3)
            rw [← hb] at ca
            obtain ⟨T, u2, a1, a2, a3, a4⟩ := cut_it hs hT h0 m (te N z p) (t + 1) f _ hl.1 (by omega) (by omega) nx (by omega) ca
            refine ⟨T, u2, a1, a2, a3, fun K => ?_⟩
            rw [← a4 K]
            have lc := fun K => letC_it (si := si) (x3 := nI p) (K := K) hT hc (N - (p + 1)) (p + 1) q_F (by omega) (by rw [q_F_eq]; omega)
            rw [← ht'] at lc
            have wc := word_c (u := u) hs hT hc hlt hl.1
            rw [← ck_l hs (by omega) hL] at wc
            have ad := addTok (u := u) (a := nI (ck si (tt N z p))) (q := nI p) (c := nI 0) h.1 (by omega)
            show m_X8_cut_L9 _ _ _ (q_it1 (m_X8_cut_L9 67 si K) f) _ _ = _
            generalize q_it1 (m_X8_cut_L9 67 si K) f = self
            unfold m_X8_cut_L9
            simp only [lit_n]
            rw [if_neg c1, ald_n (by omega) (by omega), Option.bind_some, show 67 + 1 = 68 from rfl, hb8, q_let_s, letter_c, q_bd_s', q_jn, hbt, hL, if_neg bI_1, nI_add, lc, wc, q_bd_s', ad, q_bd_s']
          | false =>
            cases hD : zD (z p) with
            | true =>
              have ht' : te N z p = rnF zD z (N - (p + 1)) (p + 1) := by unfold te; rw [if_neg (by rw [hL]; decide), if_pos hD]
              have hdg : ∀ q, p ≤ q → q < p + (te N z p - p) → zD (z q) = true := fun q q1 q2 => by
                by_cases e2 : q = p
                · rw [e2]; exact hD
                · exact rn_in (N - (p + 1)) (p + 1) q (by omega) (by rw [← ht']; omega)
              have ca := h.add (c := nw z (te N z p - p) p (nI 0)) (fun h3 => by
                rw [← hb] at h3 ⊢
                unfold tt at h3 ⊢
                rw [if_neg (by omega), if_neg (by rw [hL]; decide), if_pos hD] at h3 ⊢
                by_cases e5 : te N z p - p < 5
                · rw [if_pos e5]
                  exact nw_nv (te N z p - p) p 0 0 hdg (by decide) (by omega)
                · rw [if_neg e5] at h3; cases h3)
              rw [← hb] at ca
              obtain ⟨T, u2, a1, a2, a3, a4⟩ := cut_it hs hT h0 m (te N z p) (t + 1) f _ hl.1 (by omega) (by omega) nx (by omega) ca
              refine ⟨T, u2, a1, a2, a3, fun K => ?_⟩
              rw [← a4 K]
              have lc := fun K => digC_it (si := si) (x3 := nI p) (K := K) hT hc (N - (p + 1)) (p + 1) q_F (by omega) (by rw [q_F_eq]; omega)
              rw [← ht'] at lc
              have nm : m_X8_number 67 (nI p) (nI (te N z p)) u = some (nw z (te N z p - p) p (nI 0), u) := by
                unfold m_X8_number
                simp only [lit_n]
                rw [numC_it hT hc hl.1 (te N z p - p) p (nI 0) q_F (by omega) (by rw [q_F_eq]; omega)]
              have ad := fun a => addTok (u := u) (a := a) (q := nI p) (c := nw z (te N z p - p) p (nI 0)) h.1 (by omega)
              show m_X8_cut_L9 _ _ _ (q_it1 (m_X8_cut_L9 67 si K) f) _ _ = _
              generalize q_it1 (m_X8_cut_L9 67 si K) f = self
              unfold m_X8_cut_L9
              simp only [lit_n]
              rw [if_neg c1, ald_n (by omega) (by omega), Option.bind_some, show 67 + 1 = 68 from rfl, hb8, q_let_s, letter_c, q_bd_s', q_jn, hbt, hL, if_pos bI_0, digit_c, q_bd_s', hbt, hD, if_neg bI_1, nI_add, lc, q_jn, nI_sub (by omega), nI_t (show 4 < _ by omega), nI_t (by omega), ck_d (by omega) hL hD]
              by_cases e5 : te N z p - p < 5
              · rw [if_neg (by omega)]
                dsimp only
                rw [nm, q_bd_s', ad, q_bd_s', if_pos e5]
              · rw [if_pos (by omega)]
                dsimp only
                rw [nm, q_bd_s', ad, q_bd_s', if_neg e5]
            | false =>
              have ht' : te N z p = p + 1 := by unfold te; rw [if_neg (by rw [hL]; decide), if_neg (by rw [hD]; decide), if_pos (by omega)]
              have ca := h.add (c := nI 0) (fun h3 => by
                exfalso
                rw [← hb] at h3
                unfold tt at h3
                rw [if_neg (by omega), if_neg (by rw [hL]; decide), if_neg (by rw [hD]; decide)] at h3
                split at h3 <;> cases h3)
              rw [← hb] at ca
              obtain ⟨T, u2, a1, a2, a3, a4⟩ := cut_it hs hT h0 m (te N z p) (t + 1) f _ hl.1 (by omega) (by omega) nx (by omega) ca
              refine ⟨T, u2, a1, a2, a3, fun K => ?_⟩
              rw [← a4 K, ht']
              have ad := fun a => addTok (u := u) (a := a) (q := nI p) (c := nI 0) h.1 (by omega)
              have b1 : ¬ z p = 32 := fun e1 => by rw [e1] at hB'; cases hB'
              have b2 : ¬ z p = 10 := fun e1 => by rw [e1] at hB'; cases hB'
              show m_X8_cut_L9 _ _ _ (q_it1 (m_X8_cut_L9 67 si K) f) _ _ = _
              generalize q_it1 (m_X8_cut_L9 67 si K) f = self
              unfold m_X8_cut_L9
              simp only [lit_n]
              rw [if_neg c1, ald_n (by omega) (by omega), Option.bind_some, show 67 + 1 = 68 from rfl, hb8, q_let_s, letter_c, q_bd_s', q_jn, hbt, hL, if_pos bI_0, digit_c, q_bd_s', hbt, hD, if_pos bI_0, nI_add, nI_t (show 32 < _ by omega), nI_t (show 10 < _ by omega), if_neg (by omega), if_neg (by omega), sign_c, q_bd_s', q_jn, hbt, ck_s (by omega) hL hD]
              cases zS (z p) with
              | false =>
                rw [if_pos bI_0]
                dsimp only
                rw [ad, q_bd_s', if_neg (by decide)]
              | true =>
                rw [if_neg bI_1]
                dsimp only
                rw [ad, q_bd_s', if_pos rfl]
end
