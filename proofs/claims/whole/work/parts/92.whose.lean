/-! LAYER 2: THE CALLS, 19: whose -/
theorem and1 (z : Int32) : z &&& nI 1 = nI 0 ∨ z &&& nI 1 = nI 1 := by
  have h : (z.toBitVec &&& 1#32).toNat = z.toBitVec.toNat % 2 := by rw [BitVec.toNat_and]; exact Nat.and_one_is_mod _
  rcases Nat.mod_two_eq_zero_or_one z.toBitVec.toNat with e | e
  · left
    apply Int32.toBitVec_inj.mp
    apply BitVec.eq_of_toNat_eq
    rw [Int32.toBitVec_and]
    show (z.toBitVec &&& 1#32).toNat = 0
    rw [h, e]
  · right
    apply Int32.toBitVec_inj.mp
    apply BitVec.eq_of_toNat_eq
    rw [Int32.toBitVec_and]
    show (z.toBitVec &&& 1#32).toNat = 1
    rw [h, e]
theorem has_b {z w : Int32} {v : qS} : m_X11_has z w v = some (bI (decide (((z >>> (w &&& nI 31)) &&& nI 1) = nI 1)), v) := by
  unfold m_X11_has
  simp only [lit_n]
  rcases and1 (z >>> (w &&& nI 31)) with e | e
  · rw [e]; rfl
  · rw [e]; rfl
/-- can the core i be of the eater e -/
def coF (x y : qS) (e i : Nat) : Bool := !decide ((y.1 164 (86 + (5 * e + (y.1 184 (2 * i)).toInt.toNat)) + nI 5).toInt = 0) && decide ((x.1 22 e >>> (y.1 184 (2 * i + 1) &&& nI 31)) &&& nI 1 = nI 1)
theorem coF_e {x y : qS} {e i : Nat} : coF x y e i = (!decide ((y.1 164 (86 + (5 * e + (y.1 184 (2 * i)).toInt.toNat)) + nI 5).toInt = 0) && decide ((x.1 22 e >>> (y.1 184 (2 * i + 1) &&& nI 31)) &&& nI 1 = nI 1)) := rfl
def alF (c : Nat → Bool) : Nat → Nat → Bool
  | _, 0 => true
  | i, n + 1 => c i && alF c (i + 1) n
section
variable {x y : qS} {E N : Nat}
theorem coreC_it {e : Nat} {K0 K1 : qS → qR} (h : Rel x y) (hE : y.1 163 7 = nI E) (hE1 : E ≤ 10) (he : e < E) (hN : x.1 28 0 = nI N) (hN1 : N ≤ 8) (hco : ∀ i, i < N → ∃ p q : Nat, (p : Int) < (y.1 163 6).toInt ∧ q < 10 ∧ x.1 29 i = nI p ∧ y.1 184 (2 * i) = nI p ∧ x.1 30 i = nI q ∧ y.1 184 (2 * i + 1) = nI q) : ∀ n i f, i + n = N → n < f → q_it1 (m_X1_canBeOf_L3 28 2 (nI e) (x.1 22 e) K0 K1) f (nI i) x = mb K0 K1 x (alF (coF x y e) i n)
  | n, i, 0, hi, hf => by omega
  | 0, i, f + 1, hi, hf => by
    show m_X1_canBeOf_L3 _ _ _ _ _ _ _ _ _ = _
    unfold m_X1_canBeOf_L3
    rw [hN, if_pos (by rw [nI_t (by omega), nI_t (by omega)]; omega)]; rfl
  | n + 1, i, f + 1, hi, hf => by
    have ih := coreC_it (K0 := K0) (K1 := K1) h hE hE1 he hN hN1 hco n (i + 1) f (by omega) (by omega)
    obtain ⟨p, q, d1, d2, d3, d4, d5, d6⟩ := hco i (by omega)
    obtain ⟨P, hP1, hP, hP2⟩ := h.G.P
    have tc := taste_c (u := x) h.C hE hE1 he (show p < 5 by omega)
    show m_X1_canBeOf_L3 _ _ _ _ _ _ (q_it1 (m_X1_canBeOf_L3 28 2 (nI e) (x.1 22 e) K0 K1) f) _ _ = _
    generalize q_it1 (m_X1_canBeOf_L3 28 2 (nI e) (x.1 22 e) K0 K1) f = self at ih ⊢
    unfold m_X1_canBeOf_L3 alF
    rw [coF_e]
    simp only [lit_n]
    rw [hN, if_neg (by rw [nI_t (by omega), nI_t (by omega)]; omega), ald_n (by omega) (by omega), Option.bind_some, show 28 + 2 = 30 from rfl, d5, d6, d4, nI_t (show p < _ by omega), show ((p : Int).toNat) = p from rfl, ald_n (by omega) (by omega), Option.bind_some, show 28 + 1 = 29 from rfl, d3, tc, q_bd_s', nI_add]
    rcases and1 (x.1 22 e >>> (nI q &&& nI 31)) with e1 | e1
    · rw [e1, if_pos (by decide), decide_eq_false (show ¬ nI 0 = nI 1 by decide), Bool.and_false, Bool.false_and]; rfl
    · rw [e1, if_neg (by decide), decide_eq_true (show nI 1 = nI 1 from rfl), Bool.and_true]
      by_cases e2 : (y.1 164 (86 + (5 * e + p)) + nI 5).toInt = 0
      · rw [if_pos e2, decide_eq_true e2, Bool.not_true, Bool.false_and]; rfl
      · rw [if_neg e2, decide_eq_false e2, Bool.not_false, Bool.true_and]; exact ih
theorem coreR_it {e : Nat} {x1 : Int32} {K : Int32 → qS → qR} (h : Rel x y) (he : e < 10) (hN : y.1 163 48 = nI N) (hN1 : N ≤ 8) (hco : ∀ i, i < N → ∃ p q : Nat, (p : Int) < (y.1 163 6).toInt ∧ q < 10 ∧ x.1 29 i = nI p ∧ y.1 184 (2 * i) = nI p ∧ x.1 30 i = nI q ∧ y.1 184 (2 * i + 1) = nI q) : ∀ n i b f, i + n = N → n < f → q_it2 (m_X11_eatersOfAll_L17 x1 (nI e) K) f (bI b) (nI i) y = K (bI (b && alF (coF x y e) i n)) y
  | n, i, b, 0, hi, hf => by omega
  | 0, i, b, f + 1, hi, hf => by
    show m_X11_eatersOfAll_L17 _ _ _ _ _ _ _ = _
    unfold m_X11_eatersOfAll_L17
    rw [hN, if_pos (by rw [nI_t (by omega), nI_t (by omega)]; omega)]
    unfold alF
    rw [Bool.and_true]
  | n + 1, i, b, f + 1, hi, hf => by
    have ih := fun b => coreR_it (x1 := x1) (K := K) h he hN hN1 hco n (i + 1) b f (by omega) (by omega)
    obtain ⟨p, q, d1, d2, d3, d4, d5, d6⟩ := hco i (by omega)
    obtain ⟨P, hP1, hP, hP2⟩ := h.G.P
    have tr := taste_r (v := y) he (show p < 5 by omega)
    have pl := (places_s (y := y) h.1.2.2.2.2.2.1 he).2
    show m_X11_eatersOfAll_L17 _ _ _ (q_it2 (m_X11_eatersOfAll_L17 x1 (nI e) K) f) _ _ _ = _
    generalize q_it2 (m_X11_eatersOfAll_L17 x1 (nI e) K) f = self at ih ⊢
    unfold m_X11_eatersOfAll_L17 alF
    rw [coF_e]
    simp only [lit_n]
    rw [hN, if_neg (by rw [nI_t (by omega), nI_t (by omega)]; omega), pk_mul, nI_add, nI_add, ald_n (by omega) (by omega), Option.bind_some, d4, tr, q_bd_s', q_jn, q_jn, d6, nI_t (show p < _ by omega), show ((p : Int).toNat) = p from rfl]
    by_cases e2 : (y.1 164 (86 + (5 * e + p)) + nI 5).toInt = 0
    · rw [if_pos e2, decide_eq_true e2, Bool.not_true, Bool.false_and, Bool.false_and, Bool.and_false]
      refine (ih false).trans ?_
      rw [Bool.false_and]
    · rw [if_neg e2, decide_eq_false e2, Bool.not_false, Bool.true_and, pl, q_bd_s', ald_n (by omega) (by omega), Option.bind_some, d6, has_b, q_bd_s']
      cases decide (x.1 22 e >>> (nI q &&& nI 31) &&& nI 1 = nI 1) with
      | false =>
        rw [if_pos (by decide), Bool.false_and, Bool.and_false]
        refine (ih false).trans ?_
        rw [Bool.false_and]
      | true =>
        rw [if_neg (by decide), Bool.true_and]; exact ih b
end
/-! the eaters as a set -/
def esT (e m : Nat) : Bool := if m < 2 ^ e then decide (nI m ||| (nI 1 <<< (nI e &&& nI 31)) = nI (m + 2 ^ e)) else true
set_option maxRecDepth 100000 in
theorem es_t : ∀ e, e < 10 → ∀ m, m < 512 → esT e m = true := by decide +kernel
theorem es_n {e m : Nat} (he : e < 10) (hm : m < 2 ^ e) : nI m ||| (nI 1 <<< (nI e &&& nI 31)) = nI (m + 2 ^ e) := by
  have h9 : 2 ^ e ≤ 2 ^ 9 := Nat.pow_le_pow_right (by omega) (by omega)
  have h := es_t e he m (by omega)
  unfold esT at h
  rw [if_pos hm] at h
  exact of_decide_eq_true h
def wsF (c : Nat → Bool) : Nat → Nat → Nat → Nat
  | _, 0, m => m
  | e, n + 1, m => wsF c (e + 1) n (if c e = true then m + 2 ^ e else m)
theorem ws_lt {c : Nat → Bool} : ∀ n e m, m < 2 ^ e → wsF c e n m < 2 ^ (e + n)
  | 0, e, m, h => h
  | n + 1, e, m, h => by
    unfold wsF
    rw [show e + (n + 1) = e + 1 + n by omega]
    refine ws_lt n (e + 1) _ ?_
    have : 2 ^ (e + 1) = 2 ^ e * 2 := Nat.pow_succ 2 e
    split <;> omega
section
variable {x y : qS} {E N : Nat}
theorem whoC_it {a : Int32} {K : Int32 → qS → qR} (h : Rel x y) (hE : y.1 163 7 = nI E) (hE1 : E ≤ 10) (hN : x.1 28 0 = nI N) (hN1 : N ≤ 8) (hco : ∀ i, i < N → ∃ p q : Nat, (p : Int) < (y.1 163 6).toInt ∧ q < 10 ∧ x.1 29 i = nI p ∧ y.1 184 (2 * i) = nI p ∧ x.1 30 i = nI q ∧ y.1 184 (2 * i + 1) = nI q) : ∀ n e m f, e + n = E → m < 2 ^ e → n < f → q_it2 (m_X10_whose_L15 a K) f (nI m) (nI e) x = K (nI (wsF (fun e => alF (coF x y e) 0 N) e n m)) x
  | n, e, m, 0, he, hm, hf => by omega
  | 0, e, m, f + 1, he, hm, hf => by
    have x9 : x.1 2 9 = nI E := by rw [h.C.eaters, hE]
    show m_X10_whose_L15 _ _ _ _ _ _ = _
    unfold m_X10_whose_L15
    rw [x9, if_pos (by rw [nI_t (by omega), nI_t (by omega)]; omega)]; rfl
  | n + 1, e, m, f + 1, he, hm, hf => by
    have x9 : x.1 2 9 = nI E := by rw [h.C.eaters, hE]
    have hp : 2 ^ (e + 1) = 2 ^ e * 2 := Nat.pow_succ 2 e
    have ih := fun m hm => whoC_it (a := a) (K := K) h hE hE1 hN hN1 hco n (e + 1) m f (by omega) hm (by omega)
    have cb : m_X1_canBeOf 28 2 (nI e) (x.1 22 e) x = some (bI (alF (coF x y e) 0 N), x) := by
      unfold m_X1_canBeOf
      simp only [lit_n]
      rw [coreC_it h hE hE1 (show e < E by omega) hN hN1 hco N 0 q_F (by omega) (by rw [q_F_eq]; omega)]
      cases alF (coF x y e) 0 N <;> rfl
    show m_X10_whose_L15 _ _ (q_it2 (m_X10_whose_L15 a K) f) _ _ _ = _
    generalize q_it2 (m_X10_whose_L15 a K) f = self at ih ⊢
    unfold m_X10_whose_L15 wsF
    simp only [lit_n]
    rw [x9, if_neg (by rw [nI_t (by omega), nI_t (by omega)]; omega), ald_n (by omega) (by omega), Option.bind_some, cb, q_bd_s', q_jn, nI_add]
    cases alF (coF x y e) 0 N with
    | false =>
      rw [if_pos (by decide), if_neg (by decide)]; exact ih m (by omega)
    | true =>
      rw [if_neg (by decide), if_pos rfl, q_let_s, es_n (by omega) hm]; exact ih _ (by omega)
theorem whoR_it {K : Int32 → qS → qR} (h : Rel x y) (hE : y.1 163 7 = nI E) (hE1 : E ≤ 10) (hN : y.1 163 48 = nI N) (hN1 : N ≤ 8) (hco : ∀ i, i < N → ∃ p q : Nat, (p : Int) < (y.1 163 6).toInt ∧ q < 10 ∧ x.1 29 i = nI p ∧ y.1 184 (2 * i) = nI p ∧ x.1 30 i = nI q ∧ y.1 184 (2 * i + 1) = nI q) : ∀ n e m f, e + n = E → m < 2 ^ e → n < f → q_it2 (m_X11_eatersOfAll_L4 K) f (nI m) (nI e) y = K (nI (wsF (fun e => alF (coF x y e) 0 N) e n m)) y
  | n, e, m, 0, he, hm, hf => by omega
  | 0, e, m, f + 1, he, hm, hf => by
    show m_X11_eatersOfAll_L4 _ _ _ _ _ = _
    unfold m_X11_eatersOfAll_L4
    rw [hE, if_pos (by rw [nI_t (by omega), nI_t (by omega)]; omega)]; rfl
  | n + 1, e, m, f + 1, he, hm, hf => by
    have hp : 2 ^ (e + 1) = 2 ^ e * 2 := Nat.pow_succ 2 e
    have ih := fun m hm => whoR_it (K := K) h hE hE1 hN hN1 hco n (e + 1) m f (by omega) hm (by omega)
    have cb := fun K => coreR_it (x1 := nI m) (K := K) h (show e < 10 by omega) hN hN1 hco N 0 true q_F (by omega) (by rw [q_F_eq]; omega)
    rw [show bI true = nI 1 from rfl] at cb
    show m_X11_eatersOfAll_L4 _ (q_it2 (m_X11_eatersOfAll_L4 K) f) _ _ _ = _
    generalize q_it2 (m_X11_eatersOfAll_L4 K) f = self at ih ⊢
    unfold m_X11_eatersOfAll_L4 wsF
    simp only [lit_n]
    rw [hE, if_neg (by rw [nI_t (by omega), nI_t (by omega)]; omega), cb, q_jn, nI_add, Bool.true_and]
    cases alF (coF x y e) 0 N with
    | false =>
      rw [if_pos (by decide), if_neg (by decide)]; exact ih m (by omega)
    | true =>
      rw [if_neg (by decide), if_pos rfl, q_let_s, es_n (by omega) hm]; exact ih _ (by omega)
end
/-! whom to ask next -/
def lqF (y : qS) (m p : Nat) (e : Nat) : Bool := decide ((nI m >>> (nI e &&& nI 31)) &&& nI 1 = nI 1) && !decide ((y.1 164 (86 + (5 * e + p)) + nI 5).toInt < 5)
theorem lqF_e {y : qS} {m p e : Nat} : lqF y m p e = (decide ((nI m >>> (nI e &&& nI 31)) &&& nI 1 = nI 1) && !decide ((y.1 164 (86 + (5 * e + p)) + nI 5).toInt < 5)) := rfl
set_option maxRecDepth 100000 in
theorem lb_t : ∀ e, e < 10 → ∀ m, m < 1024 → ((nI m >>> (nI e &&& nI 31)) &&& nI 1 = nI 1) = (lk m e = true) := by
  have : ∀ e, e < 10 → ∀ m, m < 1024 → decide ((nI m >>> (nI e &&& nI 31)) &&& nI 1 = nI 1) = lk m e := by decide +kernel
  intro e he m hm
  have h := this e he m hm
  rw [← h]
  exact propext ⟨decide_eq_true, of_decide_eq_true⟩
theorem cn_pc {m : Nat} : ∀ n i, cnF (lk m) i n = pcn n (m / 2 ^ i)
  | 0, i => rfl
  | n + 1, i => by
    unfold cnF pcn
    rw [cn_pc n (i + 1), Nat.pow_succ, ← Nat.div_div_eq_div_mul]
    unfold lk
    by_cases e : m / 2 ^ i % 2 = 1
    · rw [decide_eq_true e, if_pos rfl, e]
    · rw [decide_eq_false e, if_neg (by decide)]
      have : m / 2 ^ i % 2 = 0 := by omega
      rw [this]
theorem cn_mono {F G : Nat → Bool} : ∀ n i, (∀ j, i ≤ j → j < i + n → F j = true → G j = true) → cnF F i n ≤ cnF G i n
  | 0, i, _ => Nat.le_refl _
  | n + 1, i, h => by
    have := cn_mono (F := F) (G := G) n (i + 1) (fun j a b => h j (by omega) (by omega))
    unfold cnF
    by_cases e : F i = true
    · rw [if_pos e, if_pos (h i (by omega) (by omega) e)]; omega
    · rw [if_neg e]; omega
theorem cn_ext {F : Nat → Bool} : ∀ n i k, cnF F i n ≤ cnF F i (n + k)
  | 0, i, k => Nat.zero_le _
  | n + 1, i, k => by
    have := cn_ext (F := F) n (i + 1) k
    rw [show n + 1 + k = (n + k) + 1 by omega]
    unfold cnF
    omega
theorem lq_le {y : qS} {m p E : Nat} (hm : m < 1024) (hE : E ≤ 10) : cnF (lqF y m p) 0 E ≤ pcn 10 m := by
  have h1 := cn_mono (F := lqF y m p) (G := lk m) E 0 (fun j a b hj => by
    unfold lqF at hj
    rw [Bool.and_eq_true] at hj
    have := of_decide_eq_true hj.1
    rw [lb_t j (by omega) m hm] at this
    exact this)
  have h2 := cn_ext (F := lk m) E 0 (10 - E)
  rw [show E + (10 - E) = 10 by omega, cn_pc 10 0] at h2
  rw [show m / 2 ^ 0 = m from Nat.div_one m] at h2
  omega
def akF (v : Nat → Nat) : Nat → Nat → Int32 → Nat → Int32
  | _, 0, b, _ => b
  | p, n + 1, b, w => if w ≤ v p then akF v (p + 1) n b w else akF v (p + 1) n (nI p) (v p)
theorem ak_s {v : Nat → Nat} {k w : Nat} (hv : ∀ p, v p ≤ k) (hw : k < w) : ∀ P, akF v 0 P mI (k + 1) = akF v 0 P mI w
  | 0 => rfl
  | P + 1 => by
    have := hv 0
    unfold akF
    rw [if_neg (by omega), if_neg (by omega)]
section
variable {x y : qS} {E : Nat}
theorem likeC_it {m p k : Nat} {b c : Int32} {K : Int32 → qS → qR} (h : Rel x y) (hE : y.1 163 7 = nI E) (hE1 : E ≤ 10) (hp : p < 5) : ∀ n e l f, e + n = E → n < f → q_it2 (m_X10_askNext_L40 (nI m) (nI k) b c (nI p) K) f (nI l) (nI e) x = K (nI (l + cnF (lqF y m p) e n)) x
  | n, e, l, 0, he, hf => by omega
  | 0, e, l, f + 1, he, hf => by
    have x9 : x.1 2 9 = nI E := by rw [h.C.eaters, hE]
    show m_X10_askNext_L40 _ _ _ _ _ _ _ _ _ _ = _
    unfold m_X10_askNext_L40
    rw [x9, if_pos (by rw [nI_t (by omega), nI_t (by omega)]; omega)]; rfl
  | n + 1, e, l, f + 1, he, hf => by
    have x9 : x.1 2 9 = nI E := by rw [h.C.eaters, hE]
    have ih := fun l => likeC_it (b := b) (c := c) (k := k) (m := m) (K := K) h hE hE1 hp n (e + 1) l f (by omega) (by omega)
    have tc := taste_c (u := x) h.C hE hE1 (show e < E by omega) hp
    show m_X10_askNext_L40 _ _ _ _ _ _ (q_it2 (m_X10_askNext_L40 (nI m) (nI k) b c (nI p) K) f) _ _ _ = _
    generalize q_it2 (m_X10_askNext_L40 (nI m) (nI k) b c (nI p) K) f = self at ih ⊢
    unfold m_X10_askNext_L40 cnF
    rw [lqF_e]
    simp only [lit_n]
    rw [x9, if_neg (by rw [nI_t (by omega), nI_t (by omega)]; omega), q_jn, nI_add]
    rcases and1 (nI m >>> (nI e &&& nI 31)) with e1 | e1
    · rw [e1, if_neg (by decide), decide_eq_false (show ¬ nI 0 = nI 1 by decide), Bool.false_and, if_neg (by decide), Nat.zero_add]; exact ih l
    · rw [e1, if_pos rfl, decide_eq_true (show nI 1 = nI 1 from rfl), Bool.true_and, tc, q_bd_s', nI_t (show 5 < _ by omega)]
      by_cases e2 : (y.1 164 (86 + (5 * e + p)) + nI 5).toInt < 5
      · rw [if_pos (by omega), decide_eq_true e2, Bool.not_true, if_neg (by decide), Nat.zero_add]; exact ih l
      · rw [if_neg (by omega), decide_eq_false e2, Bool.not_false, if_pos rfl, nI_add, ← Nat.add_assoc]; exact ih (l + 1)
theorem likeR_it {m p : Nat} {K : Int32 → qS → qR} (hE : y.1 163 7 = nI E) (hE1 : E ≤ 10) (hp : p < 5) : ∀ n e l f, e + n = E → n < f → q_it2 (m_X11_likersOf_L5 (nI m) (nI p) K) f (nI l) (nI e) y = K (nI (l + cnF (lqF y m p) e n)) y
  | n, e, l, 0, he, hf => by omega
  | 0, e, l, f + 1, he, hf => by
    show m_X11_likersOf_L5 _ _ _ _ _ _ _ = _
    unfold m_X11_likersOf_L5
    rw [hE, if_pos (by rw [nI_t (by omega), nI_t (by omega)]; omega)]; rfl
  | n + 1, e, l, f + 1, he, hf => by
    have ih := fun l => likeR_it (m := m) (K := K) hE hE1 hp n (e + 1) l f (by omega) (by omega)
    have tr := taste_r (v := y) (show e < 10 by omega) hp
    show m_X11_likersOf_L5 _ _ _ (q_it2 (m_X11_likersOf_L5 (nI m) (nI p) K) f) _ _ _ = _
    generalize q_it2 (m_X11_likersOf_L5 (nI m) (nI p) K) f = self at ih ⊢
    unfold m_X11_likersOf_L5 cnF
    rw [lqF_e]
    simp only [lit_n]
    rw [hE, if_neg (by rw [nI_t (by omega), nI_t (by omega)]; omega), has_b, q_bd_s', q_jn, nI_add]
    cases decide (nI m >>> (nI e &&& nI 31) &&& nI 1 = nI 1) with
    | false =>
      rw [if_pos (by decide), Bool.false_and, if_neg (by decide), Nat.zero_add]; exact ih l
    | true =>
      rw [if_neg (by decide), Bool.true_and, tr, q_bd_s', nI_t (show 5 < _ by omega)]
      by_cases e2 : (y.1 164 (86 + (5 * e + p)) + nI 5).toInt < 5
      · rw [if_pos (by omega), decide_eq_true e2, Bool.not_true, if_neg (by decide), Nat.zero_add]; exact ih l
      · rw [if_neg (by omega), decide_eq_false e2, Bool.not_false, if_pos rfl, q_let_s, nI_add, ← Nat.add_assoc]; exact ih (l + 1)
def vaF (y : qS) (E m k p : Nat) : Nat := max (cnF (lqF y m p) 0 E) (k - cnF (lqF y m p) 0 E)
theorem askC_it {P m k : Nat} {K : Int32 → qS → qR} (h : Rel x y) (hE : y.1 163 7 = nI E) (hE1 : E ≤ 10) (hP : x.1 2 7 = nI P) (hP1 : P ≤ 5) (hk : ∀ p, cnF (lqF y m p) 0 E ≤ k) (hk1 : k ≤ 10) : ∀ n p b w f, p + n = P → w ≤ 100000 → n < f → q_it3 (m_X10_askNext_L22 (nI m) (nI k) K) f b (nI w) (nI p) x = K (akF (vaF y E m k) p n b w) x
  | n, p, b, w, 0, hp, hw, hf => by omega
  | 0, p, b, w, f + 1, hp, hw, hf => by
    show m_X10_askNext_L22 _ _ _ _ _ _ _ _ = _
    unfold m_X10_askNext_L22
    rw [hP, if_pos (by rw [nI_t (by omega), nI_t (by omega)]; omega)]; rfl
  | n + 1, p, b, w, f + 1, hp, hw, hf => by
    have hkp := hk p
    have hv : vaF y E m k p ≤ 10 := by unfold vaF; omega
    have ih := fun b w hw => askC_it (K := K) h hE hE1 hP hP1 hk hk1 n (p + 1) b w f (by omega) hw (by omega)
    have lc := fun K => likeC_it (m := m) (k := k) (b := b) (c := nI w) (K := K) h hE hE1 (show p < 5 by omega) E 0 0 q_F (by omega) (by rw [q_F_eq]; omega)
    show m_X10_askNext_L22 _ _ _ (q_it3 (m_X10_askNext_L22 (nI m) (nI k) K) f) _ _ _ _ = _
    generalize q_it3 (m_X10_askNext_L22 (nI m) (nI k) K) f = self at ih ⊢
    unfold m_X10_askNext_L22 akF
    simp only [lit_n]
    rw [hP, if_neg (by rw [nI_t (by omega), nI_t (by omega)]; omega), lc, Nat.zero_add, nI_sub hkp, q_max_n (by omega) (by omega), q_let_s, q_jn, nI_add, show max (cnF (lqF y m p) 0 E) (k - cnF (lqF y m p) 0 E) = vaF y E m k p from rfl, nI_t (by omega), nI_t (by omega)]
    by_cases e : w ≤ vaF y E m k p
    · rw [if_pos (by omega), if_pos e]; exact ih b w hw
    · rw [if_neg (by omega), if_neg e]; exact ih _ _ (by omega)
theorem askR_it {P m k : Nat} {K : Int32 → qS → qR} (hE : y.1 163 7 = nI E) (hE1 : E ≤ 10) (hP : y.1 163 6 = nI P) (hP1 : P ≤ 5) (hk : ∀ p, cnF (lqF y m p) 0 E ≤ k) (hk1 : k ≤ 10) : ∀ n p b w f, p + n = P → w ≤ 100000 → n < f → q_it3 (m_X11_whose_L52 (nI m) (nI k) K) f b (nI w) (nI p) y = K (akF (vaF y E m k) p n b w) y
  | n, p, b, w, 0, hp, hw, hf => by omega
  | 0, p, b, w, f + 1, hp, hw, hf => by
    show m_X11_whose_L52 _ _ _ _ _ _ _ _ = _
    unfold m_X11_whose_L52
    rw [hP, if_pos (by rw [nI_t (by omega), nI_t (by omega)]; omega)]; rfl
  | n + 1, p, b, w, f + 1, hp, hw, hf => by
    have hkp := hk p
    have hv : vaF y E m k p ≤ 10 := by unfold vaF; omega
    have ih := fun b w hw => askR_it (K := K) hE hE1 hP hP1 hk hk1 n (p + 1) b w f (by omega) hw (by omega)
    have lr : m_X11_likersOf (nI m) (nI p) y = some (nI (cnF (lqF y m p) 0 E), y) := by
      unfold m_X11_likersOf
      simp only [lit_n]
      rw [likeR_it hE hE1 (show p < 5 by omega) E 0 0 q_F (by omega) (by rw [q_F_eq]; omega), Nat.zero_add]
    show m_X11_whose_L52 _ _ _ (q_it3 (m_X11_whose_L52 (nI m) (nI k) K) f) _ _ _ _ = _
    generalize q_it3 (m_X11_whose_L52 (nI m) (nI k) K) f = self at ih ⊢
    unfold m_X11_whose_L52 akF
    simp only [lit_n]
    rw [hP, if_neg (by rw [nI_t (by omega), nI_t (by omega)]; omega), lr, q_bd_s', nI_sub hkp, greater_n (by omega) (by omega), q_bd_s', q_jn, show max (cnF (lqF y m p) 0 E) (k - cnF (lqF y m p) 0 E) = vaF y E m k p from rfl]
    dsimp only
    rw [lesser_n (by omega) (by omega), q_bd_s', nI_add, nI_t (by omega), nI_t (by omega)]
    by_cases e : w ≤ vaF y E m k p
    · rw [if_pos (by omega), if_pos e, show min w (vaF y E m k p) = w by omega]; exact ih b w hw
    · rw [if_neg (by omega), if_neg e, show min w (vaF y E m k p) = vaF y E m k p by omega]; exact ih _ _ (by omega)
end
theorem sim_whose (a : Int32) : SIM (m_X10_whose a) (m_X11_whose a) := fun x y0 h0 => by
  have h := h0.told (v := nI 0)
  have hd : ∃ y, q_up y0 163 0 (nI 0) = y := ⟨_, rfl⟩
  obtain ⟨y, hy⟩ := hd
  rw [hy] at h
  obtain ⟨P, hP1, hP, hP2⟩ := h.G.P
  obtain ⟨E, hE1, hE, hE2⟩ := h.G.E
  have hx7 : x.1 2 7 = nI P := by rw [h.C.parties, hP]
  obtain ⟨N, hN1, n2, n3, n4⟩ := h.1.2.2.2.2.2.2.2.1
  have cc := fun K => whoC_it (a := a) (K := K) h hE hE1 n2 hN1 n4 E 0 0 q_F (by omega) (by decide) (by rw [q_F_eq]; omega)
  have rr := fun K => whoR_it (K := K) h hE hE1 n3 hN1 n4 E 0 0 q_F (by omega) (by decide) (by rw [q_F_eq]; omega)
  have wl := ws_lt (c := fun e => alF (coF x y e) 0 N) E 0 0 (by decide)
  have h10 : 2 ^ (0 + E) ≤ 2 ^ 10 := Nat.pow_le_pow_right (by omega) (by omega)
  generalize wsF (fun e => alF (coF x y e) 0 N) 0 E 0 = m at cc rr wl
  have hm : m < 1024 := by omega
  have ra : m_X11_eatersOfAll y = some (nI m, y) := by
    unfold m_X11_eatersOfAll
    simp only [lit_n]
    rw [rr]
  unfold m_X10_whose m_X11_whose
  simp only [lit_n, mI_lit]
  rw [hy]
  rcases within_b a 0 1 (by omega) (by omega) with ⟨n, n0, n1, n2, u1, u2⟩ | ⟨u1, u2⟩
  · by_cases a0 : a.toInt = 0
    · refine ⟨nI m, x, y, ?_, ?_, h⟩
      · rw [u1, q_bd_s', if_neg (by decide), cc, if_pos a0]
      · rw [q_let_s, u2, q_bd_s', if_neg (by decide), ra, q_bd_s', if_pos a0]
    · have hk : ∀ p, cnF (lqF y m p) 0 E ≤ pcn 10 m := fun p => lq_le hm hE1
      have hk1 := pcn_le 10 m
      have ac := fun K => askC_it (K := K) h hE hE1 hx7 hP1 hk hk1 P 0 mI (pcn 10 m + 1) q_F (by omega) (by omega) (by rw [q_F_eq]; omega)
      have ar := fun K => askR_it (K := K) hE hE1 hP hP1 hk hk1 P 0 mI 100000 q_F (by omega) (by omega) (by rw [q_F_eq]; omega)
      rw [ak_s (w := 100000) (fun p => by have := hk p; unfold vaF; omega) (by omega) P] at ac
      by_cases k2 : 2 ≤ pcn 10 m
      · refine ⟨akF (vaF y E m (pcn 10 m)) 0 P mI 100000, x, y, ?_, ?_, h⟩
        · rw [u1, q_bd_s', if_neg (by decide), cc, if_neg a0]
          unfold m_X10_askNext
          simp only [lit_n, mI_lit]
          rw [bc_c hm, q_bd_s', if_pos (by rw [nI_t (by omega), nI_t (by omega)]; omega), nI_add, q_let_s, ac, q_bd_s']
        · rw [q_let_s, u2, q_bd_s', if_neg (by decide), ra, q_bd_s', if_neg a0, ones_r hm, q_bd_s', if_pos (by rw [nI_t (by omega), nI_t (by omega)]; omega), ar]
      · refine ⟨mI, x, y, ?_, ?_, h⟩
        · rw [u1, q_bd_s', if_neg (by decide), cc, if_neg a0]
          unfold m_X10_askNext
          simp only [lit_n, mI_lit]
          rw [bc_c hm, q_bd_s', if_neg (by rw [nI_t (by omega), nI_t (by omega)]; omega), q_bd_s']
        · rw [q_let_s, u2, q_bd_s', if_neg (by decide), ra, q_bd_s', if_neg a0, ones_r hm, q_bd_s', if_neg (by rw [nI_t (by omega), nI_t (by omega)]; omega)]
  · refine ⟨mI, x, y, ?_, ?_, h⟩
    · rw [u1, q_bd_s', if_pos (by decide)]
    · rw [q_let_s, u2, q_bd_s', if_pos (by decide)]
