/-! LAYER 2: THE CALLS, 20: left -/
def iL (n : Nat) : Int64 := Int64.ofNat n
theorem iL_add (a b : Nat) : iL a + iL b = iL (a + b) := (Int64.ofNat_add a b).symm
theorem iL_t {n : Nat} (h : n < 4611686018427387904) : (iL n).toInt = (n : Int) := Int64.toInt_ofNat_of_lt (by omega)
theorem i64_bm {z : Int} (h1 : -9223372036854775808 ≤ z) (h2 : z < 9223372036854775808) : z.bmod (2 ^ 64) = z := by
  rw [Int.bmod_eq_of_le] <;> omega
theorem iL_rm {a : Nat} (ha : a < 4611686018427387904) : q_lrm (iL a) (1000000007 : Int64) = iL (a % 1000000007) := by
  have m1 : (1000000007 : Int64).toInt = ((1000000007 : Nat) : Int) := iL_t (n := 1000000007) (by omega)
  have d1 : (iL a / (1000000007 : Int64)).toInt = ((a / 1000000007 : Nat) : Int) := by
    rw [Int64.toInt_div, iL_t ha, m1, ← Int.ofNat_tdiv, i64_bm (by omega) (by omega)]
  apply Int64.toInt_inj.mp
  unfold q_lrm
  rw [Int64.toInt_sub, Int64.toInt_mul, d1, m1, iL_t ha, iL_t (by omega), i64_bm (z := ((a / 1000000007 : Nat) : Int) * ((1000000007 : Nat) : Int)) (by omega) (by omega), i64_bm (by omega) (by omega)]
  omega
theorem lld_n {u : qS} {n j : Nat} (h : j < n) (hn : n < 2147483648) : q_lld u n (nI j) = some (u.2 j) := by
  unfold q_lld
  rw [nI_t (by omega), if_pos (by omega)]
  rfl
theorem lst_n {u : qS} {n j : Nat} {v : Int64} (h : j < n) (hn : n < 2147483648) : q_lst u n (nI j) v = some (q_sl u (vp_updL u.2 j v)) := by
  unfold q_lst
  rw [nI_t (by omega), if_pos (by omega)]
  rfl
def smF (g : Nat → Nat) (j : Nat) : Nat → Nat → Nat
  | _, 0 => 0
  | i, n + 1 => g (j - i) + smF g j (i + 1) n
theorem sm_le {g : Nat → Nat} {j : Nat} (hg : ∀ t, t ≤ j → g t < 1000000007) : ∀ n i, smF g j i n ≤ 1000000007 * n
  | 0, i => Nat.le_refl _
  | n + 1, i => by
    have := sm_le hg n (i + 1)
    have := hg (j - i) (by omega)
    unfold smF
    omega
def nwF (g : Nat → Nat) (w j : Nat) : Nat := smF g j 0 (min w j + 1) % 1000000007
theorem nw_lt {g : Nat → Nat} {w j : Nat} : nwF g w j < 1000000007 := Nat.mod_lt _ (by omega)
theorem lvC_it {w j : Nat} {g : Nat → Nat} {u : qS} {K : Int64 → qS → qR} (hw : w ≤ 20) (hj : j ≤ 99) (hr : ∀ t, t ≤ j → u.2 t = iL (g t)) : ∀ n i a f, i + n = min w j + 1 → n < f → q_it2 (m_X10_leaveUpTo_L12 (nI w) (nI j) K) f (iL a) (nI i) u = K (iL (a + smF g j i n)) u
  | n, i, a, 0, hi, hf => by omega
  | 0, i, a, f + 1, hi, hf => by
    show m_X10_leaveUpTo_L12 _ _ _ _ _ _ _ = _
    unfold m_X10_leaveUpTo_L12
    by_cases e : w < i
    · rw [if_pos (by rw [nI_t (by omega), nI_t (by omega)]; omega)]; rfl
    · rw [if_neg (by rw [nI_t (by omega), nI_t (by omega)]; omega), if_pos (by rw [nI_t (by omega), nI_t (by omega)]; omega)]; rfl
  | n + 1, i, a, f + 1, hi, hf => by
    have ih := lvC_it (K := K) hw hj hr n (i + 1) (a + g (j - i)) f (by omega) (by omega)
    show m_X10_leaveUpTo_L12 _ _ _ (q_it2 (m_X10_leaveUpTo_L12 (nI w) (nI j) K) f) _ _ _ = _
    generalize q_it2 (m_X10_leaveUpTo_L12 (nI w) (nI j) K) f = self at ih ⊢
    unfold m_X10_leaveUpTo_L12 smF
    simp only [lit_n]
    rw [if_neg (by rw [nI_t (by omega), nI_t (by omega)]; omega), if_neg (by rw [nI_t (by omega), nI_t (by omega)]; omega), nI_sub (by omega), lld_n (by omega) (by omega), Option.bind_some, hr _ (by omega), q_let_s, iL_add, nI_add, ih, Nat.add_assoc]
theorem lvL_it {w k : Nat} {g : Nat → Nat} {u : qS} (hw : w ≤ 20) (hk : k ≤ 99) (hg : ∀ t, t ≤ k → g t < 1000000007) : ∀ (n f : Nat) (r : Nat → Int64), n ≤ k + 1 → n < f → (∀ t, t < n → r t = iL (g t)) → (∀ t, n ≤ t → t ≤ k → r t = iL (nwF g w t)) → ∃ r2 : Nat → Int64, (∀ K, q_it1 (m_X10_leaveUpTo_L2 (nI w) K) f (dI n) (q_sl u r) = K (q_sl u r2)) ∧ ∀ t, t ≤ k → r2 t = iL (nwF g w t)
  | n, 0, r, hn, hf, h1, h2 => by omega
  | 0, f + 1, r, hn, hf, h1, h2 => by
    refine ⟨r, fun K => ?_, fun t ht => h2 t (by omega) ht⟩
    show m_X10_leaveUpTo_L2 _ _ _ _ _ = _
    unfold m_X10_leaveUpTo_L2
    rw [if_pos (by decide)]
  | n + 1, f + 1, r, hn, hf, h1, h2 => by
    obtain ⟨r2, b1, b2⟩ := lvL_it (u := u) hw hk hg n f (vp_updL r n (iL (nwF g w n))) (by omega) (by omega) (fun t ht => by
      show (if t = n then _ else r t) = _
      rw [if_neg (by omega)]; exact h1 t (by omega)) (fun t ht ht2 => by
      show (if t = n then _ else r t) = _
      by_cases e : t = n
      · rw [if_pos e, e]
      · rw [if_neg e]; exact h2 t (by omega) ht2)
    refine ⟨r2, fun K => ?_, b2⟩
    rw [← b1 K]
    have hs := sm_le (g := g) (j := n) (fun t ht => hg t (by omega)) (min w n + 1) 0
    have hl := fun K => lvC_it (w := w) (j := n) (g := g) (u := q_sl u r) (K := K) hw (by omega) (fun t ht => h1 t (by omega)) (min w n + 1) 0 0 q_F (by omega) (by rw [q_F_eq]; omega)
    rw [Nat.zero_add] at hl
    show m_X10_leaveUpTo_L2 _ _ (q_it1 (m_X10_leaveUpTo_L2 (nI w) K) f) (nI n) _ = _
    generalize q_it1 (m_X10_leaveUpTo_L2 (nI w) K) f = self
    unfold m_X10_leaveUpTo_L2
    simp only [lit_n, mI_lit]
    rw [if_neg (by rw [nI_t (by omega)]; omega), show (0 : Int64) = iL 0 from rfl, hl, iL_rm (by omega), lst_n (by omega) (by omega), Option.bind_some, dI_m]
    rfl
/-! the reference -/
theorem lvR_it {x1 x2 : Int32} {w j : Nat} {g : Nat → Nat} {v : qS} {s : Nat → Int32} {K : qS → qR} (hw : w ≤ 20) (hj : j ≤ 99) (hr : ∀ t, t ≤ j → v.1 185 t = nI (g t)) (hg : ∀ t, t ≤ j → g t < 1000000007) : ∀ n i a f, i + n = min w j + 1 → n < f → a < 1000000007 → q_it1 (m_X11_left_L82 x1 x2 (nI w) (nI j) K) f (nI i) (q_st v 186 (upd s j (nI a))) = K (q_st v 186 (upd s j (nI ((a + smF g j i n) % 1000000007))))
  | n, i, a, 0, hi, hf, ha => by omega
  | 0, i, a, f + 1, hi, hf, ha => by
    show m_X11_left_L82 _ _ _ _ _ _ _ _ = _
    unfold m_X11_left_L82
    have e0 : (a + smF g j i 0) % 1000000007 = a := by show (a + 0) % 1000000007 = a; omega
    rw [e0]
    by_cases e : w < i
    · rw [if_pos (by rw [nI_t (by omega), nI_t (by omega)]; omega)]
    · rw [if_neg (by rw [nI_t (by omega), nI_t (by omega)]; omega), if_pos (by rw [nI_t (by omega), nI_t (by omega)]; omega)]
  | n + 1, i, a, f + 1, hi, hf, ha => by
    have hg1 := hg (j - i) (by omega)
    have ih := lvR_it (x1 := x1) (x2 := x2) (s := s) (K := K) hw hj hr hg n (i + 1) ((a + g (j - i)) % 1000000007) f (by omega) (by omega) (Nat.mod_lt _ (by omega))
    have a1 : q_ald (q_st v 186 (upd s j (nI a))) 186 100 (nI j) = some (nI a) := by rw [ald_n (by omega) (by omega), q_st_g, if_pos rfl, upd_g, if_pos rfl]
    have a2 : q_ald (q_st v 186 (upd s j (nI a))) 185 100 (nI (j - i)) = some (nI (g (j - i))) := by rw [ald_n (by omega) (by omega), q_st_g, if_neg (by omega), hr _ (by omega)]
    have a3 : q_ast (q_st v 186 (upd s j (nI a))) 186 100 (nI j) (nI ((a + g (j - i)) % 1000000007)) = some (q_st v 186 (upd s j (nI ((a + g (j - i)) % 1000000007)))) := by
      rw [q_ast_ok (by omega) (by omega), q_st_st, q_st_g, if_pos rfl]
      congr 2
      funext t
      rw [upd_g, upd_g, upd_g]
      split <;> rfl
    have e1 : ((a + g (j - i)) % 1000000007 + smF g j (i + 1) n) % 1000000007 = (a + smF g j i (n + 1)) % 1000000007 := by
      show _ = (a + (g (j - i) + smF g j (i + 1) n)) % 1000000007
      omega
    rw [← e1, ← ih]
    show m_X11_left_L82 _ _ _ _ _ (q_it1 (m_X11_left_L82 x1 x2 (nI w) (nI j) K) f) _ _ = _
    generalize q_it1 (m_X11_left_L82 x1 x2 (nI w) (nI j) K) f = self
    unfold m_X11_left_L82
    simp only [lit_n]
    rw [if_neg (by rw [nI_t (by omega), nI_t (by omega)]; omega), if_neg (by rw [nI_t (by omega), nI_t (by omega)]; omega), a1, Option.bind_some, nI_sub (by omega), a2, Option.bind_some, nI_add, q_rm_n (by omega) (by omega) (by omega), a3, Option.bind_some, nI_add]
theorem lvR2_it {x2 : Int32} {w k : Nat} {g : Nat → Nat} {v : qS} (hw : w ≤ 20) (hk : k ≤ 99) (hr : ∀ t, t ≤ k → v.1 185 t = nI (g t)) (hg : ∀ t, t ≤ k → g t < 1000000007) : ∀ (n j f : Nat) (s : Nat → Int32), j + n = k + 1 → n < f → (∀ t, t < j → s t = nI (nwF g w t)) → ∃ s2 : Nat → Int32, (∀ K, q_it1 (m_X11_left_L65 (nI k) x2 (nI w) K) f (nI j) (q_st v 186 s) = K (q_st v 186 s2)) ∧ ∀ t, t ≤ k → s2 t = nI (nwF g w t)
  | n, j, 0, s, hj, hf, hs => by omega
  | 0, j, f + 1, s, hj, hf, hs => by
    refine ⟨s, fun K => ?_, fun t ht => hs t (by omega)⟩
    show m_X11_left_L65 _ _ _ _ _ _ _ = _
    unfold m_X11_left_L65
    rw [if_pos (by rw [nI_t (by omega), nI_t (by omega)]; omega)]
  | n + 1, j, f + 1, s, hj, hf, hs => by
    obtain ⟨s2, b1, b2⟩ := lvR2_it (x2 := x2) hw hk hr hg n (j + 1) f (upd s j (nI (nwF g w j))) (by omega) (by omega) (fun t ht => by
      rw [upd_g]
      by_cases e : t = j
      · rw [if_pos e, e]
      · rw [if_neg e]; exact hs t (by omega))
    refine ⟨s2, fun K => ?_, b2⟩
    rw [← b1 K]
    have a3 : q_ast (q_st v 186 s) 186 100 (nI j) (nI 0) = some (q_st v 186 (upd s j (nI 0))) := by
      rw [q_ast_ok (by omega) (by omega), q_st_st, q_st_g, if_pos rfl]
    have hl := fun K => lvR_it (x1 := nI k) (x2 := x2) (w := w) (j := j) (g := g) (v := v) (s := s) (K := K) hw (by omega) (fun t ht => hr t (by omega)) (fun t ht => hg t (by omega)) (min w j + 1) 0 0 q_F (by omega) (by rw [q_F_eq]; omega) (by omega)
    rw [Nat.zero_add] at hl
    show m_X11_left_L65 _ _ _ _ (q_it1 (m_X11_left_L65 (nI k) x2 (nI w) K) f) _ _ = _
    generalize q_it1 (m_X11_left_L65 (nI k) x2 (nI w) K) f = self
    unfold m_X11_left_L65
    simp only [lit_n]
    rw [if_neg (by rw [nI_t (by omega), nI_t (by omega)]; omega), a3, Option.bind_some, hl, nI_add]
    rfl
theorem lvR3_it {x2 : Int32} {k : Nat} {g : Nat → Nat} {v : qS} (hk : k ≤ 99) (hr : ∀ t, t ≤ k → v.1 186 t = nI (g t)) : ∀ (n j f : Nat) (s : Nat → Int32), j + n = k + 1 → n < f → (∀ t, t < j → s t = nI (g t)) → ∃ s2 : Nat → Int32, (∀ K, q_it1 (m_X11_left_L139 (nI k) x2 K) f (nI j) (q_st v 185 s) = K (q_st v 185 s2)) ∧ ∀ t, t ≤ k → s2 t = nI (g t)
  | n, j, 0, s, hj, hf, hs => by omega
  | 0, j, f + 1, s, hj, hf, hs => by
    refine ⟨s, fun K => ?_, fun t ht => hs t (by omega)⟩
    show m_X11_left_L139 _ _ _ _ _ _ = _
    unfold m_X11_left_L139
    rw [if_pos (by rw [nI_t (by omega), nI_t (by omega)]; omega)]
  | n + 1, j, f + 1, s, hj, hf, hs => by
    obtain ⟨s2, b1, b2⟩ := lvR3_it (x2 := x2) hk hr n (j + 1) f (upd s j (nI (g j))) (by omega) (by omega) (fun t ht => by
      rw [upd_g]
      by_cases e : t = j
      · rw [if_pos e, e]
      · rw [if_neg e]; exact hs t (by omega))
    refine ⟨s2, fun K => ?_, b2⟩
    rw [← b1 K]
    have a1 : q_ald (q_st v 185 s) 186 100 (nI j) = some (nI (g j)) := by rw [ald_n (by omega) (by omega), q_st_g, if_neg (by omega), hr _ (by omega)]
    have a3 : q_ast (q_st v 185 s) 185 100 (nI j) (nI (g j)) = some (q_st v 185 (upd s j (nI (g j)))) := by
      rw [q_ast_ok (by omega) (by omega), q_st_st, q_st_g, if_pos rfl]
    show m_X11_left_L139 _ _ _ (q_it1 (m_X11_left_L139 (nI k) x2 K) f) _ _ = _
    generalize q_it1 (m_X11_left_L139 (nI k) x2 K) f = self
    unfold m_X11_left_L139
    simp only [lit_n]
    rw [if_neg (by rw [nI_t (by omega), nI_t (by omega)]; omega), a1, Option.bind_some, a3, Option.bind_some, nI_add]
/-! eater by eater -/
theorem left_it {k E : Nat} (hk : k ≤ 99) (hE1 : E ≤ 10) : ∀ (n e f1 f2 : Nat) (x y : qS) (g : Nat → Nat), e + n = E → n < f1 → n < f2 → y.1 163 7 = nI E → Rel x y → (∀ t, t ≤ k → g t < 1000000007) → (∀ t, t ≤ k → x.2 t = iL (g t)) → (∀ t, t ≤ k → y.1 185 t = nI (g t)) →
    ∃ (x2 y2 : qS) (m : Nat), m < 1000000007 ∧ (∀ K : qS → qR, q_it1 (m_X10_left_L41 (nI k) K) f1 (nI e) x = K x2) ∧ (∀ K : qS → qR, q_it1 (m_X11_left_L48 (nI k) K) f2 (nI e) y = K y2) ∧ Rel x2 y2 ∧ x2.2 k = iL m ∧ y2.1 185 k = nI m
  | n, e, 0, f2, x, y, g, he, hf1, hf2, hE, h, hg, hx, hy => by omega
  | n, e, f1, 0, x, y, g, he, hf1, hf2, hE, h, hg, hx, hy => by omega
  | 0, e, f1 + 1, f2 + 1, x, y, g, he, hf1, hf2, hE, h, hg, hx, hy => by
    have c1 : (nI E).toInt ≤ (nI e).toInt := by rw [nI_t (by omega), nI_t (by omega)]; omega
    have x9 : x.1 2 9 = nI E := by rw [h.C.eaters, hE]
    refine ⟨x, y, g k, hg k (by omega), fun K => ?_, fun K => ?_, h, hx k (by omega), hy k (by omega)⟩
    · show m_X10_left_L41 _ _ _ _ _ = _
      unfold m_X10_left_L41
      rw [x9, if_pos c1]
    · show m_X11_left_L48 _ _ _ _ _ = _
      unfold m_X11_left_L48
      rw [hE, if_pos c1]
  | n + 1, e, f1 + 1, f2 + 1, x, y, g, he, hf1, hf2, hE, h, hg, hx, hy => by
    have c1 : ¬ (nI E).toInt ≤ (nI e).toInt := by rw [nI_t (by omega), nI_t (by omega)]; omega
    have x9 : x.1 2 9 = nI E := by rw [h.C.eaters, hE]
    obtain ⟨w, x1, y1, w1, a1, a2, R1, k1, k2, k3⟩ := want_s h (show e < 10 by omega)
    have hx1 : ∀ t, t ≤ k → x1.2 t = iL (g t) := fun t ht => by rw [k3]; exact hx t ht
    have hy1 : ∀ t, t ≤ k → y1.1 185 t = nI (g t) := fun t ht => by rw [k2 185 (by omega) (by omega)]; exact hy t ht
    obtain ⟨r2, b1, b2⟩ := lvL_it (u := x1) (w := w) (k := k) (g := g) w1 hk hg (k + 1) q_F x1.2 (by omega) (by rw [q_F_eq]; omega) (fun t ht => hx1 t (by omega)) (fun t h1 h2 => by omega)
    obtain ⟨s2, d1, d2⟩ := lvR2_it (v := y1) (x2 := nI e) (w := w) (k := k) (g := g) w1 hk hy1 hg (k + 1) 0 q_F (y1.1 186) (by omega) (by rw [q_F_eq]; omega) (fun t ht => by omega)
    rw [q_st_self rfl] at d1
    obtain ⟨s3, e1, e2⟩ := lvR3_it (v := q_st y1 186 s2) (x2 := nI e) (k := k) (g := nwF g w) hk (fun t ht => by rw [q_st_g, if_pos rfl]; exact d2 t ht) (k + 1) 0 q_F ((q_st y1 186 s2).1 185) (by omega) (by rw [q_F_eq]; omega) (fun t ht => by omega)
    rw [q_st_self rfl] at e1
    have R2 : Rel (q_sl x1 r2) (q_st (q_st y1 186 s2) 185 s3) := R1.th (fun _ _ _ _ => rfl) rfl (fun j _ => rfl) (fun c h1 h2 h3 h4 h5 => by rw [q_st_g, if_neg (by omega), q_st_g, if_neg (by omega)]) (fun j _ _ => rfl)
    obtain ⟨x3, y3, m, m1, c2, c3, R3, c4, c5⟩ := left_it hk hE1 n (e + 1) f1 f2 (q_sl x1 r2) (q_st (q_st y1 186 s2) 185 s3) (nwF g w) (by omega) (by omega) (by omega) (by
      show y1.1 163 7 = _
      rw [k2 163 (by omega) (by omega)]; exact hE) R2 (fun t _ => nw_lt) (fun t ht => b2 t ht) (fun t ht => e2 t ht)
    have lu : m_X10_leaveUpTo (nI w) (nI k) x1 = some (nI 0, q_sl x1 r2) := by
      unfold m_X10_leaveUpTo
      exact b1 _
    refine ⟨x3, y3, m, m1, fun K => ?_, fun K => ?_, R3, c4, c5⟩
    · rw [← c2 K]
      show m_X10_left_L41 _ _ (q_it1 (m_X10_left_L41 (nI k) K) f1) _ _ = _
      generalize q_it1 (m_X10_left_L41 (nI k) K) f1 = self
      unfold m_X10_left_L41
      rw [x9, if_neg c1, a1, q_bd_s', lu, q_bd_s', lit_n, nI_add]
    · rw [← c3 K]
      show m_X11_left_L48 _ _ (q_it1 (m_X11_left_L48 (nI k) K) f2) _ _ = _
      generalize q_it1 (m_X11_left_L48 (nI k) K) f2 = self
      unfold m_X11_left_L48
      simp only [lit_n]
      rw [hE, if_neg c1, a2, q_bd_s', d1, e1, nI_add]
/-! the first row -/
theorem liC_it {k : Nat} {u : qS} (hk : k ≤ 99) : ∀ (n i f : Nat) (r : Nat → Int64), i + n = k + 1 → n < f → (∀ t, t < i → r t = iL (if t = 0 then 1 else 0)) → 1 ≤ i → ∃ r2 : Nat → Int64, (∀ K, q_it1 (m_X10_left_L21 (nI k) K) f (nI i) (q_sl u r) = K (q_sl u r2)) ∧ ∀ t, t ≤ k → r2 t = iL (if t = 0 then 1 else 0)
  | n, i, 0, r, hi, hf, hr, h1 => by omega
  | 0, i, f + 1, r, hi, hf, hr, h1 => by
    refine ⟨r, fun K => ?_, fun t ht => hr t (by omega)⟩
    show m_X10_left_L21 _ _ _ _ _ = _
    unfold m_X10_left_L21
    rw [if_pos (by rw [nI_t (by omega), nI_t (by omega)]; omega)]
  | n + 1, i, f + 1, r, hi, hf, hr, h1 => by
    obtain ⟨r2, b1, b2⟩ := liC_it (u := u) hk n (i + 1) f (vp_updL r i (iL 0)) (by omega) (by omega) (fun t ht => by
      show (if t = i then _ else r t) = _
      by_cases e : t = i
      · rw [if_pos e, if_neg (by omega)]
      · rw [if_neg e]; exact hr t (by omega)) (by omega)
    refine ⟨r2, fun K => ?_, b2⟩
    rw [← b1 K]
    show m_X10_left_L21 _ _ (q_it1 (m_X10_left_L21 (nI k) K) f) _ _ = _
    generalize q_it1 (m_X10_left_L21 (nI k) K) f = self
    unfold m_X10_left_L21
    rw [if_neg (by rw [nI_t (by omega), nI_t (by omega)]; omega), lst_n (by omega) (by omega), Option.bind_some, lit_n, nI_add]
    rfl
theorem liR_it {k : Nat} {v : qS} (hk : k ≤ 99) : ∀ (n i f : Nat) (s : Nat → Int32), i + n = k + 1 → n < f → (∀ t, t < i → s t = nI (if t = 0 then 1 else 0)) → ∃ s2 : Nat → Int32, (∀ K, q_it1 (m_X11_left_L20 (nI k) K) f (nI i) (q_st v 185 s) = K (q_st v 185 s2)) ∧ ∀ t, t ≤ k → s2 t = nI (if t = 0 then 1 else 0)
  | n, i, 0, s, hi, hf, hr => by omega
  | 0, i, f + 1, s, hi, hf, hr => by
    refine ⟨s, fun K => ?_, fun t ht => hr t (by omega)⟩
    show m_X11_left_L20 _ _ _ _ _ = _
    unfold m_X11_left_L20
    rw [if_pos (by rw [nI_t (by omega), nI_t (by omega)]; omega)]
  | n + 1, i, f + 1, s, hi, hf, hr => by
    obtain ⟨s2, b1, b2⟩ := liR_it (v := v) hk n (i + 1) f (upd s i (nI (if i = 0 then 1 else 0))) (by omega) (by omega) (fun t ht => by
      rw [upd_g]
      by_cases e : t = i
      · rw [if_pos e, e]
      · rw [if_neg e]; exact hr t (by omega))
    refine ⟨s2, fun K => ?_, b2⟩
    rw [← b1 K]
    have a3 : ∀ z, q_ast (q_st v 185 s) 185 100 (nI i) z = some (q_st v 185 (upd s i z)) := fun z => by
      rw [q_ast_ok (by omega) (by omega), q_st_st, q_st_g, if_pos rfl]
    show m_X11_left_L20 _ _ (q_it1 (m_X11_left_L20 (nI k) K) f) _ _ = _
    generalize q_it1 (m_X11_left_L20 (nI k) K) f = self
    unfold m_X11_left_L20
    simp only [lit_n]
    rw [if_neg (by rw [nI_t (by omega), nI_t (by omega)]; omega), q_jn, nI_add]
    by_cases e : i = 0
    · rw [if_pos (by rw [nI_t (by omega)]; omega)]; dsimp only; rw [a3, Option.bind_some, if_pos e]
    · rw [if_neg (by rw [nI_t (by omega)]; omega)]; dsimp only; rw [a3, Option.bind_some, if_neg e]
theorem sim_left (a : Int32) : SIM (m_X10_left a) (m_X11_left a) := fun x y h => by
  obtain ⟨E, hE1, hE, hE2⟩ := h.G.E
  unfold m_X10_left m_X11_left
  simp only [lit_n, mI_lit]
  rcases within_b a 0 99 (by omega) (by omega) with ⟨k, k0, k1, k2, u1, u2⟩ | ⟨u1, u2⟩
  · subst k2
    obtain ⟨r2, b1, b2⟩ := liC_it (u := x) (k := k) k1 k 1 q_F (vp_updL x.2 0 (iL 1)) (by omega) (by rw [q_F_eq]; omega) (fun t ht => by
      have : t = 0 := by omega
      subst this
      rfl) (by omega)
    obtain ⟨s2, d1, d2⟩ := liR_it (v := q_up y 163 0 (nI 0)) (k := k) k1 (k + 1) 0 q_F ((q_up y 163 0 (nI 0)).1 185) (by omega) (by rw [q_F_eq]; omega) (fun t ht => by omega)
    rw [q_st_self rfl] at d1
    have R2 : Rel (q_sl x r2) (q_st (q_up y 163 0 (nI 0)) 185 s2) := (h.told (v := nI 0)).th (fun _ _ _ _ => rfl) rfl (fun j _ => rfl) (fun c h1 h2 h3 h4 h5 => by rw [q_st_g, if_neg (by omega)]) (fun j _ _ => rfl)
    obtain ⟨x3, y3, m, m1, c2, c3, R3, c4, c5⟩ := left_it k1 hE1 E 0 q_F q_F (q_sl x r2) (q_st (q_up y 163 0 (nI 0)) 185 s2) (fun t => if t = 0 then 1 else 0) (by omega) (by rw [q_F_eq]; omega) (by rw [q_F_eq]; omega) hE R2 (fun t _ => by show (if t = 0 then 1 else 0) < _; split <;> omega) (fun t ht => b2 t ht) (fun t ht => d2 t ht)
    refine ⟨nI m, x3, y3, ?_, ?_, R3⟩
    · rw [u1, q_bd_s', if_neg (by decide), lst_n (by omega) (by omega), Option.bind_some]
      refine (b1 _).trans ?_
      rw [c2, lld_n (by omega) (by omega), Option.bind_some, c4]
      exact congrArg (fun z => some (z, x3)) Int64.toInt32_ofNat'
    · rw [q_let_s, u2, q_bd_s', if_neg (by decide), d1, c3, ald_n (by omega) (by omega), Option.bind_some, c5]
  · refine ⟨mI, x, q_up y 163 0 (nI 0), ?_, ?_, h.told⟩
    · rw [u1, q_bd_s', if_pos (by decide)]
    · rw [q_let_s, u2, q_bd_s', if_pos (by decide)]
