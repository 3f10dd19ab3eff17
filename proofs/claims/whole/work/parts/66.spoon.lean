/-! LAYER 2: jam eaten -/
theorem q_ext {u v : qS} (h : ∀ c i, u.1 c i = v.1 c i) (h2 : u.2 = v.2) : u = v := Prod.ext (funext fun c => funext fun i => h c i) h2
theorem q_up_gg {u : qS} {k j : Nat} {v : Int32} {a i : Nat} : (q_up u k j v).1 a i = if a = k ∧ i = j then v else u.1 a i := by
  rw [q_up_1]
  by_cases h : a = k
  · subst h
    rw [if_pos rfl, upd_g]
    by_cases h2 : i = j
    · rw [if_pos h2, if_pos ⟨rfl, h2⟩]
    · rw [if_neg h2, if_neg (fun e => h2 e.2)]
  · rw [if_neg h, if_neg (fun e => h e.1)]
theorem q_up3 {u : qS} {a b c p : Nat} {x y z x' y' z' : Int32} : q_up (q_up (q_up (q_up (q_up (q_up u a p x) b p y) c p z) a p x') b p y') c p z' = q_up (q_up (q_up u a p x') b p y') c p z' := by
  refine q_ext (fun d i => ?_) rfl
  simp only [q_up_gg]
  by_cases hc : d = c ∧ i = p
  · simp only [if_pos hc]
  by_cases hb : d = b ∧ i = p
  · simp only [if_neg hc, if_pos hb]
  by_cases ha : d = a ∧ i = p
  · simp only [if_neg hc, if_neg hb, if_pos ha]
  · simp only [if_neg hc, if_neg hb, if_neg ha]
theorem countJ_X {X Y : qX} {f : Nat → Int32} {e p : Nat} (h : ∀ c, 12 ≤ c → c < 17 → Y c = X c) : countJ Y f e p = countJ X f e p := by
  unfold countJ; rw [tF_X h]
theorem countJ_f {X : qX} {f f2 : Nat → Int32} {e p : Nat} (hp : p < 5) (hf : ∀ j, j ≠ 5 + p → j ≠ 15 + p → f2 j = f j) : countJ X f2 e p = countJ X f e p := by
  unfold countJ
  rw [hf 0 (by omega) (by omega), hf (76 + e) (by omega) (by omega), hf (86 + (5 * e + p)) (by omega) (by omega), hf (10 + p) (by omega) (by omega)]
theorem countJ_n {X : qX} {f : Nat → Int32} {e p : Nat} : ∃ w : Nat, w ≤ 9 ∧ countJ X f e p = nI w := by
  have hr := hd_rng (m := 9) (r := tF X 12 (aF (q_rm (f 0) (nI 52)) (nI p) (nI 0) (nI 0) (nI 0) (f (76 + e)) (f (86 + (5 * e + p)) + nI 5) (nI 1) (f (10 + p))) (nI 2) (nI 1)) (by omega)
  obtain ⟨w, h1, h2, -⟩ := nI_ex (b := 9) hr.1 hr.2 (by omega)
  exact ⟨w, h1, h2⟩
section
variable {tr th tg : Bool} {k k2 : Nat}
theorem count_e {u : qS} {p n V : Nat} (hk : (k = 88 ∧ k2 = 2) ∨ (k = 90 ∧ k2 = 92)) (hp : p < 5) (hV : u.1 (k2 + 2) p = nI V) (hV9 : V ≤ 9999) (hn : n ≤ 100000) : m_X7_count k k2 (nI p) (nI n) u = some (nI 0, q_up (q_up u (k2 + 2) p (nI (min 9999 (V + n)))) (k + 1) p (u.1 (k + 1) p + nI (min n (9999 - V)))) := by
  have e9 : nI 9999 - nI V = nI (9999 - V) := nI_sub (by omega)
  have em : q_min (nI n) (nI (9999 - V)) = nI (min n (9999 - V)) := q_min_n (by omega) (by omega)
  have hmin : V + min n (9999 - V) = min 9999 (V + n) := by omega
  have x2 : q_ald u (k2 + 2) 5 (nI p) = some (nI V) := by rw [ald_n (by omega) (by omega), hV]
  have y2 : ∀ x, q_ast u (k2 + 2) 5 (nI p) x = some (q_up u (k2 + 2) p x) := fun x => ast_n (by omega) (by omega)
  have x3 : ∀ x, q_ald (q_up u (k2 + 2) p x) (k + 1) 5 (nI p) = some (u.1 (k + 1) p) := fun x => by rw [ald_n (by omega) (by omega), q_up_1, if_neg (by omega)]
  have y3 : ∀ (w : qS) x, q_ast w (k + 1) 5 (nI p) x = some (q_up w (k + 1) p x) := fun w x => ast_n (by omega) (by omega)
  unfold m_X7_count
  simp only [lit_n, x2, Option.bind_some, q_let, e9, em, nI_add, hmin, y2, x3, y3]
/-- the class's state behind j spoons -/
def US (k k2 : Nat) (u : qS) (p V w st j : Nat) (c0 : Int32) : qS := q_up (q_up (q_up u (k2 + 2) p (nI (min 9999 (V + w * j)))) (k + 1) p (c0 + nI (min 9999 (V + w * j) - V))) (k2 + 1) p (nI (st - j))
theorem spoon_in {e p P E V w st L s : Nat} {u1 : qS} {c0 : Int32} {f0 : Nat → Int32} {K79 : Int32 → qS → qR} (hk : (k = 88 ∧ k2 = 2) ∨ (k = 90 ∧ k2 = 92)) (hP5 : P ≤ 5) (hE1 : E ≤ 10) (he : e < E) (hp : p < P) (hw9 : w ≤ 9) (hV9 : V ≤ 9999) (hst : st ≤ 999) (hL : L < 100) (hsL : s ≤ L) (hss : s ≤ st) (hw : countJ u1.1 f0 e p = nI w) :
    ∀ (n j f : Nat) (v : qS), j + n = s → L - j < f → ST tr k k2 (US k k2 u1 p V w st j c0) v → WK tr th tg k k2 (US k k2 u1 p V w st j c0) v → v.1 163 6 = nI P → v.1 163 7 = nI E → (∀ i, i ≠ 5 + p → i ≠ 15 + p → v.1 164 i = f0 i) → v.1 164 (15 + p) = nI (st - j) → (0 < n → bJ (v.1 164) e P = some p) →
      ∃ (g : Nat) (v2 : qS), L - s < g ∧ q_it2 (m_X11_isHungry_L25 (nI e) K79) f (nI (L - j)) (enc (bJ (v.1 164) e P)) v = q_it2 (m_X11_isHungry_L25 (nI e) K79) g (nI (L - s)) (enc (bJ (v2.1 164) e P)) v2 ∧ WK tr th tg k k2 (US k k2 u1 p V w st s c0) v2 ∧ FY tr v v2 ∧ (∀ i, i ≠ 5 + p → i ≠ 15 + p → v2.1 164 i = v.1 164 i) ∧ v2.1 164 (15 + p) = nI (st - s)
  | n, j, 0, v, hj, hf, hS, hW, hP, hE, h0, hj2, hb => by omega
  | 0, j, f + 1, v, hj, hf, hS, hW, hP, hE, h0, hj2, hb => by
    have : j = s := by omega
    subst this
    exact ⟨f + 1, v, hf, rfl, hW, FY.rfl', fun _ _ _ => rfl, hj2⟩
  | n + 1, j, f + 1, v, hj, hf, hS, hW, hP, hE, h0, hj2, hb => by
    have hb1 := hb (by omega)
    have hx : ∀ c, 12 ≤ c → c < 17 → (US k k2 u1 p V w st j c0).1 c = u1.1 c := fun c a b => by
      unfold US; rw [q_up_1, if_neg (by omega), q_up_1, if_neg (by omega), q_up_1, if_neg (by omega)]
    obtain ⟨s1, a1, e1⟩ := countJ_r (v := v) (X := (US k k2 u1 p V w st j c0).1) (e := e) (p := p) hS.2.2.1 (by omega) (by omega)
    rw [countJ_X hx, countJ_f (f := f0) (by omega) h0, hw] at e1
    have w0 : WQ tr th tg k k2 (US k k2 u1 p V w st j c0) v (fun i => i = 5 + p) (US k k2 u1 p V w st j c0) (sr v s1 a1) := ⟨FX.rfl', FY.rfl'.sr, hW.sr, fun _ _ => rfl⟩
    obtain ⟨u2, v2, g1, g2, w1⟩ := count_s (w0.st hS) w0.2.2.1 hP hP5 hp (n := w) (by omega)
    have w2 := w0.trans w1 (S3 := fun i => i = 5 + p) (by omega)
    have hV' : (US k k2 u1 p V w st j c0).1 (k2 + 2) p = nI (min 9999 (V + w * j)) := by
      unfold US; rw [q_up_1, if_neg (by omega), q_up_1, if_neg (by omega), q_up_1, if_pos rfl, upd_g, if_pos rfl]
    have hc' : (US k k2 u1 p V w st j c0).1 (k + 1) p = c0 + nI (min 9999 (V + w * j) - V) := by
      unfold US; rw [q_up_1, if_neg (by omega), q_up_1, if_pos rfl, upd_g, if_pos rfl]
    have ce := count_e (u := US k k2 u1 p V w st j c0) (n := w) hk (by omega) hV' (by omega) (by omega)
    rw [g1] at ce
    have hu2 := (Prod.mk.inj (Option.some.inj ce)).2
    have w3 := WQ.jam (p := p) (x := st - (j + 1)) w2.2.2.1 (w2.st hS) (by omega) (by omega)
    have w4 := w2.trans w3 (S3 := fun i => i = 5 + p ∨ i = 15 + p) (by omega)
    have hwj : w * (j + 1) = w * j + w := Nat.mul_succ w j
    have hUS : q_up u2 (k2 + 1) p (nI (st - (j + 1))) = US k k2 u1 p V w st (j + 1) c0 := by
      rw [hu2, hc', show min 9999 (min 9999 (V + w * j) + w) = min 9999 (V + w * (j + 1)) by omega]
      rw [Int32.add_assoc, nI_add, show min 9999 (V + w * j) - V + min w (9999 - min 9999 (V + w * j)) = min 9999 (V + w * (j + 1)) - V by omega]
      unfold US
      exact q_up3
    rw [hUS] at w4
    have S4 := w4.st hS
    have P4 : (q_up v2 164 (15 + p) (nI (st - (j + 1)))).1 163 6 = nI P := by rw [w4.2.1.2.1 6 (by omega) (by omega) (by omega)]; exact hP
    have E4 : (q_up v2 164 (15 + p) (nI (st - (j + 1)))).1 163 7 = nI E := by rw [w4.2.1.2.1 7 (by omega) (by omega) (by omega)]; exact hE
    have J4 : (q_up v2 164 (15 + p) (nI (st - (j + 1)))).1 164 (15 + p) = nI (st - (j + 1)) := by rw [q_up_1, if_pos rfl, upd_g, if_pos rfl]
    have o4 : ∀ i, i ≠ 5 + p → i ≠ 15 + p → (q_up v2 164 (15 + p) (nI (st - (j + 1)))).1 164 i = v.1 164 i := fun i h1 h2 => w4.2.2.2 i (by omega)
    have jr := jam_r (v := q_up v2 164 (15 + p) (nI (st - (j + 1)))) (e := e) w4.2.2.1.2.1 P4 hP5 hE1 he
    have hb4 : 0 < n → bJ ((q_up v2 164 (15 + p) (nI (st - (j + 1)))).1 164) e P = some p := fun hn => by
      rw [← hb1]
      unfold bJ
      refine bst_cong _ _ _ (fun q hq => ?_) (fun q hq => by cases hq)
      have htJ : tJ ((q_up v2 164 (15 + p) (nI (st - (j + 1)))).1 164) e q = tJ (v.1 164) e q := by
        unfold tJ; rw [o4 _ (by omega) (by omega)]
      refine ⟨?_, by rw [htJ]⟩
      unfold cj
      rw [htJ]
      by_cases hqp : q = p
      · rw [hqp, J4, hj2]
        have a1 : 0 < (nI (st - (j + 1))).toInt := by rw [nI_t (by omega)]; omega
        have a2 : 0 < (nI (st - j)).toInt := by rw [nI_t (by omega)]; omega
        simp only [a1, a2]
      · rw [o4 _ (by omega) (by omega)]
    obtain ⟨g, v3, r1, r2, r3, r4, r5, r6⟩ := spoon_in (K79 := K79) hk hP5 hE1 he hp hw9 hV9 hst hL hsL hss hw n (j + 1) f _ (by omega) (by omega) S4 w4.2.2.1 P4 E4 (fun i h1 h2 => by rw [o4 i h1 h2]; exact h0 i h1 h2) J4 hb4
    refine ⟨g, v3, r1, ?_, r3, w4.2.1.trans r4, fun i h1 h2 => (r5 i h1 h2).trans (o4 i h1 h2), r6⟩
    rw [← r2, hb1]
    show m_X11_isHungry_L25 _ _ (q_it2 (m_X11_isHungry_L25 (nI e) K79) f) _ (nI p) _ = _
    generalize q_it2 (m_X11_isHungry_L25 (nI e) K79) f = self
    unfold m_X11_isHungry_L25
    have c1 : ¬ (nI (L - j)).toInt ≤ 0 := by rw [nI_t (by omega)]; omega
    have c2 : ¬ (nI p).toInt = mI.toInt := by rw [nI_t (by omega), mI_t]; omega
    have y1 : q_ald v2 164 136 (nI (15 + p)) = some (nI (st - j)) := by rw [ald_n (by omega) (by omega), w2.2.2.2 _ (by omega), hj2]
    have e2 : nI (st - j) - nI 1 = nI (st - (j + 1)) := by rw [nI_sub (by omega)]; congr 1
    have e3 : nI (L - j) - nI 1 = nI (L - (j + 1)) := by rw [nI_sub (by omega)]; congr 1
    have y2 : q_ast v2 164 136 (nI (15 + p)) (nI (st - (j + 1))) = some (q_up v2 164 (15 + p) (nI (st - (j + 1)))) := ast_n (by omega) (by omega)
    simp only [lit_n, mI_lit, nI_add, if_neg c1, if_neg c2, e1, q_bd_some, g2, y1, Option.bind_some, e2, y2, q_let, e3, jr]
def hj (f : Nat → Int32) (p : Nat) : Bool := decide (0 < (f (15 + p)).toInt)
theorem hung_z {x1 x3 : Int32} {K79 : Int32 → qS → qR} {g : Nat} {v : qS} : q_it2 (m_X11_isHungry_L25 x1 K79) (g + 1) (nI 0) x3 v = K79 (nI 0) v := by
  show m_X11_isHungry_L25 _ _ _ _ _ _ = _
  unfold m_X11_isHungry_L25
  rw [if_pos (by decide)]
theorem hung_n {x1 : Int32} {K79 : Int32 → qS → qR} {g s : Nat} {v : qS} : q_it2 (m_X11_isHungry_L25 x1 K79) (g + 1) (nI s) mI v = K79 (nI s) v := by
  show m_X11_isHungry_L25 _ _ _ _ _ _ = _
  unfold m_X11_isHungry_L25
  by_cases h : (nI s).toInt ≤ 0
  · rw [if_pos h]
  · rw [if_neg h, if_pos (by rfl)]
theorem spoon_z {x3 : Int32} {K31 K99 : Int32 → qS → qR} {f i : Nat} {u : qS} : q_it2 (m_X7_spoon_L7 k k2 x3 K31 K99) (f + 1) (nI 0) (nI i) u = K99 (nI 0) u := by
  show m_X7_spoon_L7 _ _ _ _ _ _ _ _ _ = _
  unfold m_X7_spoon_L7
  by_cases h : (5 : Int32).toInt ≤ (nI i).toInt
  · rw [if_pos h]
  · rw [if_neg h, if_pos (by decide)]
def SJ (j : Nat) : Prop := (5 ≤ j ∧ j < 10) ∨ (15 ≤ j ∧ j < 20)
theorem spoon_out {e P E : Nat} {K79 : Int32 → qS → qR} (hP5 : P ≤ 5) (hE1 : E ≤ 10) (he : e < E) :
    ∀ (n i s f1 g : Nat) (u v : qS), ST tr k k2 u v → WK tr th tg k k2 u v → v.1 163 6 = nI P → v.1 163 7 = nI E → i + n = 5 → n < f1 → s < g → s < 100 → ct (hj (v.1 164)) P ≤ n →
      ∃ (s2 : Nat) (u2 v2 : qS), s2 ≤ s ∧ q_it2 (m_X7_spoon_L7 k k2 (nI e) (fun x5 u_7 => some (x5, u_7)) (fun x5_8 u_9 => some (x5_8, u_9))) f1 (nI s) (nI i) u = some (nI s2, u2) ∧
        q_it2 (m_X11_isHungry_L25 (nI e) K79) g (nI s) (enc (bJ (v.1 164) e P)) v = K79 (nI s2) v2 ∧ WQ tr th tg k k2 u v SJ u2 v2
  | n, i, s, 0, g, u, v, hS, hW, hP, hE, hi, hf, hg', hs, hct => by omega
  | n, i, s, f1, 0, u, v, hS, hW, hP, hE, hi, hf, hg', hs, hct => by omega
  | n, i, 0, f1 + 1, g + 1, u, v, hS, hW, hP, hE, hi, hf, hg', hs, hct => ⟨0, u, v, Nat.le_refl _, spoon_z, hung_z, WQ.rfl' hW⟩
  | 0, i, s + 1, f1 + 1, g + 1, u, v, hS, hW, hP, hE, hi, hf, hg', hs, hct => by
    refine ⟨s + 1, u, v, Nat.le_refl _, ?_, ?_, WQ.rfl' hW⟩
    · show m_X7_spoon_L7 _ _ _ _ _ _ _ _ _ = _
      unfold m_X7_spoon_L7
      rw [lit_n, if_pos (by rw [nI_t (by omega), nI_t (by omega)]; omega)]
    · have : bJ (v.1 164) e P = none := by
        unfold bJ
        refine bst_none _ _ (fun q _ hq => ?_)
        have h0 := ct_0 (Nat.le_zero.mp hct) q (by omega)
        unfold hj at h0
        unfold cj
        rw [decide_eq_false_iff_not] at h0 ⊢
        exact fun h => h0 h.1
      rw [this]
      exact hung_n
  | n + 1, i, s + 1, f1 + 1, g + 1, u, v, hS, hW, hP, hE, hi, hf, hg', hs, hct => by
    have hk := hS.1.k
    have c1 : ¬ (nI 5).toInt ≤ (nI i).toInt := by rw [nI_t (by omega), nI_t (by omega)]; omega
    have c2 : ¬ (nI (s + 1)).toInt ≤ 0 := by rw [nI_t (by omega)]; omega
    have jc := jam_c (u := u) (v := v) (e := e) hW.1 hW.2.1 hP hP5 hE hE1 he
    cases hb : bJ (v.1 164) e P with
    | none =>
      rw [hb] at jc
      refine ⟨s + 1, u, v, Nat.le_refl _, ?_, hung_n, WQ.rfl' hW⟩
      show m_X7_spoon_L7 _ _ _ _ _ _ _ _ _ = _
      unfold m_X7_spoon_L7
      have c3 : (enc none).toInt = mI.toInt := rfl
      simp only [lit_n, mI_lit, if_neg c1, if_neg c2, jc, q_bd_some, if_pos c3]
    | some p =>
      have hbt := hb
      unfold bJ at hbt
      rcases bst_c _ _ _ _ hbt with h | ⟨-, hpP, hcd⟩
      · cases h
      have hp : p < P := by omega
      unfold cj at hcd
      rw [decide_eq_true_iff] at hcd
      rw [hb] at jc
      have jc' : m_X0_jamFor k2 (nI e) u = some (nI p, u) := jc
      obtain ⟨st, hst, st1, st2⟩ := hW.2.1.jam (p := p) (by omega)
      obtain ⟨V, hV, V1, V2⟩ := hW.2.1.votes (p := p) (by omega)
      have hst0 : 0 < st := by have := hcd.1; rw [st2] at this; omega
      obtain ⟨s1, a1, e1⟩ := countJ_c (u := u) (e := e) (p := p) hS.1.k2 hW.1 hS.2.2.1 hP hP5 hE hE1 he hp
      obtain ⟨w, hw9, hw⟩ := countJ_n (X := u.1) (f := v.1 164) (e := e) (p := p)
      rw [hw] at e1
      let u1 := sc u s1 a1
      have wsc : WQ tr th tg k k2 u v SJ u1 v := ⟨FX.rfl'.sc hS.1, FY.rfl', hW.sc hS.1, fun _ _ => rfl⟩
      have hx : ∀ c, 12 ≤ c → c < 17 → u1.1 c = u.1 c := fun c a b => sc_o (by omega) (by omega)
      have hw' : countJ u1.1 (v.1 164) e p = nI w := by rw [countJ_X hx]; exact hw
      have hu1V : u1.1 (k2 + 2) p = nI V := by rw [wsc.2.2.1.1.votes (by omega)]; exact V1
      have hu1s : u1.1 (k2 + 1) p = nI st := by rw [wsc.2.2.1.1.store (by omega)]; exact st1
      have hU0 : US k k2 u1 p V w st 0 (u1.1 (k + 1) p) = u1 := by
        unfold US
        rw [show min 9999 (V + w * 0) = V by omega, q_up_self hu1V, show V - V = 0 by omega, q_up_self (show u1.1 (k + 1) p = u1.1 (k + 1) p + nI 0 from (Int32.add_zero _).symm), show st - 0 = st by omega, q_up_self hu1s]
      obtain ⟨g2, v2, r1, r2, r3, r4, r5, r6⟩ := spoon_in (tr := tr) (th := th) (tg := tg) (K79 := K79) (u1 := u1) (c0 := u1.1 (k + 1) p) (f0 := v.1 164) (L := s + 1) (s := min (s + 1) st) hk hP5 hE1 he hp hw9 hV hst hs (by omega) (by omega) hw' (min (s + 1) st) 0 (g + 1) v (by omega) (by omega) (by rw [hU0]; exact wsc.st hS) (by rw [hU0]; exact wsc.2.2.1) hP hE (fun _ _ _ => rfl) st1 (fun _ => hb)
      -- the class
      have hwb : w * min (s + 1) st ≤ 9 * 99 := Nat.mul_le_mul hw9 (by omega)
      have ce := count_e (u := u1) (n := w * min (s + 1) st) hk (by omega) hu1V hV (by omega)
      have x1 : q_ald u1 (k2 + 1) 5 (nI p) = some (nI st) := by rw [ald_n (by omega) (by omega), hu1s]
      have x2 : ∀ x y, q_ald (q_up (q_up u1 (k2 + 2) p x) (k + 1) p y) (k2 + 1) 5 (nI p) = some (nI st) := fun x y => by rw [ald_n (by omega) (by omega), q_up_1, if_neg (by omega), q_up_1, if_neg (by omega), hu1s]
      have y1 : ∀ (z : qS) x, q_ast z (k2 + 1) 5 (nI p) x = some (q_up z (k2 + 1) p x) := fun z x => ast_n (by omega) (by omega)
      have m1 : q_min (nI (s + 1)) (nI st) = nI (min (s + 1) st) := q_min_n (by omega) (by omega)
      have d1 : nI st - nI (min (s + 1) st) = nI (st - min (s + 1) st) := nI_sub (by omega)
      have d2 : nI (s + 1) - nI (min (s + 1) st) = nI (s + 1 - min (s + 1) st) := nI_sub (by omega)
      have c3 : ¬ (nI p).toInt = mI.toInt := by rw [nI_t (by omega), mI_t]; omega
      have hUs : q_up (q_up (q_up u1 (k2 + 2) p (nI (min 9999 (V + w * min (s + 1) st)))) (k + 1) p (u1.1 (k + 1) p + nI (min (w * min (s + 1) st) (9999 - V)))) (k2 + 1) p (nI (st - min (s + 1) st)) = US k k2 u1 p V w st (min (s + 1) st) (u1.1 (k + 1) p) := by
        unfold US
        rw [show min (w * min (s + 1) st) (9999 - V) = min 9999 (V + w * min (s + 1) st) - V by omega]
      have step : ∀ (self : Int32 → Int32 → qS → qR) (K31 K99 : Int32 → qS → qR), m_X7_spoon_L7 k k2 (nI e) K31 K99 self (nI (s + 1)) (nI i) u = self (nI (s + 1 - min (s + 1) st)) (nI (i + 1)) (US k k2 u1 p V w st (min (s + 1) st) (u1.1 (k + 1) p)) := fun self K31 K99 => by
        unfold m_X7_spoon_L7
        have e1' : m_X2_counts 12 k2 (nI e) (nI p) mI u = some (nI w, u1) := e1
        simp only [lit_n, mI_lit, nI_add, if_neg c1, if_neg c2, jc', q_bd_some, if_neg c3, e1', x1, Option.bind_some, q_let, m1, pk_mul, ce, x2, d1, y1, d2, hUs]
      have wU : WQ tr th tg k k2 u v SJ (US k k2 u1 p V w st (min (s + 1) st) (u1.1 (k + 1) p)) v2 := by
        refine ⟨?_, r4, r3, fun j hj' => r5 j (fun e => hj' (by unfold SJ; omega)) (fun e => hj' (by unfold SJ; omega))⟩
        have f1 : FX k k2 tr u (q_up u1 (k2 + 2) p (nI (min 9999 (V + w * min (s + 1) st)))) := wsc.1.upc hS.1 (by omega)
        have f2 : FX k k2 tr u (q_up (q_up u1 (k2 + 2) p (nI (min 9999 (V + w * min (s + 1) st)))) (k + 1) p (u1.1 (k + 1) p + nI (min 9999 (V + w * min (s + 1) st) - V))) := f1.st (by omega) (by omega)
        exact f2.upc hS.1 (by omega)
      have P2 : v2.1 163 6 = nI P := by rw [r4.2.1 6 (by omega) (by omega) (by omega)]; exact hP
      have E2 : v2.1 163 7 = nI E := by rw [r4.2.1 7 (by omega) (by omega) (by omega)]; exact hE
      rw [hb] at r2
      by_cases hz : s + 1 ≤ st
      · have hs0 : s + 1 - min (s + 1) st = 0 := by omega
        refine ⟨0, _, v2, by omega, ?_, ?_, wU⟩
        · show m_X7_spoon_L7 _ _ _ _ _ (q_it2 _ f1) _ _ _ = _
          rw [step, hs0]
          cases f1 with
          | zero => omega
          | succ f1 => exact spoon_z
        · have r2' := r2
          rw [hs0] at r2'
          refine r2'.trans ?_
          cases g2 with
          | zero => omega
          | succ g2 => exact hung_z
      · have hst' : min (s + 1) st = st := by omega
        have hz2 : v2.1 164 (15 + p) = nI 0 := by rw [r6, hst']; congr 1; omega
        have hct2 : ct (hj (v2.1 164)) P ≤ n := by
          have := ct_d (p := hj (v.1 164)) (q := hj (v2.1 164)) (t := p) (n := P) hp (by unfold hj; rw [decide_eq_true_iff]; exact hcd.1) (by unfold hj; rw [hz2, decide_eq_false_iff_not]; decide) (fun q hq h => by
            by_cases hqt : q = p
            · rw [hqt] at h; unfold hj at h; rw [hz2, decide_eq_true_iff] at h; exact absurd h (by decide)
            · unfold hj at h ⊢; rw [r5 (15 + q) (by omega) (by omega)] at h; exact h)
          omega
        obtain ⟨s3, u3, v3, q0, q1, q2, w2⟩ := spoon_out (K79 := K79) hP5 hE1 he n (i + 1) (s + 1 - min (s + 1) st) f1 g2 _ v2 (wU.st hS) wU.2.2.1 P2 E2 (by omega) (by omega) r1 (by omega) hct2
        refine ⟨s3, u3, v3, by omega, ?_, r2.trans q2, wU.trans w2 (fun j h => h.elim id id)⟩
        show m_X7_spoon_L7 _ _ _ _ _ (q_it2 _ f1) _ _ _ = _
        rw [step]
        exact q1
end
