/-! LAYER 2: THE CALLS, 26: a token read -/
def rv (u : qS) (p a t w : Int32) : qS := q_st u 163 (fun j => if j = 15 then p else if j = 16 then a else if j = 17 then t else if j = 18 then w else u.1 163 j)
theorem qS_ext {x y : qS} (h1 : ∀ c j, x.1 c j = y.1 c j) (h3 : x.2 = y.2) : x = y := Prod.ext (funext fun c => funext fun j => h1 c j) h3
section
variable {u : qS} {p a t w v : Int32}
theorem rv_1 {c : Nat} (h : c ≠ 163) : (rv u p a t w).1 c = u.1 c := by unfold rv; rw [q_st_g, if_neg h]
theorem rv_j {j : Nat} : (rv u p a t w).1 163 j = if j = 15 then p else if j = 16 then a else if j = 17 then t else if j = 18 then w else u.1 163 j := by unfold rv; rw [q_st_g, if_pos rfl]
theorem rv_15 : (rv u p a t w).1 163 15 = p := by rw [rv_j, if_pos rfl]
theorem rv_16 : (rv u p a t w).1 163 16 = a := by rw [rv_j, if_neg (by omega), if_pos rfl]
theorem rv_17 : (rv u p a t w).1 163 17 = t := by rw [rv_j, if_neg (by omega), if_neg (by omega), if_pos rfl]
theorem rv_18 : (rv u p a t w).1 163 18 = w := by rw [rv_j, if_neg (by omega), if_neg (by omega), if_neg (by omega), if_pos rfl]
theorem rv_o {j : Nat} (h : j < 15 ∨ 18 < j) : (rv u p a t w).1 163 j = u.1 163 j := by rw [rv_j, if_neg (by omega), if_neg (by omega), if_neg (by omega), if_neg (by omega)]
theorem rv_s : u = rv u (u.1 163 15) (u.1 163 16) (u.1 163 17) (u.1 163 18) := qS_ext (fun c j => by
  by_cases e : c = 163
  · subst e
    rw [rv_j]
    by_cases e1 : j = 15
    · rw [if_pos e1, e1]
    · by_cases e2 : j = 16
      · rw [if_neg e1, if_pos e2, e2]
      · by_cases e3 : j = 17
        · rw [if_neg e1, if_neg e2, if_pos e3, e3]
        · by_cases e4 : j = 18
          · rw [if_neg e1, if_neg e2, if_neg e3, if_pos e4, e4]
          · rw [if_neg e1, if_neg e2, if_neg e3, if_neg e4]
  · rw [rv_1 e]) rfl
theorem rv_u15 : q_up (rv u p a t w) 163 15 v = rv u v a t w := qS_ext (fun c j => by
  rw [q_up_1]
  by_cases e : c = 163
  · rw [if_pos e, e, upd_g, rv_j, rv_j]
    by_cases e1 : j = 15
    · rw [if_pos e1, if_pos e1]
    · rw [if_neg e1, if_neg e1, if_neg e1]
  · rw [if_neg e, rv_1 e, rv_1 e]) rfl
theorem rv_u16 : q_up (rv u p a t w) 163 16 v = rv u p v t w := qS_ext (fun c j => by
  rw [q_up_1]
  by_cases e : c = 163
  · rw [if_pos e, e, upd_g, rv_j, rv_j]
    by_cases e1 : j = 16
    · rw [if_pos e1, if_neg (by omega), if_pos e1]
    · rw [if_neg e1, if_neg e1, if_neg e1]
  · rw [if_neg e, rv_1 e, rv_1 e]) rfl
theorem rv_u17 : q_up (rv u p a t w) 163 17 v = rv u p a v w := qS_ext (fun c j => by
  rw [q_up_1]
  by_cases e : c = 163
  · rw [if_pos e, e, upd_g, rv_j, rv_j]
    by_cases e1 : j = 17
    · rw [if_pos e1, if_neg (by omega), if_neg (by omega), if_pos e1]
    · rw [if_neg e1, if_neg e1, if_neg e1]
  · rw [if_neg e, rv_1 e, rv_1 e]) rfl
theorem rv_u18 : q_up (rv u p a t w) 163 18 v = rv u p a t v := qS_ext (fun c j => by
  rw [q_up_1]
  by_cases e : c = 163
  · rw [if_pos e, e, upd_g, rv_j, rv_j]
    by_cases e1 : j = 18
    · rw [if_pos e1, if_neg (by omega), if_neg (by omega), if_neg (by omega), if_pos e1]
    · rw [if_neg e1, if_neg e1, if_neg e1]
  · rw [if_neg e, rv_1 e, rv_1 e]) rfl
end
section
variable {N : Nat} {z : Nat → Int} {u : qS} {a t w : Int32}
def zi (N : Nat) (z : Nat → Int) (p : Nat) : Int32 := if p < N then nI (z p).toNat else mI
theorem zi_t (hT : TP N z) {p : Nat} : (zi N z p).toInt = z p := by
  unfold zi
  by_cases e : p < N
  · have := hT.2.1 p e
    rw [if_pos e, nI_t (by omega)]; omega
  · rw [if_neg e, mI_t, hT.2.2 p (by omega)]
theorem raw_r (hT : TP N z) (h : TV N z u) {p : Nat} (hp : p ≤ N) : m_X11_raw (nI p) u = some (zi N z p, u) := by
  have hN := hT.1
  unfold m_X11_raw zi
  simp only [lit_n, mI_lit]
  rw [h.1]
  by_cases e : p < N
  · have hz := hT.2.1 p e
    rw [if_neg (by rw [nI_t (by omega), nI_t (by omega)]; omega), ald_n (by omega) (by omega), Option.bind_some, if_pos e]
    exact congrArg (fun x => some (x, u)) (i32_eq (by rw [h.2 p e, nI_t (by omega)]; omega))
  · rw [if_pos (by rw [nI_t (by omega), nI_t (by omega)]; omega), if_neg e]
theorem TV.rv (h : TV N z u) {p : Int32} : TV N z (rv u p a t w) := ⟨by rw [rv_o (by omega)]; exact h.1, fun q hq => by rw [rv_1 (by omega)]; exact h.2 q hq⟩
theorem blkR_it {K : qS → qR} (hT : TP N z) (h : TV N z u) : ∀ n p f, p + n = N → n < f → q_it0 (m_X11_reads_L0 K) f (rv u (nI p) a t w) = K (rv u (nI (rnF zB z n p)) a t w)
  | n, p, 0, hp, hf => by omega
  | 0, p, f + 1, hp, hf => by
    have e0 : p = N := by omega
    subst e0
    show m_X11_reads_L0 _ _ _ = _
    unfold m_X11_reads_L0
    simp only [lit_n]
    rw [rv_15, raw_r hT h.rv (Nat.le_refl _), q_bd_s', q_jn, zi_t hT, hT.e, if_neg (by decide), rv_15, raw_r hT h.rv (Nat.le_refl _), q_bd_s', zi_t hT, hT.e, if_neg (by decide)]
    rfl
  | n + 1, p, f + 1, hp, hf => by
    have ih := blkR_it (K := K) hT h n (p + 1) f (by omega) (by omega)
    show m_X11_reads_L0 _ (q_it0 (m_X11_reads_L0 K) f) _ = _
    generalize q_it0 (m_X11_reads_L0 K) f = self at ih ⊢
    have e : rnF zB z (n + 1) p = if zB (z p) = true then rnF zB z n (p + 1) else p := rfl
    rw [e]
    unfold m_X11_reads_L0
    simp only [lit_n]
    rw [rv_15, raw_r hT h.rv (by omega), q_bd_s', q_jn, zi_t hT, nI_t (show 32 < _ by omega)]
    have j : (q_let (q_up (rv u (nI p) a t w) 163 15 ((rv u (nI p) a t w).1 163 15 + nI 1)) fun u_3 => self u_3) = K (rv u (nI (rnF zB z n (p + 1))) a t w) := by
      rw [q_let_s, rv_15, rv_u15, nI_add]; exact ih
    by_cases e1 : z p = 32
    · rw [if_pos (by omega), if_pos (show zB (z p) = true by rw [e1]; rfl)]; exact j
    · rw [if_neg (by omega), rv_15, raw_r hT h.rv (by omega), q_bd_s', zi_t hT, nI_t (show 10 < _ by omega)]
      by_cases e2 : z p = 10
      · rw [if_pos (by omega), if_pos (show zB (z p) = true by rw [e2]; rfl)]; exact j
      · rw [if_neg (by omega), if_neg (show ¬ zB (z p) = true by unfold zB; rw [decide_eq_false e1, decide_eq_false e2]; decide)]
theorem letR_it {K : qS → qR} (hT : TP N z) (h : TV N z u) : ∀ n p f, p + n = N → n < f → q_it0 (m_X11_reads_L95 K) f (rv u (nI p) a t w) = K (rv u (nI (rnF zL z n p)) a t w)
  | n, p, 0, hp, hf => by omega
  | 0, p, f + 1, hp, hf => by
    have e0 : p = N := by omega
    subst e0
    show m_X11_reads_L95 _ _ _ = _
    unfold m_X11_reads_L95
    rw [rv_15, raw_r hT h.rv (Nat.le_refl _), q_bd_s', letter_r, q_bd_s', zi_t hT, hT.e, show zL (-1) = false from rfl, if_pos bI_0]
    rfl
  | n + 1, p, f + 1, hp, hf => by
    have ih := letR_it (K := K) hT h n (p + 1) f (by omega) (by omega)
    show m_X11_reads_L95 _ (q_it0 (m_X11_reads_L95 K) f) _ = _
    generalize q_it0 (m_X11_reads_L95 K) f = self at ih ⊢
    have e : rnF zL z (n + 1) p = if zL (z p) = true then rnF zL z n (p + 1) else p := rfl
    rw [e]
    unfold m_X11_reads_L95
    simp only [lit_n]
    rw [rv_15, raw_r hT h.rv (by omega), q_bd_s', letter_r, q_bd_s', zi_t hT]
    cases zL (z p) with
    | true => rw [if_neg bI_1, if_pos rfl, q_let_s, rv_15, rv_u15, nI_add]; exact ih
    | false => rw [if_pos bI_0, if_neg (by decide)]
def nR (N : Nat) (z : Nat → Int) : Nat → Nat → Int32 → Int32
  | 0, _, x => x
  | n + 1, p, x => if zD (z p) = true then nR N z n (p + 1) (if 10000 ≤ x.toInt then x else nI 10 * x + zi N z p - nI 48) else x
theorem digR_it {K : qS → qR} (hT : TP N z) (h : TV N z u) : ∀ n p f x, p + n = N → n < f → q_it0 (m_X11_reads_L171 K) f (rv u (nI p) a t x) = K (rv u (nI (rnF zD z n p)) a t (nR N z n p x))
  | n, p, 0, x, hp, hf => by omega
  | 0, p, f + 1, x, hp, hf => by
    have e0 : p = N := by omega
    subst e0
    show m_X11_reads_L171 _ _ _ = _
    unfold m_X11_reads_L171
    simp only [lit_n]
    rw [rv_15, raw_r hT h.rv (Nat.le_refl _), q_bd_s', digit_r, q_bd_s', zi_t hT, hT.e, show zD (-1) = false from rfl, if_pos bI_0]
    rfl
  | n + 1, p, f + 1, x, hp, hf => by
    have ih := fun x => digR_it (K := K) hT h n (p + 1) f x (by omega) (by omega)
    show m_X11_reads_L171 _ (q_it0 (m_X11_reads_L171 K) f) _ = _
    generalize q_it0 (m_X11_reads_L171 K) f = self at ih ⊢
    have e : rnF zD z (n + 1) p = if zD (z p) = true then rnF zD z n (p + 1) else p := rfl
    have e' : nR N z (n + 1) p x = if zD (z p) = true then nR N z n (p + 1) (if 10000 ≤ x.toInt then x else nI 10 * x + zi N z p - nI 48) else x := rfl
    rw [e, e']
    unfold m_X11_reads_L171
    simp only [lit_n]
    rw [rv_15, raw_r hT h.rv (by omega), q_bd_s', digit_r, q_bd_s', zi_t hT]
    cases zD (z p) with
    | true =>
      have ih' : ∀ x', (q_let (q_up (rv u (nI p) a t x) 163 18 x') fun u_24 => q_let (q_up u_24 163 15 (u_24.1 163 15 + nI 1)) fun u_25 => self u_25) = K (rv u (nI (rnF zD z n (p + 1))) a t (nR N z n (p + 1) x')) := fun x' => by
        rw [q_let_s, rv_u18, q_let_s, rv_15, rv_u15, nI_add]; exact ih x'
      rw [if_neg bI_1, if_pos rfl, if_pos rfl, q_jn, rv_18, nI_t (show 10000 < _ by omega)]
      by_cases e2 : 10000 ≤ x.toInt
      · rw [if_pos (by omega), if_pos e2]; exact ih' _
      · rw [if_neg (by omega), if_neg e2, rv_15, raw_r hT h.rv (by omega), q_bd_s']; exact ih' _
    | false => rw [if_pos bI_0, if_neg (by decide), if_neg (by decide)]
theorem nR_nv (hT : TP N z) : ∀ n p x k, p + n ≤ N → x < 10 ^ k → (rnF zD z n p - p) + k ≤ 4 → nR N z n p (nI x) = nI (nv z (rnF zD z n p - p) p x)
  | 0, p, x, k, hp, hx, hk => by
    show nI x = nI (nv z (p - p) p x)
    rw [Nat.sub_self]; rfl
  | n + 1, p, x, k, hp, hx, hk => by
    have g := rn_ge (P := zD) (z := z) n (p + 1)
    have e : rnF zD z (n + 1) p = if zD (z p) = true then rnF zD z n (p + 1) else p := rfl
    have e' : nR N z (n + 1) p (nI x) = if zD (z p) = true then nR N z n (p + 1) (if 10000 ≤ (nI x).toInt then nI x else nI 10 * nI x + zi N z p - nI 48) else nI x := rfl
    rw [e'] 
    rw [e] at hk ⊢
    cases hD : zD (z p) with
    | true =>
      rw [hD, if_pos rfl] at hk
      have h2 := hD
      unfold zD at h2
      have h3 := of_decide_eq_true h2
      have h4 : 10 ^ k ≤ 10 ^ 3 := Nat.pow_le_pow_right (by omega) (by omega)
      rw [if_pos rfl, if_pos rfl, if_neg (by rw [nI_t (by omega)]; omega), show rnF zD z n (p + 1) - p = (rnF zD z n (p + 1) - (p + 1)) + 1 by omega]
      show _ = nI (nv z (rnF zD z n (p + 1) - (p + 1)) (p + 1) (10 * x + (z p - 48).toNat))
      rw [← nR_nv hT n (p + 1) (10 * x + (z p - 48).toNat) (k + 1) (by omega) (by rw [Nat.pow_succ]; omega) (by omega)]
      unfold zi
      rw [if_pos (by omega), pk_mul, nI_add, nI_sub (by omega), show 10 * x + (z p).toNat - 48 = 10 * x + (z p - 48).toNat by omega]
    | false =>
      rw [if_neg (by decide), if_neg (by decide), Nat.sub_self]; rfl
theorem reads_s (hT : TP N z) (h : TV N z u) (hW : ∀ i, i < 129 → u.1 169 i = nI (wCh i)) {i : Nat} (h15 : u.1 163 15 = nI (tpo N z i)) : ∃ w' : Int32, m_X11_reads u = some (nI 0, rv u (nI (tpo N z (i + 1))) (nI (tq N z i)) (nI (tt N z (tq N z i)).1) w') ∧ (2 ≤ (tt N z (tq N z i)).1 → w' = nI (tt N z (tq N z i)).2) := by
  have hN := hT.1
  have hp := tpo_le hT i
  have hq : tq N z i ≤ N := tq_le hT i
  have hb := fun K => blkR_it (a := u.1 163 16) (t := u.1 163 17) (w := u.1 163 18) (K := K) hT h (N - tpo N z i) (tpo N z i) q_F (by omega) (by rw [q_F_eq]; omega)
  have hnx : tpo N z (i + 1) = te N z (tq N z i) := rfl
  rw [hnx]
  have hqd : rnF zB z (N - tpo N z i) (tpo N z i) = tq N z i := rfl
  rw [hqd, ← h15, ← rv_s] at hb
  generalize tq N z i = q at hb hq hqd
  have hWr : ∀ p a t w i, i < 129 → (rv u p a t w).1 169 i = nI (wCh i) := fun p a t w i hi => by rw [rv_1 (by omega)]; exact hW i hi
  unfold m_X11_reads
  simp only [lit_n, mI_lit]
  rw [hb]
  rw [q_let_s, rv_15, rv_u16, q_let_s, rv_u17, rv_15, raw_r hT h.rv hq, q_bd_s', zi_t hT, mI_t]
  by_cases e : q = N
  · subst e
    have htt : tt q z q = (0, 0) := by unfold tt; rw [if_pos (Nat.le_refl _)]
    rw [if_pos hT.e, q_let_s, rv_u17, htt, te_N hT]
    exact ⟨_, rfl, fun h2 => absurd h2 (by show ¬ 2 ≤ 0; omega)⟩
  · have hqN : q < N := by omega
    have hz := hT.2.1 q hqN
    have hzi : zi N z q = nI (z q).toNat := by unfold zi; rw [if_pos hqN]
    rw [if_neg (by omega), q_let_s, rv_15, rv_u15, nI_add, q_let_s, rv_u18, letter_r, q_bd_s', zi_t hT]
    cases hL : zL (z q) with
    | true =>
      have htt : tt N z q = oT (fI z q (te N z q) 25 0) := by unfold tt; rw [if_neg (show ¬ N ≤ q by omega), if_pos hL]
      have ht' : te N z q = rnF zL z (N - (q + 1)) (q + 1) := by unfold te; rw [if_pos hL]
      have hl := te_le hT hq
      have lr := fun K => letR_it (a := nI q) (t := nI 1) (w := zi N z q) (K := K) hT h (N - (q + 1)) (q + 1) q_F (by omega) (by rw [q_F_eq]; omega)
      rw [← ht'] at lr
      have wr := word_r (v := rv u (nI (te N z q)) (nI q) (nI 1) (zi N z q)) (q := q) (e := te N z q) hT h.rv (hWr _ _ _ _) (hl.2 hqN) hl.1 (fun p p1 p2 => by
        by_cases e2 : p = q
        · rw [e2]; exact hL
        · exact rn_in (N - (q + 1)) (q + 1) p (by omega) (by rw [← ht']; omega))
      rw [htt, if_neg bI_1, lr, rv_16, rv_15, wr, q_bd_s', q_let_s, rv_u18, rv_18]
      cases hf : fI z q (te N z q) 25 0 with
      | none =>
        refine ⟨enc none, ?_, fun h2 => ?_⟩
        · rw [show enc none = mI from rfl, if_pos mI_t]; rfl
        · exact absurd h2 (by show ¬ 2 ≤ 1; omega)
      | some w0 =>
        have := (fI_s _ _ _ hf).2.1
        refine ⟨nI w0, ?_, fun _ => rfl⟩
        rw [show enc (some w0) = nI w0 from rfl, if_neg (by rw [nI_t (by omega)]; omega), q_let_s, rv_u17]; rfl
    | false =>
      rw [if_pos bI_0, digit_r, q_bd_s', zi_t hT]
      cases hD : zD (z q) with
      | true =>
        have htt : tt N z q = if te N z q - q < 5 then (3, nv z (te N z q - q) q 0) else (1, 0) := by unfold tt; rw [if_neg (show ¬ N ≤ q by omega), if_neg (by rw [hL]; decide), if_pos hD]
        have ht' : te N z q = rnF zD z (N - (q + 1)) (q + 1) := by unfold te; rw [if_neg (by rw [hL]; decide), if_pos hD]
        have hl := te_le hT hq
        have h2 := hD
        unfold zD at h2
        have h3 := of_decide_eq_true h2
        have dr := fun K x => digR_it (a := nI q) (t := nI 1) (K := K) hT h (N - (q + 1)) (q + 1) q_F x (by omega) (by rw [q_F_eq]; omega)
        rw [← ht'] at dr
        have hlt := hl.2 hqN
        rw [htt, if_neg bI_1, q_let_s, rv_u18, dr, rv_15, rv_16, nI_sub (by omega), nI_t (show 5 < _ by omega), nI_t (by omega)]
        by_cases e5 : te N z q - q < 5
        · rw [if_neg (by omega), if_pos e5, q_let_s, rv_u17]
          refine ⟨_, rfl, fun _ => ?_⟩
          have := nR_nv hT (N - (q + 1)) (q + 1) ((z q - 48).toNat) 1 (by omega) (by omega) (by rw [← ht']; omega)
          rw [← ht'] at this
          show _ = nI (nv z (te N z q - q) q 0)
          rw [hzi, nI_sub (by omega), show (z q).toNat - 48 = (z q - 48).toNat by omega, this, show te N z q - q = (te N z q - (q + 1)) + 1 by omega]
          show _ = nI (nv z (te N z q - (q + 1)) (q + 1) (10 * 0 + (z q - 48).toNat))
          rw [Nat.mul_zero, Nat.zero_add]
        · rw [if_pos (by omega), if_neg e5]
          exact ⟨_, rfl, fun h2 => absurd h2 (by show ¬ 2 ≤ 1; omega)⟩
      | false =>
        have ht' : te N z q = q + 1 := by unfold te; rw [if_neg (by rw [hL]; decide), if_neg (by rw [hD]; decide), if_pos hqN]
        have htt : tt N z q = if zS (z q) = true then (4, (z q).toNat) else (1, 0) := by unfold tt; rw [if_neg (show ¬ N ≤ q by omega), if_neg (by rw [hL]; decide), if_neg (by rw [hD]; decide)]
        rw [htt, if_pos bI_0, mark_r, q_bd_s', zi_t hT, ht']
        cases hS : zS (z q) with
        | true =>
          rw [if_neg bI_1, if_pos rfl, q_let_s, rv_u17]
          exact ⟨_, rfl, fun _ => hzi⟩
        | false =>
          rw [if_pos bI_0, if_neg (show ¬ false = true by decide)]
          exact ⟨_, rfl, fun h2 => absurd h2 (by show ¬ 2 ≤ 1; omega)⟩
end
