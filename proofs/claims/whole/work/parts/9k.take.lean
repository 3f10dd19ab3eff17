/-! LAYER 2: THE CALLS, 37: a text begun, a law taken -/
theorem cut_s {N si : Nat} {z : Nat → Int} {u : qS} (hs : si < 3) (hT : TP N z) (h : TC N z u) : ∃ (T : Nat) (u2 : qS), m_X8_cut 67 si u = some (nI 0, u2) ∧ T ≤ N ∧ tq N z T = N ∧ LX N z si T u2 ∧ (∀ c, c ≠ 67 → c ≠ 69 → c ≠ 70 → c ≠ 71 → u2.1 c = u.1 c) ∧ (∀ j, j ≠ 5 → u2.1 67 j = u.1 67 j) ∧ u2.2 = u.2 := by
  have hN := hT.1
  have c0 : CI N z si (q_up u 67 5 (nI 0)) 0 (q_up u 67 5 (nI 0)) := ⟨rfl, fun i hi => by omega, fun _ _ _ _ _ => rfl, fun _ _ => rfl, rfl⟩
  have h0 : TC N z (q_up u 67 5 (nI 0)) := ⟨h.1, h.2⟩
  obtain ⟨T, u2, a1, a2, a3, a4⟩ := cut_it hs hT h0 N 0 0 q_F (q_up u 67 5 (nI 0)) (Nat.zero_le _) (by omega) (by rw [q_F_eq]; omega) rfl (Nat.le_refl _) c0
  have ht : tt N z (tq N z T) = (0, 0) := by
    rw [a2]; unfold tt; rw [if_pos (Nat.le_refl _)]
  have ca := a3.add (c := nI 0) (fun h3 => by rw [ht] at h3; cases h3)
  have hN2 : u2.1 67 1 = nI N := by rw [a3.2.2.2.1 1 (by omega)]; exact h.1
  rw [ht, show ck si (0, 0) = 0 from rfl, a2] at ca
  have ad := addTok (u := u2) (a := nI 0) (q := nI N) (c := nI 0) a3.1 (by omega)
  refine ⟨T, _, ?_, a1, a2, ⟨?_, ca.1, fun i hi => ca.2.1 i (by omega)⟩, fun c h1 h2 h3 h4 => ?_, fun j hj => ?_, ca.2.2.2.2⟩
  · unfold m_X8_cut
    simp only [lit_n]
    rw [q_let_s, a4, hN2, ad, q_bd_s']
  · rw [ca.2.2.2.1 1 (by omega)]; exact h.1
  · rw [ca.2.2.1 c h1 h2 h3 h4, q_up_1, if_neg h1]
  · rw [ca.2.2.2.1 j hj, q_up_1, if_pos rfl, upd_g, if_neg hj]
theorem lawcp {u : qS} (h6 : u.1 72 6 = nI 0 ∨ u.1 72 6 = nI 1) : ∃ u2, m_X2_copyFrom 12 72 u = some (nI 0, u2) ∧ u2.1 12 0 = u.1 72 0 ∧ u2.1 12 6 = u.1 72 6 ∧ (∀ j, j < 16 → u2.1 13 j = u.1 73 j) ∧ (∀ j, j < 17 → u2.1 14 j = u.1 74 j) ∧ (∀ j, j < 16 → u2.1 15 j = u.1 75 j) ∧ (∀ j, j < 400 → u2.1 16 j = u.1 76 j) ∧ (∀ c, (c < 12 ∨ 16 < c) → u2.1 c = u.1 c) ∧ u2.2 = u.2 := by
  have bz : ∀ M, q_bz (u.1 72 6) M = M := fun M => by
    rcases h6 with e | e
    · rw [e]; exact bz_0
    · rw [e]; exact bz_1
  refine ⟨q_st (q_st (q_st (q_st (q_up (q_up (q_up u 12 0 (u.1 72 0)) 12 5 (u.1 72 5)) 12 6 (u.1 72 6)) 13 (q_cp (u.1 73) (u.1 13) 16)) 14 (q_cp (u.1 74) (u.1 14) 17)) 15 (q_cp (u.1 75) (u.1 15) 16)) 16 (q_cp (u.1 76) (u.1 16) 400), ?_, rfl, rfl, fun j hj => ?_, fun j hj => ?_, fun j hj => ?_, fun j hj => ?_, fun c hc => ?_, rfl⟩
  · unfold m_X2_copyFrom
    simp only [lit_n]
    rw [q_let_s, q_let_s]
    have e : (q_up (q_up u 12 0 (u.1 72 0)) 12 5 ((q_up u 12 0 (u.1 72 0)).1 72 5)).1 72 6 = u.1 72 6 := rfl
    rw [e, bz, q_let_s, q_let_s, q_let_s, q_let_s, q_let_s]
    rfl
  · show q_cp (u.1 73) (u.1 13) 16 j = _
    rw [q_cp_g, if_pos hj]
  · show q_cp (u.1 74) (u.1 14) 17 j = _
    rw [q_cp_g, if_pos hj]
  · show q_cp (u.1 75) (u.1 15) 16 j = _
    rw [q_cp_g, if_pos hj]
  · show q_cp (u.1 76) (u.1 16) 400 j = _
    rw [q_cp_g, if_pos hj]
  · rw [q_st_g, if_neg (by omega), q_st_g, if_neg (by omega), q_st_g, if_neg (by omega), q_st_g, if_neg (by omega), q_up_1, if_neg (by omega), q_up_1, if_neg (by omega), q_up_1, if_neg (by omega)]
/-! the reference takes -/
theorem tkl_it {k : Nat} (hk : k ≤ 16) : ∀ (m l f : Nat) (v : qS), l + m = k → m < f → v.1 163 27 = nI 0 → ∃ v2, (∀ K, q_it1 (m_X11_takesLaw_L2 (nI k) K) f (nI l) v = K v2) ∧ (∀ c j, 171 ≤ c → c ≤ 174 → v2.1 c j = if l ≤ j ∧ j < k then v.1 c (32 + j) else v.1 c j) ∧ (∀ c, (c < 171 ∨ 174 < c) → v2.1 c = v.1 c) ∧ v2.2 = v.2
  | m, l, 0, v, hl, hf, h27 => by omega
  | 0, l, f + 1, v, hl, hf, h27 => by
    refine ⟨v, fun K => ?_, fun c j h1 h2 => by rw [if_neg (by omega)], fun c hc => rfl, rfl⟩
    show m_X11_takesLaw_L2 _ _ _ _ _ = _
    unfold m_X11_takesLaw_L2
    rw [if_pos (by rw [nI_t (by omega), nI_t (by omega)]; omega)]
  | m + 1, l, f + 1, v, hl, hf, h27 => by
    obtain ⟨v2, a1, a2, a3, a4⟩ := tkl_it hk m (l + 1) f (q_up (q_up (q_up (q_up v 171 l (v.1 171 (32 + l))) 172 l (v.1 172 (32 + l))) 173 l (v.1 173 (32 + l))) 174 l (v.1 174 (32 + l))) (by omega) (by omega) h27
    have e0 : ∀ c j, 171 ≤ c → c ≤ 174 → (q_up (q_up (q_up (q_up v 171 l (v.1 171 (32 + l))) 172 l (v.1 172 (32 + l))) 173 l (v.1 173 (32 + l))) 174 l (v.1 174 (32 + l))).1 c j = if j = l then v.1 c (32 + l) else v.1 c j := fun c j h1 h2 => by
      have : c = 171 ∨ c = 172 ∨ c = 173 ∨ c = 174 := by omega
      rcases this with rfl | rfl | rfl | rfl <;> rfl
    refine ⟨v2, fun K => ?_, fun c j h1 h2 => ?_, fun c hc => ?_, a4⟩
    · rw [← a1 K]
      show m_X11_takesLaw_L2 _ _ (q_it1 (m_X11_takesLaw_L2 (nI k) K) f) _ _ = _
      generalize q_it1 (m_X11_takesLaw_L2 (nI k) K) f = self
      unfold m_X11_takesLaw_L2
      simp only [lit_n]
      have s1 : (q_up v 171 l (v.1 171 (32 + l))).1 163 27 = nI 0 := h27
      have s2 : (q_up (q_up v 171 l (v.1 171 (32 + l))) 172 l (v.1 172 (32 + l))).1 163 27 = nI 0 := h27
      have s3 : (q_up (q_up (q_up v 171 l (v.1 171 (32 + l))) 172 l (v.1 172 (32 + l))) 173 l (v.1 173 (32 + l))).1 163 27 = nI 0 := h27
      rw [if_neg (by rw [nI_t (by omega), nI_t (by omega)]; omega), nI_add, ald_n (by omega) (by omega), Option.bind_some, h27, pk_mul, nI_add, Nat.mul_zero, Nat.zero_add, ast_n (by omega) (by omega), Option.bind_some, ald_n (by omega) (by omega), Option.bind_some, s1, pk_mul, nI_add, Nat.mul_zero, Nat.zero_add, ast_n (by omega) (by omega), Option.bind_some, ald_n (by omega) (by omega), Option.bind_some, show (q_up v 171 l (v.1 171 (32 + l))).1 172 (32 + l) = v.1 172 (32 + l) from rfl, s2, pk_mul, nI_add, Nat.mul_zero, Nat.zero_add, ast_n (by omega) (by omega), Option.bind_some, ald_n (by omega) (by omega), Option.bind_some, show (q_up (q_up v 171 l (v.1 171 (32 + l))) 172 l (v.1 172 (32 + l))).1 173 (32 + l) = v.1 173 (32 + l) from rfl, s3, pk_mul, nI_add, Nat.mul_zero, Nat.zero_add, ast_n (by omega) (by omega), Option.bind_some, nI_add]
      rfl
    · rw [a2 c j h1 h2, e0 c (32 + j) h1 h2, if_neg (show ¬ 32 + j = l by omega), e0 c j h1 h2]
      by_cases e : j = l
      · rw [if_neg (show ¬ (l + 1 ≤ j ∧ _) by omega), if_pos e, if_pos (by omega), e]
      · rw [if_neg e]
        by_cases e2 : l + 1 ≤ j ∧ j < k
        · rw [if_pos e2, if_pos (by omega)]
        · rw [if_neg e2, if_neg (by omega)]
    · rw [a3 c hc, q_up_1, if_neg (by omega), q_up_1, if_neg (by omega), q_up_1, if_neg (by omega), q_up_1, if_neg (by omega)]
theorem tkc_it {n : Nat} {x1 : Int32} (hn : n ≤ 400) : ∀ (m l f : Nat) (v : qS), l + m = n → m < f → v.1 163 27 = nI 0 → v.1 163 28 = nI n → ∃ v2, (∀ K, q_it1 (m_X11_takesLaw_L107 x1 K) f (nI l) v = K v2) ∧ (∀ c j, 175 ≤ c → c ≤ 176 → v2.1 c j = if l ≤ j ∧ j < n then v.1 c (800 + j) else v.1 c j) ∧ (∀ c, (c < 175 ∨ 176 < c) → v2.1 c = v.1 c) ∧ v2.2 = v.2
  | m, l, 0, v, hl, hf, h27, h28 => by omega
  | 0, l, f + 1, v, hl, hf, h27, h28 => by
    refine ⟨v, fun K => ?_, fun c j h1 h2 => by rw [if_neg (by omega)], fun c hc => rfl, rfl⟩
    show m_X11_takesLaw_L107 _ _ _ _ _ = _
    unfold m_X11_takesLaw_L107
    rw [h28, if_pos (by rw [nI_t (by omega), nI_t (by omega)]; omega)]
  | m + 1, l, f + 1, v, hl, hf, h27, h28 => by
    obtain ⟨v2, a1, a2, a3, a4⟩ := tkc_it (x1 := x1) hn m (l + 1) f (q_up (q_up v 175 l (v.1 175 (800 + l))) 176 l (v.1 176 (800 + l))) (by omega) (by omega) h27 h28
    have e0 : ∀ c j, 175 ≤ c → c ≤ 176 → (q_up (q_up v 175 l (v.1 175 (800 + l))) 176 l (v.1 176 (800 + l))).1 c j = if j = l then v.1 c (800 + l) else v.1 c j := fun c j h1 h2 => by
      have : c = 175 ∨ c = 176 := by omega
      rcases this with rfl | rfl <;> rfl
    refine ⟨v2, fun K => ?_, fun c j h1 h2 => ?_, fun c hc => ?_, a4⟩
    · rw [← a1 K]
      show m_X11_takesLaw_L107 _ _ (q_it1 (m_X11_takesLaw_L107 x1 K) f) _ _ = _
      generalize q_it1 (m_X11_takesLaw_L107 x1 K) f = self
      unfold m_X11_takesLaw_L107
      simp only [lit_n]
      have s1 : (q_up v 175 l (v.1 175 (800 + l))).1 163 27 = nI 0 := h27
      rw [h28, if_neg (by rw [nI_t (by omega), nI_t (by omega)]; omega), nI_add, ald_n (by omega) (by omega), Option.bind_some, h27, pk_mul, nI_add, Nat.mul_zero, Nat.zero_add, ast_n (by omega) (by omega), Option.bind_some, ald_n (by omega) (by omega), Option.bind_some, s1, pk_mul, nI_add, Nat.mul_zero, Nat.zero_add, ast_n (by omega) (by omega), Option.bind_some, nI_add]
      rfl
    · rw [a2 c j h1 h2, e0 c (800 + j) h1 h2, if_neg (show ¬ 800 + j = l by omega), e0 c j h1 h2]
      by_cases e : j = l
      · rw [if_neg (show ¬ (l + 1 ≤ j ∧ _) by omega), if_pos e, if_pos (by omega), e]
      · rw [if_neg e]
        by_cases e2 : l + 1 ≤ j ∧ j < n
        · rw [if_pos e2, if_pos (by omega)]
        · rw [if_neg e2, if_neg (by omega)]
    · rw [a3 c hc, q_up_1, if_neg (by omega), q_up_1, if_neg (by omega)]
theorem takes_law {k n : Nat} {v : qS} (hk : k ≤ 16) (hn : n ≤ 400) (h27 : v.1 163 27 = nI 0) (h28 : v.1 163 28 = nI n) : ∃ v2, m_X11_takesLaw (nI k) v = some (nI 0, v2) ∧ (∀ c j, 171 ≤ c → c ≤ 174 → j < k → v2.1 c j = v.1 c (32 + j)) ∧ (∀ c j, 175 ≤ c → c ≤ 176 → j < n → v2.1 c j = v.1 c (800 + j)) ∧ v2.1 170 0 = nI k ∧ (∀ c, (c < 170 ∨ 176 < c) → v2.1 c = v.1 c) ∧ v2.2 = v.2 := by
  obtain ⟨va, a1, a2, a3, a4⟩ := tkl_it hk k 0 q_F v (by omega) (by rw [q_F_eq]; omega) h27
  obtain ⟨vb, b1, b2, b3, b4⟩ := tkc_it (x1 := nI k) hn n 0 q_F va (by omega) (by rw [q_F_eq]; omega) (by rw [a3 163 (by omega)]; exact h27) (by rw [a3 163 (by omega)]; exact h28)
  have v27 : vb.1 163 27 = nI 0 := by rw [b3 163 (by omega), a3 163 (by omega)]; exact h27
  refine ⟨q_up vb 170 0 (nI k), ?_, fun c j h1 h2 h3 => ?_, fun c j h1 h2 h3 => ?_, rfl, fun c hc => ?_, b4.trans a4⟩
  · unfold m_X11_takesLaw
    simp only [lit_n]
    rw [a1, b1, v27, ast_n (by omega) (by omega), Option.bind_some]
  · rw [q_up_1, if_neg (by omega), b3 c (by omega), a2 c j h1 h2, if_pos (by omega)]
  · rw [q_up_1, if_neg (by omega), b2 c j h1 h2, if_pos (by omega), a3 c (by omega)]
  · rw [q_up_1, if_neg (by omega), b3 c (by omega), a3 c (by omega)]
theorem gd_mid {d : Nat × Nat} : ∀ (C A R : List (Nat × Nat)) (j : Nat), j < A.length → (C ++ A ++ R).getD (C.length + j) d = A.getD j d
  | [], [], R, j, h => by have : j < 0 := h; omega
  | [], a :: A, R, 0, h => rfl
  | [], a :: A, R, j + 1, h => by
    have ih := gd_mid (d := d) [] A R j (by have : j + 1 < A.length + 1 := h; omega)
    rw [show ([] : List (Nat × Nat)).length + (j + 1) = j + 1 by show 0 + (j + 1) = _; omega]
    rw [show ([] : List (Nat × Nat)).length + j = j by show 0 + j = _; omega] at ih
    exact ih
  | c :: C, A, R, j, h => by
    have ih := gd_mid (d := d) C A R j h
    rw [show (c :: C).length + j = (C.length + j) + 1 by show C.length + 1 + j = _; omega]
    exact ih
theorem gd_mem {d : Nat × Nat} : ∀ (A : List (Nat × Nat)) (j : Nat), j < A.length → A.getD j d ∈ A
  | [], j, h => by have : j < 0 := h; omega
  | a :: A, 0, h => List.mem_cons_self
  | a :: A, j + 1, h => List.mem_cons_of_mem _ (gd_mem A j (by have : j + 1 < A.length + 1 := h; omega))
/-- a line that was read, as it lies -/
theorem LJ.ln {u v X Z : qS} {k : Nat} {cs : List (Nat × Nat)} {h : Bool} {j : Nat} (hJ : LJ u v k cs h j) (hj : j < k) (hk : k ≤ 16) (hl : cs.length ≤ 400) (hl2 : (xp cs).length ≤ 400) (x6 : X.1 12 6 = bI h) (x13 : X.1 13 j = u.1 73 j) (x14 : X.1 14 j = u.1 74 j) (x14' : j + 1 < k → X.1 14 (j + 1) = u.1 74 (j + 1)) (x14e : j + 1 = k → X.1 14 k = nI cs.length) (x15 : X.1 15 j = u.1 75 j) (x16 : ∀ i, i < cs.length → X.1 16 i = eI (cs.getD i (0, 0))) (z1 : ∀ c, 171 ≤ c → c ≤ 174 → Z.1 c j = v.1 c (32 + j)) (z2 : ∀ i, i < (xp cs).length → Z.1 175 i = nI ((xp cs).getD i (0, 0)).1 ∧ Z.1 176 i = nI ((xp cs).getD i (0, 0)).2) : LN 12 X.1 Z.1 j := by
  obtain ⟨wd, C1, A, B, C2, b1, b2, b3, b4, b5, b6, b7, b8, b9, b10, b11, b12, b13, b14, b15⟩ := hJ
  have lA : (C1 ++ A).length = C1.length + A.length := List.length_append
  have lB : (C1 ++ A ++ B).length = C1.length + A.length + B.length := by rw [List.length_append, lA]
  have lC : cs.length = C1.length + A.length + B.length + C2.length := by rw [b2, List.length_append, lB]
  have xA : (xp (C1 ++ A)).length = (xp C1).length + (xp A).length := by rw [xp_app, List.length_append]
  have xB : (xp (C1 ++ A ++ B)).length = (xp C1).length + (xp A).length + (xp B).length := by rw [xp_app, List.length_append, xA]
  have xC : (xp cs).length = (xp C1).length + (xp A).length + (xp B).length + (xp C2).length := by rw [b2, xp_app, List.length_append, xB]
  have eA : ∀ i, i < A.length → cs.getD (C1.length + i) (0, 0) = A.getD i (0, 0) := fun i hi => by
    rw [b2, List.append_assoc (C1 ++ A)]
    exact gd_mid C1 A (B ++ C2) i hi
  have eB : ∀ i, i < B.length → cs.getD ((C1 ++ A).length + i) (0, 0) = B.getD i (0, 0) := fun i hi => by
    rw [b2]
    exact gd_mid (C1 ++ A) B C2 i hi
  have fA : ∀ i, i < (xp A).length → (xp cs).getD ((xp C1).length + i) (0, 0) = (xp A).getD i (0, 0) := fun i hi => by
    rw [b2, xp_app, xp_app, xp_app, List.append_assoc (xp C1 ++ xp A)]
    exact gd_mid (xp C1) (xp A) (xp B ++ xp C2) i hi
  have fB : ∀ i, i < (xp B).length → (xp cs).getD ((xp (C1 ++ A)).length + i) (0, 0) = (xp B).getD i (0, 0) := fun i hi => by
    rw [b2, xp_app, xp_app (C1 ++ A) B]
    exact gd_mid (xp (C1 ++ A)) (xp B) (xp C2) i hi
  have e14 : X.1 14 (j + 1) = nI (C1 ++ A ++ B).length := by
    by_cases e : j + 1 < k
    · rw [x14' e]; exact b10 e
    · have e2 : j + 1 = k := by omega
      rw [e2, x14e e2, lC, b11 e2, lB]; rfl
  refine ⟨C1.length, (C1 ++ A).length, (C1 ++ A ++ B).length, (xp C1).length, (xp (C1 ++ A)).length, (xp (C1 ++ A ++ B)).length, ?_, by rw [show 12 + 2 = 14 from rfl, x14]; exact b5, by rw [show 12 + 3 = 15 from rfl, x15]; exact b6, e14, by rw [z1 172 (by omega) (by omega)]; exact b7, by rw [z1 173 (by omega) (by omega)]; exact b8, by rw [z1 174 (by omega) (by omega)]; exact b9, by omega, by omega, by omega, by omega, by omega, by omega, ?_, ?_, fun hlt => ?_, fun h6 h2 => ?_⟩
  · rw [show 12 + 1 = 13 from rfl, x13, b3, z1 171 (by omega) (by omega), b4]
  · have := xp_len B
    rcases b13 with e | e
    · subst e
      have : (xp ([] : List (Nat × Nat))).length = 0 := rfl
      have : ([] : List (Nat × Nat)).length = 0 := rfl
      omega
    · have hB : B.length ≠ 0 := fun e0 => by
        have e1 : B = [] := by
          cases B with
          | nil => rfl
          | cons b r => have : r.length + 1 = 0 := e0; omega
        obtain ⟨v', p1, -, -⟩ := e (fun _ => nI 0) [] (by show 0 + 32 ≤ 32; omega)
        rw [e1] at p1
        cases p1
      omega
  · rw [show (C1 ++ A).length - C1.length = A.length by omega, show (xp (C1 ++ A)).length - (xp C1).length = (xp A).length by omega]
    exact b12.sg (fun t ht => b14 t (List.mem_append_left _ ht)) (fun i hi => by rw [show 12 + 4 = 16 from rfl, x16 _ (by omega), eA i hi]) (fun i hi => by have := z2 ((xp C1).length + i) (by omega); rw [fA i hi] at this; exact this)
  · rcases b13 with e | e
    · subst e
      have : ([] : List (Nat × Nat)).length = 0 := rfl
      omega
    · rw [show (C1 ++ A ++ B).length - (C1 ++ A).length = B.length by omega, show (xp (C1 ++ A ++ B)).length - (xp (C1 ++ A)).length = (xp B).length by omega]
      exact e.sg (fun t ht => b14 t (List.mem_append_right _ ht)) (fun i hi => by rw [show 12 + 4 = 16 from rfl, x16 _ (by omega), eB i hi]) (fun i hi => by have := z2 ((xp (C1 ++ A)).length + i) (by omega); rw [fB i hi] at this; exact this)
  · have hf : h = false := by
      rw [x6] at h6
      cases h with
      | false => rfl
      | true => exact absurd h6 (by decide)
    have hw2 : wd = 2 := by
      rw [show 12 + 1 = 13 from rfl, x13, b3, nI_t (by omega)] at h2
      omega
    intro i i1 i2 hc
    have hi : i < cs.length := by omega
    rw [show 12 + 4 = 16 from rfl, x16 i hi] at hc
    by_cases e : i < (C1 ++ A).length
    · have e2 := eA (i - C1.length) (by omega)
      rw [show C1.length + (i - C1.length) = i by omega] at e2
      rw [e2] at hc
      have hm : A.getD (i - C1.length) (0, 0) ∈ A := gd_mem A _ (by omega)
      generalize A.getD (i - C1.length) (0, 0) = t at hc hm
      have ok := b14 t (List.mem_append_left _ hm)
      have f := eI_f (o := t.1) (x := t.2) ok.2 (by have := ok.1; omega)
      have h1 := hc.1
      have h3 := hc.2
      have ok1 := ok.1
      have ok2 := ok.2
      rw [show eI t = eI (t.1, t.2) from rfl, f.1, nI_t (by omega)] at h1
      rw [show eI t = eI (t.1, t.2) from rfl, f.2, nI_t (by omega)] at h3
      exact b15 hf hw2 t (List.mem_append_left _ hm) (Prod.ext (by show t.1 = 1; omega) (by show t.2 = 4; omega))
    · have e2 := eB (i - (C1 ++ A).length) (by omega)
      rw [show (C1 ++ A).length + (i - (C1 ++ A).length) = i by omega] at e2
      rw [e2] at hc
      have hm : B.getD (i - (C1 ++ A).length) (0, 0) ∈ B := gd_mem B _ (by omega)
      generalize B.getD (i - (C1 ++ A).length) (0, 0) = t at hc hm
      have ok := b14 t (List.mem_append_right _ hm)
      have f := eI_f (o := t.1) (x := t.2) ok.2 (by have := ok.1; omega)
      have h1 := hc.1
      have h3 := hc.2
      have ok1 := ok.1
      have ok2 := ok.2
      rw [show eI t = eI (t.1, t.2) from rfl, f.1, nI_t (by omega)] at h1
      rw [show eI t = eI (t.1, t.2) from rfl, f.2, nI_t (by omega)] at h3
      exact b15 hf hw2 t (List.mem_append_right _ hm) (Prod.ext (by show t.1 = 1; omega) (by show t.2 = 4; omega))
/-- what a text leaves of the relation -/
theorem Rel.txt {x y x2 y2 : qS} (h : Rel x y) (hx : ∀ c, ((2 ≤ c ∧ c ≤ 11) ∨ (28 ≤ c ∧ c < 66) ∨ 88 ≤ c) → x2.1 c = x.1 c) (h03 : x2.1 0 3 = x.1 0 3) (h06 : x2.1 0 6 = x.1 0 6) (hL : RLw 12 x2.1 y2.1) (hP : RPa 19 x2.1 y2.1) (hN : RPn 23 x2.1 y2.1 (y2.1 163)) (hU : (x2.1 0 5 = x.1 0 5 ∧ y2.1 163 3 = y.1 163 3) ∨ (x2.1 0 5 = nI 0 ∧ y2.1 163 3 = nI 0)) (hy : ∀ c, c ≠ 163 → (c < 170 ∨ 179 < c) → y2.1 c = y.1 c) (hj : ∀ j, j = 5 ∨ j = 6 ∨ j = 7 ∨ j = 8 ∨ j = 9 ∨ j = 10 ∨ j = 11 ∨ j = 48 ∨ j = 53 → y2.1 163 j = y.1 163 j) (t1 : x2.1 67 1 = nI 0) (t2 : y2.1 163 14 = nI 0) (f1 : x2.1 66 0 = y2.1 163 34) (f2 : x2.1 66 1 = y2.1 163 35) : Rel x2 y2 := by
  obtain ⟨⟨r1, r2, r3, r4, r5, r6, r7, r8, r9⟩, k1, k2, k3, k4⟩ := h
  have hg : ∀ j, j = 6 ∨ j = 7 ∨ j = 8 ∨ j = 9 ∨ j = 10 ∨ j = 11 → y2.1 163 j = y.1 163 j := fun j hj' => hj j (by omega)
  refine ⟨⟨?_, ?_, ?_, r4.mv hg, hL, hP, hN, ?_, fun i hi => ?_⟩, ?_, ⟨⟨0, by omega, t1, t2, fun i hi => by omega⟩, f1, f2⟩, ?_, ?_⟩
  · rw [hy 164 (by omega) (by omega)]
    exact (r1.fr (fun c a b => hx c (by omega))).gr (hg 6 (by omega)) (hg 7 (by omega)) (hg 8 (by omega)) (hg 9 (by omega)) (hg 10 (by omega)) (hg 11 (by omega))
  · rw [hy 164 (by omega) (by omega)]; exact r2.gr (hg 6 (by omega)) (hg 7 (by omega))
  · rw [hy 164 (by omega) (by omega)]; exact r3
  · exact r8.fr (fun a h1 h2 => hx a (by omega)) (hy 184 (by omega) (by omega)) (hj 48 (by omega)) (hg 6 (by omega))
  · rw [hx (1 + 31) (by omega), hy 167 (by omega) (by omega)]; exact r9 i hi
  · rcases hU with ⟨e1, e2⟩ | ⟨e1, e2⟩
    · exact k1.fr e1 h06 (fun c a b => hx c (by omega)) e2 hg (hy 165 (by omega) (by omega))
    · obtain ⟨m, q, a1, a2, a3, a4, a5, a6⟩ := k1
      exact KR.no a2 e1 (by rw [h06]; exact a5) e2
  · exact k3.fr (by rw [hx 88 (by omega)]) (by rw [hx 90 (by omega)]) (hj 5 (by omega)) (hy 169 (by omega) (by omega))
  · exact k4.fr h03 (fun c a b _ _ => hx c (by omega)) (hj 53 (by omega)) (hy 187 (by omega) (by omega))
