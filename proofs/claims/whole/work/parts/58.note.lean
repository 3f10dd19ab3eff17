/-! LAYER 2: the book; trees planted, fences, boiling: alike on both sides -/
section
variable {tr th tg : Bool} {k k2 : Nat} {u v u0 v0 : qS}
theorem st_c (n : Nat) (h : n < 2147483648) : (nI n).toInt = (n : Int) := nI_t h
/-- what a week's step says of both: it stays within the frame, keeps the relation, and of the row only these slots are changed -/
def WQ (tr th tg : Bool) (k k2 : Nat) (u v : qS) (S : Nat → Prop) (u2 v2 : qS) : Prop := FX k k2 tr u u2 ∧ FY tr v v2 ∧ WK tr th tg k k2 u2 v2 ∧ ∀ j, ¬ S j → v2.1 164 j = v.1 164 j
theorem write_c {w x y : Int32} {L : Nat} (hm : k2 = 2 ∨ k2 = 92) (hL : u.1 k2 10 = nI L) (h : L < 150) :
    m_X3_write 31 k2 w x y u = some (nI 0, q_up (q_st u 32 (upd (upd (upd (upd (u.1 32) (L * 4) (u.1 k2 0)) (L * 4 + 1) w) (L * 4 + 2) x) (L * 4 + 3) y)) k2 10 (nI (L + 1))) := by
  unfold m_X3_write
  have h10 : ∀ s, (q_st u 32 s).1 k2 = u.1 k2 := fun s => by rw [q_st_g, if_neg (by omega)]
  rw [hL]
  simp only [lit_n, pk_mul, nI_add, q_let]
  rw [if_pos (by rw [nI_t (by omega), nI_t (by omega)]; omega), q_ast_ok (by omega) (by omega), Option.bind_some, q_ast_ok (by omega) (by omega), Option.bind_some, q_st_st, q_st_g, if_pos rfl, q_ast_ok (by omega) (by omega), Option.bind_some, q_st_st, q_st_g, if_pos rfl, q_ast_ok (by omega) (by omega), Option.bind_some, q_st_st, q_st_g, if_pos rfl, h10, hL, nI_add]
theorem notes_r {w x y : Int32} {L : Nat} (hL : v.1 164 2 = nI L) (h : L < 150) (h5 : v.1 163 5 = nI 0) :
    m_X11_notes w x y v = some (nI 0, q_up (q_st v 167 (upd (upd (upd (upd (v.1 167) (4 * L) (v.1 164 0)) (4 * L + 1) w) (4 * L + 2) x) (4 * L + 3) y)) 164 2 (nI (L + 1))) := by
  unfold m_X11_notes
  have h64 : ∀ s, (q_st v 167 s).1 164 2 = nI L := fun s => by rw [q_st_g, if_neg (by omega)]; exact hL
  have h67 : ∀ s, (q_st v 167 s).1 167 = s := fun s => by rw [q_st_g, if_pos rfl]
  have t0 : (nI 0).toInt = 0 := rfl
  have a2 : q_ald v 164 136 (nI 2) = some (nI L) := by rw [ald_n (by omega) (by omega), hL]
  have a0 : q_ald v 164 136 (nI 0) = some (v.1 164 0) := ald_n (by omega) (by omega)
  have b0 : ∀ z, q_ast v 167 600 (nI (4 * L)) z = some (q_st v 167 (upd (v.1 167) (4 * L) z)) := fun z => q_ast_ok (by omega) (by omega)
  have b1 : ∀ s z, q_ast (q_st v 167 s) 167 600 (nI (4 * L + 1)) z = some (q_st v 167 (upd s (4 * L + 1) z)) := fun s z => by rw [q_ast_ok (by omega) (by omega), q_st_st, h67]
  have b2 : ∀ s z, q_ast (q_st v 167 s) 167 600 (nI (4 * L + 2)) z = some (q_st v 167 (upd s (4 * L + 2) z)) := fun s z => by rw [q_ast_ok (by omega) (by omega), q_st_st, h67]
  have b3 : ∀ s z, q_ast (q_st v 167 s) 167 600 (nI (4 * L + 3)) z = some (q_st v 167 (upd s (4 * L + 3) z)) := fun s z => by rw [q_ast_ok (by omega) (by omega), q_st_st, h67]
  have a3 : ∀ s, q_ald (q_st v 167 s) 164 136 (nI 2) = some (nI L) := fun s => by rw [ald_n (by omega) (by omega), h64]
  have b4 : ∀ s z, q_ast (q_st v 167 s) 164 136 (nI 2) z = some (q_up (q_st v 167 s) 164 2 z) := fun s z => ast_n (by omega) (by omega)
  have hne : ¬ (nI L).toInt = (nI 150).toInt := by rw [nI_t (by omega), nI_t (by omega)]; omega
  simp only [h5, t0, if_true, lit_n, a2, Option.bind_some, if_neg hne, a0, q_let, pk_mul, nI_add, b0, b1, b2, b3, a3, b4]
theorem notes_f {w x y : Int32} (hL : v.1 164 2 = nI 150) (h5 : v.1 163 5 = nI 0) : m_X11_notes w x y v = some (nI 0, v) := by
  unfold m_X11_notes
  have t0 : (nI 0).toInt = 0 := rfl
  rw [h5, t0, if_pos rfl]
  simp only [lit_n]
  rw [ald_n (by omega) (by omega), Option.bind_some, hL, if_pos rfl]
theorem write_f {w x y : Int32} (hL : u.1 k2 10 = nI 150) : m_X3_write 31 k2 w x y u = some (nI 0, u) := by
  unfold m_X3_write
  simp only [lit_n]
  rw [hL, if_neg (by omega)]
theorem book_w {w x y : Int32} {L : Nat} (hG : BG (v.1 163)) (hW : WK true th tg 88 2 u v) (hL : L < 150) :
    WQ true th tg 88 2 u v (fun j => j = 2) (q_up (q_st u 32 (upd (upd (upd (upd (u.1 32) (L * 4) (u.1 2 0)) (L * 4 + 1) w) (L * 4 + 2) x) (L * 4 + 3) y)) 2 10 (nI (L + 1))) (q_up (q_st v 167 (upd (upd (upd (upd (v.1 167) (4 * L) (v.1 164 0)) (4 * L + 1) w) (4 * L + 2) x) (4 * L + 3) y)) 164 2 (nI (L + 1))) := by
  have hm : MD true 88 2 := Or.inl ⟨rfl, rfl, rfl⟩
  obtain ⟨h1, h2, h3, h4, h5⟩ := hW
  have e64 : ∀ s, (q_st v 167 s).1 164 = v.1 164 := fun s => by rw [q_st_g, if_neg (by omega)]
  have e63 : ∀ s, (q_st v 167 s).1 163 = v.1 163 := fun s => by rw [q_st_g, if_neg (by omega)]
  have hW2 : WK true th tg 88 2 (q_st u 32 (upd (upd (upd (upd (u.1 32) (L * 4) (u.1 2 0)) (L * 4 + 1) w) (L * 4 + 2) x) (L * 4 + 3) y)) (q_st v 167 (upd (upd (upd (upd (v.1 167) (4 * L) (v.1 164 0)) (4 * L + 1) w) (4 * L + 2) x) (4 * L + 3) y)) := by
    unfold WK
    rw [e64, e63]
    refine ⟨h1.fr (fun c a b => by rw [q_st_g, if_neg (by omega)]), h2, fun _ i hi => ?_, ?_, ?_⟩
    · rw [q_st_g, if_pos rfl, q_st_g, if_pos rfl, h1.week, show L * 4 = 4 * L by omega]
      simp only [upd_g, h3 rfl i hi]
    · rw [q_st_g, if_neg (by omega)]; exact h4
    · rw [q_st_g, if_neg (by omega)]; exact h5
  refine ⟨?_, ?_, ?_, ?_⟩
  · exact FX.upc (c := 0) (FX.st FX.rfl' (Or.inr (Or.inr (Or.inr (Or.inr ⟨rfl, rfl⟩)))) (by omega)) hm (by omega)
  · exact FY.up (FY.st FY.rfl' (Or.inr (Or.inr ⟨rfl, rfl⟩)))
  · exact hW2.up hm (by rw [e63]; exact hG) 2 (c := 0) (s := 10) (x := nI (L + 1)) (by omega) rfl rfl (by rw [nI_t (by omega), bLo_0 (by omega) (by omega)]; have : bHi 2 = 150 := rfl; omega) (by omega) (by omega) (by omega) (by omega)
  · intro j hj
    rw [q_up_1, if_pos rfl, upd_g, if_neg hj, e64]
theorem note_s {w x y : Int32} (hS : ST tr k k2 u v) (hW : WK tr th tg k k2 u v) :
    ∃ u2 v2, m_X7_note k k2 w x y u = some (nI 0, u2) ∧ m_X11_notes w x y v = some (nI 0, v2) ∧ WQ tr th tg k k2 u v (fun j => j = 2) u2 v2 := by
  obtain ⟨hm, hG, -, -, -, h6, h7⟩ := hS
  have t0 : (nI 0).toInt = 0 := rfl
  have t1 : (nI 1).toInt = 1 := rfl
  unfold m_X7_note
  rcases hm with ⟨rfl, rfl, rfl⟩ | ⟨rfl, rfl, rfl⟩
  · rw [if_pos rfl] at h6 h7
    rw [h6, t1, if_neg (by omega)]
    obtain ⟨L, hL, hL1, hL2⟩ := hW.2.1.lines
    have hcl : u.1 2 10 = nI L := by rw [hW.1.lines]; exact hL1
    by_cases hL5 : L = 150
    · rw [hL5] at hcl hL1
      rw [write_f hcl, notes_f hL1 h7, q_bd_some]
      exact ⟨u, v, rfl, rfl, FX.rfl', FY.rfl', hW, fun j _ => rfl⟩
    · rw [write_c (by omega) hcl (by omega), notes_r hL1 (by omega) h7, q_bd_some]
      exact ⟨_, _, rfl, rfl, book_w hG hW (by omega)⟩
  · rw [if_neg (by decide)] at h6 h7
    rw [h6, t0, if_pos rfl]
    unfold m_X11_notes
    rw [h7, t1, if_neg (by omega)]
    exact ⟨u, v, rfl, rfl, FX.rfl', FY.rfl', hW, fun j _ => rfl⟩
/-- a tree more -/
theorem tree_s {p q a T P : Nat} (hS : ST tr k k2 u v) (hW : WK tr th tg k k2 u v) (hT : v.1 164 4 = nI T) (hT4 : T < 14) (hP : v.1 163 6 = nI P) (hP5 : P ≤ 5) (hp : p < P) (hq : q < 10) (ha : a ≤ 99) :
    ∃ u2 v2, m_X0_addTree k2 (nI p) (nI q) (nI a) u = some (nI T, u2) ∧ WQ tr th tg k k2 u v (fun j => j = 4 ∨ j = 20 + T ∨ j = 34 + T ∨ j = 48 + T ∨ j = 62 + T) u2 v2 ∧ m_X11_plants (nI p) (nI q) (nI a) v = q_bd (m_X11_notes (nI 0) (nI T) (nI 0) v2) (fun _ z => some (nI T, z)) ∧ v2.1 164 4 = nI (T + 1) := by
  obtain ⟨hm, hG, -, -, -, -, -⟩ := hS
  have hk := hm.k
  have hcT : u.1 k2 8 = nI T := by rw [hW.1.trees]; exact hT
  have tP : (v.1 163 6).toInt = P := by rw [hP, nI_t (by omega)]
  let v1 := q_up (q_up (q_up (q_up v 164 (20 + T) (nI p)) 164 (34 + T) (nI q)) 164 (48 + T) (nI a)) 164 (62 + T) (nI 0)
  let u1 := q_up (q_up (q_up (q_up u (k2 + 4) T (nI p)) (k2 + 5) T (nI q)) (k2 + 6) T (nI a)) (k2 + 7) T (nI 0)
  have w1 : WK tr th tg k k2 u1 v1 := by
    have a1 := hW.up hm hG (20 + T) (c := 4) (s := T) (x := nI p) (by omega) (by unfold cC; simp (disch := omega) only [if_pos, if_neg]) (by unfold cS; simp (disch := omega) only [if_pos, if_neg]; omega) (by rw [nI_t (by omega), bLo_0 (by omega) (by omega), bHi_p (by omega)]; omega) (by omega) (fun _ _ => by rw [tP, nI_t (by omega)]; omega) (by omega) (by omega)
    have a2 := a1.up hm hG (34 + T) (c := 5) (s := T) (x := nI q) (by omega) (by unfold cC; simp (disch := omega) only [if_pos, if_neg]) (by unfold cS; simp (disch := omega) only [if_pos, if_neg]; omega) (by rw [nI_t (by omega), bLo_0 (by omega) (by omega), bHi_l (by omega)]; omega) (by omega) (by omega) (by omega) (by omega)
    have a3 := a2.up hm hG (48 + T) (c := 6) (s := T) (x := nI a) (by omega) (by unfold cC; simp (disch := omega) only [if_pos, if_neg]) (by unfold cS; simp (disch := omega) only [if_pos, if_neg]; omega) (by rw [nI_t (by omega), bLo_0 (by omega) (by omega), bHi_a (by omega)]; omega) (by omega) (by omega) (by omega) (by omega)
    exact a3.up hm hG (62 + T) (c := 7) (s := T) (x := nI 0) (by omega) (by unfold cC; simp (disch := omega) only [if_pos, if_neg]) (by unfold cS; simp (disch := omega) only [if_pos, if_neg]; omega) (by rw [nI_t (by omega), bLo_0 (by omega) (by omega), bHi_h (by omega)]; omega) (by omega) (by omega) (by omega) (by omega)
  have e4 : v1.1 164 4 = nI T := by
    show (q_up (q_up (q_up (q_up v 164 (20 + T) (nI p)) 164 (34 + T) (nI q)) 164 (48 + T) (nI a)) 164 (62 + T) (nI 0)).1 164 4 = nI T
    simp (disch := omega) only [q_up_1, upd_g, if_true, if_neg, hT]
  have e20 : v1.1 164 (20 + T) = nI p := by
    show (q_up (q_up (q_up (q_up v 164 (20 + T) (nI p)) 164 (34 + T) (nI q)) 164 (48 + T) (nI a)) 164 (62 + T) (nI 0)).1 164 (20 + T) = nI p
    simp (disch := omega) only [q_up_1, upd_g, if_true, if_neg]
  refine ⟨q_up u1 k2 8 (nI (T + 1)), q_up v1 164 4 (nI (T + 1)), ?_, ⟨?_, ?_, ?_, ?_⟩, ?_, ?_⟩
  · unfold m_X0_addTree
    simp only [q_let, hcT, lit_n]
    rw [ast_n (by omega) (by omega), Option.bind_some, ast_n (by omega) (by omega), Option.bind_some, ast_n (by omega) (by omega), Option.bind_some, ast_n (by omega) (by omega), Option.bind_some]
    have : u1.1 k2 8 = nI T := by
      rw [w1.1.trees]; exact e4
    show some (nI T, q_up u1 k2 8 (u1.1 k2 8 + nI 1)) = _
    rw [this, nI_add]
  · have b1 : FX k k2 tr u (q_up u (k2 + 4) T (nI p)) := FX.upc FX.rfl' hm (by omega)
    have b2 := FX.upc (c := 5) (s := T) (x := nI q) b1 hm (by omega)
    have b3 := FX.upc (c := 6) (s := T) (x := nI a) b2 hm (by omega)
    have b4 := FX.upc (c := 7) (s := T) (x := nI 0) b3 hm (by omega)
    exact FX.upc (c := 0) (s := 8) (x := nI (T + 1)) b4 hm (by omega)
  · exact FY.up (FY.up (FY.up (FY.up (FY.up FY.rfl'))))
  · obtain ⟨h1, h2, h3, h4, h5⟩ := w1
    have e4' : ∀ i, i < 136 → (q_up v1 164 4 (nI (T + 1))).1 164 i = if i = 4 then nI (T + 1) else v1.1 164 i := fun i _ => by rw [q_up_1, if_pos rfl, upd_g]
    refine ⟨h1.up 4 (by omega) (c := 0) (s := 8) rfl rfl (fun a => by rw [q_up_1]; rfl) e4', ?_, ?_, ?_, ?_⟩
    · refine ⟨fun i hi => ?_, fun t ht => ?_, fun p' hp' h5' => ?_, fun i hi h50 => ?_⟩
      · rw [e4' i hi]; split
        · rename_i e; rw [e, nI_t (by omega)]; show (0 : Int) ≤ _ ∧ _ ≤ (14 : Int); omega
        · exact h2.1 i hi
      · rw [e4' 4 (by omega), if_pos rfl, nI_t (by omega)] at ht
        rw [e4' _ (by omega), if_neg (by omega)]
        by_cases htT : t = T
        · rw [htT, e20, nI_t (by omega)]; show (p : Int) < (v.1 163 6).toInt; rw [tP]; omega
        · exact h2.2.1 t (by rw [e4, nI_t (by omega)]; omega)
      · rw [e4' _ (by omega), if_neg (by omega), e4' _ (by omega), if_neg (by omega)]; exact h2.2.2.1 p' hp' h5'
      · rw [e4' _ (by omega), if_neg (by omega)]; exact h2.2.2.2 i hi h50
    · rw [q_up_1, if_neg (by omega)]; exact h3
    · rw [q_up_1, if_neg (by omega)]; exact h4
    · rw [q_up_1 (u := u1), if_neg (by omega)]; exact h5
  · intro j hj
    simp only [not_or] at hj
    obtain ⟨j1, j2, j3, j4, j5⟩ := hj
    show (q_up (q_up (q_up (q_up (q_up v 164 (20 + T) (nI p)) 164 (34 + T) (nI q)) 164 (48 + T) (nI a)) 164 (62 + T) (nI 0)) 164 4 (nI (T + 1))).1 164 j = v.1 164 j
    simp only [q_up_1, upd_g, if_true, if_neg j1, if_neg j2, if_neg j3, if_neg j4, if_neg j5]
  · unfold m_X11_plants
    simp only [lit_n]
    rw [ald_n (by omega) (by omega), Option.bind_some, hT]
    simp only [nI_add]
    rw [ast_n (by omega) (by omega), Option.bind_some, ast_n (by omega) (by omega), Option.bind_some, ast_n (by omega) (by omega), Option.bind_some, ast_n (by omega) (by omega), Option.bind_some, ast_n (by omega) (by omega), Option.bind_some]
  · rw [q_up_1, if_pos rfl, upd_g, if_pos rfl]
end
