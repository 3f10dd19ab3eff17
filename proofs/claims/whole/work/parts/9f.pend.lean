/-! LAYER 2: THE CALLS, 32: what waits, what is compared -/
def PD (v : qS) (pd : List Nat) : Prop := v.1 163 31 = nI pd.length ∧ ∀ j, j < pd.length → v.1 177 j = nI (pd.getD j 0)
theorem PD.hp {v v2 : qS} {pd : List Nat} (h : PD v pd) (h2 : HP v v2) : PD v2 pd := by
  unfold PD
  rw [h2.1, h2.2]; exact h
theorem gd_n {t : Nat} : ∀ (A : List Nat) (j : Nat), j ≤ A.length → (A ++ [t]).getD j 0 = if j < A.length then A.getD j 0 else t
  | [], j, h => by
    have : j = 0 := by have : j ≤ 0 := h; omega
    subst this; rfl
  | a :: r, 0, h => rfl
  | a :: r, j + 1, h => by
    have ih := gd_n (t := t) r j (by have : j + 1 ≤ r.length + 1 := h; omega)
    show (r ++ [t]).getD j 0 = if j + 1 < r.length + 1 then r.getD j 0 else t
    rw [ih]
    by_cases e : j < r.length
    · rw [if_pos e, if_pos (by omega)]
    · rw [if_neg e, if_neg (by omega)]
def rep (x : Nat) : Nat → List Nat
  | 0 => []
  | n + 1 => rep x n ++ [x]
def repI (x : Nat) : Nat → List (Nat × Nat)
  | 0 => []
  | n + 1 => (x, 0) :: repI x n
theorem rep_len {x : Nat} : ∀ n, (rep x n).length = n
  | 0 => rfl
  | n + 1 => by unfold rep; rw [List.length_append, rep_len n]; rfl
theorem repI_len {x : Nat} : ∀ n, (repI x n).length = n
  | 0 => rfl
  | n + 1 => by unfold repI; rw [List.length_cons, repI_len n]
/-- not the top -/
def tpN (S : List Nat) (x : Nat) : Prop := ∀ S' y, S = S' ++ [y] → y ≠ x
theorem tpN.app {S : List Nat} {x y : Nat} (h : y ≠ x) : tpN (S ++ [y]) x := fun S' y' e => by
  have := List.append_inj_right' e rfl
  have e2 : y = y' := List.head_eq_of_cons_eq this
  rw [← e2]; exact h
theorem tpN.nil {x : Nat} : tpN [] x := fun S' y e => by
  have := congrArg List.length e
  rw [List.length_append] at this
  have h2 : 0 = S'.length + 1 := this
  omega
section
variable {N T : Nat} {z : Nat → Int} {u0 v0 u1 v1 v : qS} {i k o : Nat} {rs : List (Nat × Nat)}
theorem wait_r {pd : List Nat} (hV : PV N z v0 v1 v i rs o) (hD : PD v pd) (hl : pd.length < 40) (x : Nat) : ∃ v2, m_X11_waits (nI x) v = some (nI 0, v2) ∧ PV N z v0 v1 v2 i rs o ∧ PD v2 (pd ++ [x]) := by
  obtain ⟨g, ⟨a1, a2, a3, a4⟩, ⟨e1, e2, e3⟩, r1⟩ := hV
  obtain ⟨d1, d2⟩ := hD
  refine ⟨q_up (q_up v 177 pd.length (nI x)) 163 31 (nI (pd.length + 1)), ?_, ⟨⟨fun c h1 h2 => ?_, fun j h1 h2 h3 h4 h5 h6 => ?_, fun c j h1 h2 h3 => ?_, fun c j h1 h2 h3 => ?_, g.2.2.2.2.1, g.2.2.2.2.2.1, g.2.2.2.2.2.2⟩, ⟨a1, a2, a3, a4⟩, ⟨e1, e2, e3⟩, fun c h1 h2 => ?_⟩, ?_, fun j hj => ?_⟩
  · have f1 : (q_up v 177 pd.length (nI x)).1 163 31 = nI pd.length := d1
    unfold m_X11_waits
    simp only [lit_n]
    rw [d1, ast_n (by omega) (by omega), Option.bind_some, f1, q_let_s, nI_add]
  · rw [q_up_1, if_neg h1, q_up_1, if_neg (by omega)]; exact g.1 c h1 h2
  · rw [up163 h4]; exact g.2.1 j h1 h2 h3 h4 h5 h6
  · rw [q_up_1, if_neg (by omega), q_up_1, if_neg (by omega)]; exact g.2.2.1 c j h1 h2 h3
  · rw [q_up_1, if_neg (by omega), q_up_1, if_neg (by omega)]; exact g.2.2.2.1 c j h1 h2 h3
  · rw [q_up_1, if_neg (by omega), q_up_1, if_neg (by omega)]; exact r1 c h1 h2
  · rw [List.length_append]; rfl
  · rw [List.length_append] at hj
    have hj' : j < pd.length + 1 := hj
    rw [gd_n pd j (by omega), q_up_1, if_neg (by omega), q_up_1, if_pos rfl, upd_g]
    by_cases e : j < pd.length
    · rw [if_pos e, if_neg (by omega)]; exact d2 j e
    · rw [if_neg e, if_pos (by omega)]
/-- a field of the reference's that waits or is open -/
theorem PV.up {j : Nat} {x : Int32} (hV : PV N z v0 v1 v i rs o) (hj : j = 31) : PV N z v0 v1 (q_up v 163 j x) i rs o := by
  subst hj
  obtain ⟨g, ⟨a1, a2, a3, a4⟩, ⟨e1, e2, e3⟩, r1⟩ := hV
  refine ⟨⟨fun c h1 h2 => ?_, fun j h1 h2 h3 h4 h5 h6 => ?_, fun c j h1 h2 h3 => ?_, fun c j h1 h2 h3 => ?_, g.2.2.2.2.1, g.2.2.2.2.2.1, g.2.2.2.2.2.2⟩, ⟨a1, a2, a3, a4⟩, ⟨e1, e2, e3⟩, fun c h1 h2 => ?_⟩
  · rw [q_up_1, if_neg h1]; exact g.1 c h1 h2
  · rw [up163 h4]; exact g.2.1 j h1 h2 h3 h4 h5 h6
  · rw [q_up_1, if_neg (by omega)]; exact g.2.2.1 c j h1 h2 h3
  · rw [q_up_1, if_neg (by omega)]; exact g.2.2.2.1 c j h1 h2 h3
  · rw [q_up_1, if_neg (by omega)]; exact r1 c h1 h2
theorem PV.op {o2 : Nat} (hV : PV N z v0 v1 v i rs o) : PV N z v0 v1 (q_up v 163 29 (nI o2)) i rs o2 := by
  obtain ⟨g, ⟨a1, a2, a3, a4⟩, ⟨e1, e2, e3⟩, r1⟩ := hV
  refine ⟨⟨fun c h1 h2 => ?_, fun j h1 h2 h3 h4 h5 h6 => ?_, fun c j h1 h2 h3 => ?_, fun c j h1 h2 h3 => ?_, g.2.2.2.2.1, g.2.2.2.2.2.1, g.2.2.2.2.2.2⟩, ⟨a1, a2, a3, a4⟩, ⟨e1, rfl, e3⟩, fun c h1 h2 => ?_⟩
  · rw [q_up_1, if_neg h1]; exact g.1 c h1 h2
  · rw [up163 h3]; exact g.2.1 j h1 h2 h3 h4 h5 h6
  · rw [q_up_1, if_neg (by omega)]; exact g.2.2.1 c j h1 h2 h3
  · rw [q_up_1, if_neg (by omega)]; exact g.2.2.2.1 c j h1 h2 h3
  · rw [q_up_1, if_neg (by omega)]; exact r1 c h1 h2
theorem setl_it {x : Nat} {S : List Nat} (hx : x < 100) (hS : tpN S x) (hS4 : ∀ y, y ∈ S → y < 100) : ∀ (m f : Nat) (v : qS) (rs : List (Nat × Nat)) (o : Nat), m < f → PV N z v0 v1 v i rs o → PD v (S ++ rep x m) → (S ++ rep x m).length < 40 → rs.length + m ≤ 400 → (x = 9 → m ≤ o) → o < 100 → ∃ v2, q_it0 (m_X11_settles_L0 (nI x) (fun u_4 => some (nI 0, u_4))) f v = some (nI 0, v2) ∧ PV N z v0 v1 v2 i (rs ++ repI x m) (if x = 9 then o - m else o) ∧ PD v2 S
  | m, 0, v, rs, o, hf, hV, hD, hl, hb, ho, ho1 => by omega
  | 0, f + 1, v, rs, o, hf, hV, hD, hl, hb, ho, ho1 => by
    have hD' : PD v (S ++ []) := hD
    rw [List.append_nil] at hD'
    refine ⟨v, ?_, ?_, hD'⟩
    · show m_X11_settles_L0 _ _ _ _ = _
      unfold m_X11_settles_L0
      simp only [lit_n]
      obtain ⟨d1, d2⟩ := hD'
      have hl' : S.length < 40 := by rw [List.length_append] at hl; omega
      rw [d1]
      by_cases e : S.length = 0
      · rw [if_pos (by rw [nI_t (by omega)]; omega)]
      · have hne : S ≠ [] := fun e2 => e (by rw [e2]; rfl)
        have hg : S.getD (S.length - 1) 0 ≠ x ∧ S.getD (S.length - 1) 0 < 100 := by
          have hd := List.dropLast_concat_getLast hne
          have e3 : S.getD (S.length - 1) 0 = S.getLast hne := by
            have h1 := gd_n (t := S.getLast hne) S.dropLast (S.length - 1) (by rw [List.length_dropLast]; omega)
            rw [hd, List.length_dropLast, if_neg (by omega)] at h1
            exact h1
          rw [e3]
          exact ⟨hS S.dropLast _ hd.symm, hS4 _ (List.getLast_mem hne)⟩
        rw [if_neg (by rw [nI_t (by omega)]; omega), nI_sub (by omega), ald_n (by omega) (by omega), Option.bind_some, d2 _ (by omega), if_neg (by rw [nI_t (by omega), nI_t (by omega)]; omega)]
    · show PV N z v0 v1 v i (rs ++ []) _
      rw [List.append_nil]
      by_cases e : x = 9
      · rw [if_pos e]; exact hV
      · rw [if_neg e]; exact hV
  | m + 1, f + 1, v, rs, o, hf, hV, hD, hl, hb, ho, ho1 => by
    have hsp : S ++ rep x (m + 1) = (S ++ rep x m) ++ [x] := by
      show S ++ (rep x m ++ [x]) = _
      rw [List.append_assoc]
    rw [hsp] at hD hl
    obtain ⟨d1, d2⟩ := hD
    rw [List.length_append] at hl d1
    have hl' : (S ++ rep x m).length + 1 < 40 := hl
    have d1' : v.1 163 31 = nI ((S ++ rep x m).length + 1) := d1
    have lnn : ((S ++ rep x m) ++ [x]).length = (S ++ rep x m).length + 1 := List.length_append
    have dtop : v.1 177 (S ++ rep x m).length = nI x := by
      rw [d2 _ (by omega), gd_n _ _ (Nat.le_refl _), if_neg (by omega)]
    have hV1 : PV N z v0 v1 (q_up v 163 31 (nI (S ++ rep x m).length)) i rs o := hV.up rfl
    have hD1 : PD (q_up v 163 31 (nI (S ++ rep x m).length)) (S ++ rep x m) := ⟨rfl, fun j hj => by
      have := d2 j (by omega)
      rw [gd_n _ _ (by omega), if_pos hj] at this
      exact this⟩
    obtain ⟨v2, c1, c2, c3⟩ := emit_r hV1 (by omega) x 0
    have hD2 := hD1.hp c3
    have l1 : (rs ++ [(x, 0)]).length = rs.length + 1 := ln1
    have er : rs ++ [(x, 0)] ++ repI x m = rs ++ repI x (m + 1) := by rw [List.append_assoc]; rfl
    by_cases e9 : x = 9
    · have ho' := ho e9
      have o29 : v2.1 163 29 = nI o := c2.2.2.1.2.1
      have hV3 := c2.op (o2 := o - 1)
      have hD3 : PD (q_up v2 163 29 (nI (o - 1))) (S ++ rep x m) := hD2
      obtain ⟨v4, f1, f2, f3⟩ := setl_it hx hS hS4 m f _ _ (o - 1) (by omega) hV3 hD3 (by omega) (by omega) (fun _ => by omega) (by omega)
      refine ⟨v4, ?_, ?_, f3⟩
      · rw [← f1]
        show m_X11_settles_L0 _ _ (q_it0 (m_X11_settles_L0 (nI x) (fun u_4 => some (nI 0, u_4))) f) _ = _
        generalize q_it0 (m_X11_settles_L0 (nI x) (fun u_4 => some (nI 0, u_4))) f = self
        unfold m_X11_settles_L0
        simp only [lit_n]
        rw [d1', if_neg (by rw [nI_t (by omega)]; omega), nI_sub (by omega), show (S ++ rep x m).length + 1 - 1 = (S ++ rep x m).length by omega, ald_n (by omega) (by omega), Option.bind_some, dtop, if_pos rfl, q_let_s, c1, q_bd_s', if_pos (by rw [e9]), o29, nI_sub (by omega), q_let_s]
      · rw [er, if_pos e9] at f2
        rw [if_pos e9, show o - (m + 1) = o - 1 - m by omega]; exact f2
    · obtain ⟨v4, f1, f2, f3⟩ := setl_it hx hS hS4 m f _ _ o (by omega) c2 hD2 (by omega) (by omega) (fun e => absurd e e9) ho1
      refine ⟨v4, ?_, ?_, f3⟩
      · rw [← f1]
        show m_X11_settles_L0 _ _ (q_it0 (m_X11_settles_L0 (nI x) (fun u_4 => some (nI 0, u_4))) f) _ = _
        generalize q_it0 (m_X11_settles_L0 (nI x) (fun u_4 => some (nI 0, u_4))) f = self
        unfold m_X11_settles_L0
        simp only [lit_n]
        rw [d1', if_neg (by rw [nI_t (by omega)]; omega), nI_sub (by omega), show (S ++ rep x m).length + 1 - 1 = (S ++ rep x m).length by omega, ald_n (by omega) (by omega), Option.bind_some, dtop, if_pos rfl, q_let_s, c1, q_bd_s', if_neg (by rw [nI_t (by omega), nI_t (by omega)]; omega)]
      · rw [er, if_neg e9] at f2
        rw [if_neg e9]; exact f2
theorem setl_r {x m : Nat} {S : List Nat} (hx : x < 100) (hS : tpN S x) (hS4 : ∀ y, y ∈ S → y < 100) (hV : PV N z v0 v1 v i rs o) (hD : PD v (S ++ rep x m)) (hl : (S ++ rep x m).length < 40) (hb : rs.length + m ≤ 400) (ho : x = 9 → m ≤ o) (ho1 : o < 100) : ∃ v2, m_X11_settles (nI x) v = some (nI 0, v2) ∧ PV N z v0 v1 v2 i (rs ++ repI x m) (if x = 9 then o - m else o) ∧ PD v2 S := by
  have hm : m < 40 := by rw [List.length_append, rep_len] at hl; omega
  obtain ⟨v2, e1, e2, e3⟩ := setl_it hx hS hS4 m q_F v rs o (by rw [q_F_eq]; omega) hV hD hl hb ho ho1
  refine ⟨v2, ?_, e2, e3⟩
  unfold m_X11_settles
  exact e1
end
