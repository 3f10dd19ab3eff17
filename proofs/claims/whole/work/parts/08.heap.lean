/-! ROWS: fields, arrays, calls, loops -/
section Rows
variable {own : String} {cc : ByteArray} {nL : Nat} {ret : Option FieldType} {d : Nat} {ι : qI} {b pc : Nat} {lv : List (Nat × Value)} {st : List Value} {u : qS} {M : qR}
theorem q_upi {k j : Nat} {v : Int32} (ho : q_ok ι k) : q_up (ι.1 u) k j v = ι.1 (q_up u k j v) := by
  unfold q_up; rw [ho.1 u, ho.2]
theorem q_put {G : qG} {x : qS} {k j ci : Nat} {fl : List (Option Nat)} {v : Int32} (hs : q_sh[k]? = some (.inl (ci, fl))) (hf : fl[j]? = some none) : (q_wl G b x).set k (b + k, .inr (ci, (fl.mapIdx (q_fv b (x.1 k))).set j (.int v))) = q_wl G b (q_up x k j v) := by
  rw [q_fset hf, q_up, ← q_set (f := upd (x.1 k) j v) hs]
  simp only [q_en, q_st_1]
theorem q_arr {G : qG} {x : qS} {k n : Nat} {f : Nat → Int32} (hs : q_sh[k]? = some (.inr (0, n))) : (q_wl G b x).set k (b + k, .inl (G.2.1, n, .inl f)) = q_wl G b (q_st x k f) := by
  rw [← q_set (f := f) hs]
  simp only [q_en, q_st_1]
theorem sw_geti {ci : Nat} {C : String} {T : u_T} {N : Nat} {ty0 : Nat → FieldType} (hc : q_Cl ci C T N ty0) {idx k : Nat} (j : Nat) {fl : List (Option Nat)} (hd : decode cc pc = .ok (.getfield idx, 3)) (hlk : Cond.fieldLink own idx (T j).1 (T j).2.1 (T j).2.2.1 ∈ q_TT) (hj : j < N) (hs : q_ce ι k (.inl (ci, fl))) (hf : fl[j]? = some none)
    (h : SW own cc nL ret d ι b (pc + 3) lv (.int (u.1 k j) :: st) u M) : SW own cc nL ret d ι b pc lv (.ref (b + k) :: st) u M :=
  fun hM p l e s m args below meth c H locs ls G hC hP hS hl => va_get (v := .int (u.1 k j)) hC.1 hC.2.1 hC.2.2.2.2.2.1 hc.2.1 hC.2.2.2.2.1 hC.2.2.2.2.2.2.2.1.1 hP k (q_at hs.1) hc.1 j hj (hC.2.2.2.2.2.1 _ hlk) (fun _ h => h) (by show (fl.mapIdx _)[j]? = _; rw [List.getElem?_mapIdx, hf]; simp [q_fv, hs.2.1]) hd (h hM p l e s m args below meth c H locs ls G hC hP hS hl)
theorem sw_getr {ci : Nat} {C : String} {T : u_T} {N : Nat} {ty0 : Nat → FieldType} (hc : q_Cl ci C T N ty0) {idx k : Nat} (j : Nat) {r : Nat} {fl : List (Option Nat)} (hd : decode cc pc = .ok (.getfield idx, 3)) (hlk : Cond.fieldLink own idx (T j).1 (T j).2.1 (T j).2.2.1 ∈ q_TT) (hj : j < N) (hs : q_ce ι k (.inl (ci, fl))) (hf : fl[j]? = some (some r))
    (h : SW own cc nL ret d ι b (pc + 3) lv (.ref (b + r) :: st) u M) : SW own cc nL ret d ι b pc lv (.ref (b + k) :: st) u M :=
  fun hM p l e s m args below meth c H locs ls G hC hP hS hl => va_get (v := .ref (b + r)) hC.1 hC.2.1 hC.2.2.2.2.2.1 hc.2.1 hC.2.2.2.2.1 hC.2.2.2.2.2.2.2.1.1 hP k (q_at hs.1) hc.1 j hj (hC.2.2.2.2.2.1 _ hlk) (fun _ h => h) (by show (fl.mapIdx _)[j]? = _; rw [List.getElem?_mapIdx, hf]; rfl) hd (h hM p l e s m args below meth c H locs ls G hC hP hS hl)
theorem sw_putg {ci : Nat} {C : String} {T : u_T} {N : Nat} {ty0 : Nat → FieldType} {ty : FieldType} {v : Int32} (hn : narrow ty (.int v) = .int v) (hfit : fits ty (.int v) = true) (hc : q_Cl ci C T N ty0) {idx k : Nat} (j : Nat) {fl : List (Option Nat)} {K : qS → qR} (hd : decode cc pc = .ok (.putfield idx, 3)) (hlk : Cond.fieldLink own idx (T j).1 (T j).2.1 (T j).2.2.1 ∈ q_TT) (hj : j < N) (hty : parseFieldDescriptor (T j).2.2.1 = some ty) (hfin : (T j).2.2.2 = false) (hs : q_ce ι k (.inl (ci, fl))) (hf : fl[j]? = some none)
    (h : ∀ u', SW own cc nL ret d ι b (pc + 3) lv st u' (K u')) : SW own cc nL ret d ι b pc lv (.int v :: .ref (b + k) :: st) u (q_let (q_up u k j v) K) :=
  fun hM p l e s m args below meth c H locs ls G hC hP hS hl => va_put (v := .int v) hC.1 hC.2.1 hC.2.2.2.2.2.1 hc.2.1 ty0 hc.2.2.1 hc.2.2.2 hC.2.2.2.2.1 hC.2.2.2.2.2.2.2.1.1 hP q_D hS k (q_at hs.1) hc.1 j hj (hC.2.2.2.2.2.1 _ hlk) (fun _ h => h) hfin hty hn hfit (by rw [List.length_mapIdx]; exact (List.getElem?_eq_some_iff.mp hf).1) hd
    (fun H1 locs1 hP1 _ hS1 => h _ hM p l e s m args below meth c H1 locs1 ls G hC (by rw [q_put hs.1 hf, q_upi hs.2] at hP1; exact hP1) hS1 hl)
theorem sw_puti {ci : Nat} {C : String} {T : u_T} {N : Nat} {ty0 : Nat → FieldType} {v : Int32} (hc : q_Cl ci C T N ty0) {idx k : Nat} (j : Nat) {fl : List (Option Nat)} {K : qS → qR} (hd : decode cc pc = .ok (.putfield idx, 3)) (hlk : Cond.fieldLink own idx (T j).1 (T j).2.1 (T j).2.2.1 ∈ q_TT) (hj : j < N) (hty : parseFieldDescriptor (T j).2.2.1 = some .int) (hfin : (T j).2.2.2 = false) (hs : q_ce ι k (.inl (ci, fl))) (hf : fl[j]? = some none)
    (h : ∀ u', SW own cc nL ret d ι b (pc + 3) lv st u' (K u')) : SW own cc nL ret d ι b pc lv (.int v :: .ref (b + k) :: st) u (q_let (q_up u k j v) K) := sw_putg rfl rfl hc j hd hlk hj hty hfin hs hf h
theorem sw_putz {ci : Nat} {C : String} {T : u_T} {N : Nat} {ty0 : Nat → FieldType} {v : Int32} (hc : q_Cl ci C T N ty0) {idx k : Nat} (j : Nat) {fl : List (Option Nat)} {K : qS → qR} (hd : decode cc pc = .ok (.putfield idx, 3)) (hlk : Cond.fieldLink own idx (T j).1 (T j).2.1 (T j).2.2.1 ∈ q_TT) (hj : j < N) (hty : parseFieldDescriptor (T j).2.2.1 = some .boolean) (hfin : (T j).2.2.2 = false) (hs : q_ce ι k (.inl (ci, fl))) (hf : fl[j]? = some none)
    (h : ∀ u', SW own cc nL ret d ι b (pc + 3) lv st u' (K u')) : SW own cc nL ret d ι b pc lv (.int v :: .ref (b + k) :: st) u (q_bz v (q_let (q_up u k j v) K)) := by
  by_cases hv : v = 0 ∨ v = 1
  · refine SW.of_eq (M' := q_let (q_up u k j v) K) (by simp [q_bz, hv]) ?_
    exact sw_putg (by rcases hv with rfl | rfl <;> rfl) (by rcases hv with rfl | rfl <;> rfl) hc j hd hlk hj hty hfin hs hf h
  · exact SW.of_eq (by simp [q_bz, hv]) SW.none
theorem q_clamp (i : Int32) : i.toNatClampNeg = i.toInt.toNat := rfl
theorem sw_iald {a n : Nat} {i : Int32} {K : Int32 → qR} (hd : decode cc pc = .ok (.iaload, 1)) (hs : q_ce ι a (.inr (0, n))) (h : ∀ v, SW own cc nL ret d ι b (pc + 1) lv (.int v :: st) u (K v)) : SW own cc nL ret d ι b pc lv (.int i :: .ref (b + a) :: st) u ((q_ald u a n i).bind K) := by
  by_cases hi : 0 ≤ i.toInt ∧ i.toInt < n
  · refine SW.of_eq (M' := K (u.1 a i.toInt.toNat)) (by simp [q_ald, hi]) ?_
    exact fun hM p l e s m args below meth c H locs ls G hC hP hS hl => va_iald hC.1 hC.2.1 hC.2.2.2.2.2.2.2.1.1 hP a 0 (q_at hs.1) rfl (vp_in_iff.mpr hi) hd (by
      have e1 : ((ι.1 u).1 a i.toNatClampNeg) = u.1 a i.toInt.toNat := by rw [hs.2.1]; rfl
      rw [e1]
      exact h _ hM p l e s m args below meth c H locs ls G hC hP hS hl)
  · exact SW.of_eq (by simp [q_ald, hi]) SW.none
theorem sw_iast {a n : Nat} {i v : Int32} {K : qS → qR} (hd : decode cc pc = .ok (.iastore, 1)) (hs : q_ce ι a (.inr (0, n))) (h : ∀ u', SW own cc nL ret d ι b (pc + 1) lv st u' (K u')) : SW own cc nL ret d ι b pc lv (.int v :: .int i :: .ref (b + a) :: st) u ((q_ast u a n i v).bind K) := by
  by_cases hi : 0 ≤ i.toInt ∧ i.toInt < n
  · refine SW.of_eq (M' := K (q_up u a i.toInt.toNat v)) (by simp [q_ast, hi]) ?_
    exact fun hM p l e s m args below meth c H locs ls G hC hP hS hl => va_iast hC.1 hC.2.1 hC.2.2.2.2.2.2.2.1.1 hP q_D hS a 0 (q_at hs.1) rfl (vp_in_iff.mpr hi) hd (fun H1 locs1 hP1 _ hS1 =>
      h _ hM p l e s m args below meth c H1 locs1 ls G hC (by
        rw [q_arr hs.1] at hP1
        have e1 : q_st (ι.1 u) a (upd ((ι.1 u).1 a) i.toNatClampNeg v) = ι.1 (q_up u a i.toInt.toNat v) := q_upi hs.2
        rw [e1] at hP1
        exact hP1) hS1 hl)
  · exact SW.of_eq (by simp [q_ast, hi]) SW.none
theorem sw_lald {a n : Nat} {i : Int32} {K : Int64 → qR} (hd : decode cc pc = .ok (.laload, 1)) (hs : q_ce ι a (.inr (1, n))) (hL : q_okl ι) (h : ∀ v, SW own cc nL ret d ι b (pc + 1) lv (.long v :: st) u (K v)) : SW own cc nL ret d ι b pc lv (.int i :: .ref (b + a) :: st) u ((q_lld u n i).bind K) := by
  by_cases hi : 0 ≤ i.toInt ∧ i.toInt < n
  · refine SW.of_eq (M' := K (u.2 i.toInt.toNat)) (by simp [q_lld, hi]) ?_
    exact fun hM p l e s m args below meth c H locs ls G hC hP hS hl => va_lald hC.1 hC.2.1 hC.2.2.2.2.2.2.2.1.1 hP a 1 (q_at hs.1) rfl (vp_in_iff.mpr hi) hd (by
      have e1 : ((ι.1 u).2 i.toNatClampNeg) = u.2 i.toInt.toNat := by rw [hL.1]; rfl
      rw [e1]
      exact h _ hM p l e s m args below meth c H locs ls G hC hP hS hl)
  · exact SW.of_eq (by simp [q_lld, hi]) SW.none
theorem sw_last {a n : Nat} {i : Int32} {v : Int64} {K : qS → qR} (hd : decode cc pc = .ok (.lastore, 1)) (hs : q_ce ι a (.inr (1, n))) (hL : q_okl ι) (hu : ∀ (i m : Nat), q_sh[i]? = some (.inr (1, m)) → i = a) (h : ∀ u', SW own cc nL ret d ι b (pc + 1) lv st u' (K u')) : SW own cc nL ret d ι b pc lv (.long v :: .int i :: .ref (b + a) :: st) u ((q_lst u n i v).bind K) := by
  by_cases hi : 0 ≤ i.toInt ∧ i.toInt < n
  · refine SW.of_eq (M' := K (q_sl u (vp_updL u.2 i.toInt.toNat v))) (by simp [q_lst, hi]) ?_
    exact fun hM p l e s m args below meth c H locs ls G hC hP hS hl => va_last hC.1 hC.2.1 hC.2.2.2.2.2.2.2.1.1 hP q_D hS a 1 (q_at hs.1) rfl (vp_in_iff.mpr hi) hd (fun H1 locs1 hP1 _ hS1 =>
      h _ hM p l e s m args below meth c H1 locs1 ls G hC (by
        have e0 := q_setL (G := G) (b := b) (u := ι.1 u) (f := vp_updL (ι.1 u).2 i.toNatClampNeg v) hs.1 hu
        have e1 : q_sl (ι.1 u) (vp_updL (ι.1 u).2 i.toNatClampNeg v) = ι.1 (q_sl u (vp_updL u.2 i.toInt.toNat v)) := by rw [hL.1, hL.2]; rfl
        rw [e1] at e0
        show va_P _ _ (q_wl G b _) _
        rw [← e0]
        have e2 : q_en G b (ι.1 (q_sl u (vp_updL u.2 i.toInt.toNat v))) a (.inr (1, n)) = .inl (G.2.2.1, n, .inr (.inl (vp_updL (ι.1 u).2 i.toNatClampNeg v))) := by rw [← e1]; rfl
        rw [e2]
        exact hP1) hS1 hl)
  · exact SW.of_eq (by simp [q_lst, hi]) SW.none
theorem sw_aald {a n : Nat} {i : Int32} {K : Nat → qR} (hd : decode cc pc = .ok (.aaload, 1)) (hs : q_ce ι a (.inr (2, n))) (h : ∀ j, j < n → SW own cc nL ret d ι b (pc + 1) lv (.ref (b + q_kp j) :: st) u (K j)) : SW own cc nL ret d ι b pc lv (.int i :: .ref (b + a) :: st) u ((q_ix n i).bind K) := by
  by_cases hi : 0 ≤ i.toInt ∧ i.toInt < n
  · refine SW.of_eq (M' := K i.toInt.toNat) (by simp [q_ix, hi]) ?_
    exact fun hM p l e s m args below meth c H locs ls G hC hP hS hl => va_aldq hC.1 hC.2.1 hC.2.2.2.2.2.2.2.1.1 hP a 2 (q_at hs.1) rfl (vp_in_iff.mpr hi) hd (h _ (by omega) hM p l e s m args below meth c H locs ls G hC hP hS hl)
  · exact SW.of_eq (by simp [q_ix, hi]) SW.none
/-- what the tables say of a method that is called -/
def q_Mf (C : String) (y : MethodName) (cy : ByteArray) (ny : Nat) (ry : Option FieldType) (n : Nat) : Prop := Cond.instanceMethod y ∈ q_TT ∧ Cond.selects C y y ∈ q_TT ∧ Cond.initialized C ∈ q_TT ∧ Cond.code y cy ny ry ∈ q_TT ∧ (y.cls = C ∧ y.cls ≠ "java/lang/invoke/MethodHandle" ∧ y.cls ≠ "java/lang/invoke/VarHandle" ∧ (parseMethodDescriptor y.desc).map (fun d => d.parameters.length) = some n) ∧ ny ≤ 80
def q_Ms (y : MethodName) (cy : ByteArray) (ny : Nat) (ry : Option FieldType) (n : Nat) : Prop := Cond.static y ∈ q_TT ∧ Cond.initialized y.cls ∈ q_TT ∧ Cond.code y cy ny ry ∈ q_TT ∧ (y.cls ≠ "java/lang/invoke/MethodHandle" ∧ y.cls ≠ "java/lang/invoke/VarHandle" ∧ (parseMethodDescriptor y.desc).map (fun d => d.parameters.length) = some n) ∧ ny ≤ 80
theorem q_gV {idx : Nat} {C : String} {y : MethodName} {cy : ByteArray} {ny : Nat} {ry : Option FieldType} {n : Nat} (hm : Cond.methodLink own idx y ∈ q_TT) (hf : q_Mf C y cy ny ry n) : GoodIn q_TT (wsV own idx C y (.code y cy ny ry :: q_TT)) := by
  intro w hw
  have hin : w ∈ q_TT := by
    unfold wsV at hw
    simp only [List.cons_append, List.nil_append, List.mem_cons] at hw
    rcases hw with rfl | rfl | rfl | rfl | rfl | hw
    · exact hm
    · exact hf.1
    · exact hf.2.1
    · exact hf.2.2.1
    · exact hf.2.2.2.1
    · exact hw
  exact ⟨hin, q_TT_good w hin⟩
theorem q_gC {y : MethodName} {cy : ByteArray} {ny : Nat} {ry : Option FieldType} (hc : Cond.code y cy ny ry ∈ q_TT) : GoodIn q_TT (.code y cy ny ry :: q_TT) := by
  intro w hw
  have hin : w ∈ q_TT := by
    rcases List.mem_cons.mp hw with rfl | hw
    · exact hc
    · exact hw
  exact ⟨hin, q_TT_good w hin⟩
theorem q_blind {av : List Value} {G : qG} {x : qS} : FrameBlind (va_Pc av (fun U => q_K G U ∧ q_W b ι U U.heap ∧ q_P G b x U.heap)) := fun a U g mk q => ⟨q.1, q.2.1.call, q.2.2.1.call, q.2.2.2⟩
theorem q_bd_ne {Mc : qR} {K : Int32 → qS → qR} (h : q_bd Mc K ≠ none) : Mc ≠ none := fun e => h (by rw [e]; rfl)
theorem q_room {d' ny : Nat} (hr : d' + 1 ≤ d) (hn : ny ≤ 80) : (q_Rm d').frames + 1 ≤ (q_Rm d).frames ∧ 8 + (ny + 11) + (q_Rm d').locals ≤ (q_Rm d).locals := by
  unfold q_Rm; constructor <;> simp only <;> omega
theorem sw_callVi {y : MethodName} {cy : ByteArray} {ny : Nat} {ty : FieldType} {d' idx k ci : Nat} {fl : List (Option Nat)} {C : String} {T : u_T} {N : Nat} {ty0 : Nat → FieldType} {As st0 : List Value} {Mc : qR} {K : Int32 → qS → qR}
    (hst : st0 = As.reverse ++ .ref (b + k) :: st) (hd : decode cc pc = .ok (.invokevirtual idx, 3)) (hm : Cond.methodLink own idx y ∈ q_TT) (hf : q_Mf C y cy ny (some ty) As.length) (hs : q_ce ι k (.inl (ci, fl))) (hc : q_Cl ci C T N ty0) (hr : d' + 1 ≤ d) (hrm : (st.map fun v => v.category).sum ≤ 8) (hcn : ∀ l, CN l y cy ny (some ty) d' ι b (.ref (b + k) :: As) u Mc)
    (h : ∀ r u', SW own cc nL ret d ι b (pc + 3) lv (.int r :: st) u' (K r u')) : SW own cc nL ret d ι b pc lv st0 u (q_bd Mc K) := by
  intro hM p l e s m args below meth c H locs ls G hC hP hS hl
  have hC0 := hC
  obtain ⟨hx, hb, hml, hr0, hown, hts, hlk, hK, hWs⟩ := hC
  refine va_calli (va_runV (As := As) (rest := st) ⟨hx, hb, hml, hown, hts⟩ (hcn l (q_bd_ne hM) G) (cwV As.length hts (q_gV hm hf) rfl rfl rfl hf.2.2.2.2.1 (q_room hr hf.2.2.2.2.2)) ⟨q_blind, va_recv hK.1 hP hc.1 (q_at hs.1), fun U hU hW => ⟨rfl, hK.warm hW, hWs.warm hW hS hU, by rw [hU]; exact hP⟩⟩ rfl rfl hl.1 hst (lv_room hrm) hd ⟨Nat.le_refl _, Nat.le_refl _⟩) hS (fun q _ h => h) (fun q h => h) (fun r u' t H1 locs ht hvm hw hB hz1 hk1 hS => ?_)
  have e1 : q_bd Mc K = K r u' := by rw [hw]; rfl
  rw [e1] at hM ⊢
  have hP1 : q_P G b (ι.1 u') H1 := by rw [← ht]; exact hB
  exact h r u' hM p l e s m args below meth c H1 locs ls G hC0 hP1 hS hl
theorem sw_callVv {y : MethodName} {cy : ByteArray} {ny : Nat} {d' idx k ci : Nat} {fl : List (Option Nat)} {C : String} {T : u_T} {N : Nat} {ty0 : Nat → FieldType} {As st0 : List Value} {Mc : qR} {K : Int32 → qS → qR}
    (hst : st0 = As.reverse ++ .ref (b + k) :: st) (hd : decode cc pc = .ok (.invokevirtual idx, 3)) (hm : Cond.methodLink own idx y ∈ q_TT) (hf : q_Mf C y cy ny none As.length) (hs : q_ce ι k (.inl (ci, fl))) (hc : q_Cl ci C T N ty0) (hr : d' + 1 ≤ d) (hrm : (st.map fun v => v.category).sum ≤ 8) (hcn : ∀ l, CN l y cy ny none d' ι b (.ref (b + k) :: As) u Mc)
    (h : ∀ r u', SW own cc nL ret d ι b (pc + 3) lv st u' (K r u')) : SW own cc nL ret d ι b pc lv st0 u (q_bd Mc K) := by
  intro hM p l e s m args below meth c H locs ls G hC hP hS hl
  have hC0 := hC
  obtain ⟨hx, hb, hml, hr0, hown, hts, hlk, hK, hWs⟩ := hC
  refine va_callv (va_runV (As := As) (rest := st) ⟨hx, hb, hml, hown, hts⟩ (hcn l (q_bd_ne hM) G) (cwV As.length hts (q_gV hm hf) rfl rfl rfl hf.2.2.2.2.1 (q_room hr hf.2.2.2.2.2)) ⟨q_blind, va_recv hK.1 hP hc.1 (q_at hs.1), fun U hU hW => ⟨rfl, hK.warm hW, hWs.warm hW hS hU, by rw [hU]; exact hP⟩⟩ rfl rfl hl.1 hst (lv_room hrm) hd ⟨Nat.le_refl _, Nat.le_refl _⟩) hS (fun q _ h => h) (fun q h => h) (fun u' t H1 locs ht hvm hw hB hz1 hk1 hS => ?_)
  obtain ⟨r, hw⟩ := hw
  have e1 : q_bd Mc K = K r u' := by rw [hw]; rfl
  rw [e1] at hM ⊢
  have hP1 : q_P G b (ι.1 u') H1 := by rw [← ht]; exact hB
  exact h r u' hM p l e s m args below meth c H1 locs ls G hC0 hP1 hS hl
theorem sw_callSi {y : MethodName} {cy : ByteArray} {ny : Nat} {ty : FieldType} {d' idx : Nat} {As st0 : List Value} {Mc : qR} {K : Int32 → qS → qR}
    (hst : st0 = As.reverse ++ st) (hd : decode cc pc = .ok (.invokestatic idx, 3)) (hm : Cond.methodLink own idx y ∈ q_TT) (hf : q_Ms y cy ny (some ty) As.length) (hr : d' + 1 ≤ d) (hrm : (st.map fun v => v.category).sum ≤ 8) (hcn : ∀ l, CN l y cy ny (some ty) d' ι b As u Mc)
    (h : ∀ r u', SW own cc nL ret d ι b (pc + 3) lv (.int r :: st) u' (K r u')) : SW own cc nL ret d ι b pc lv st0 u (q_bd Mc K) := by
  intro hM p l e s m args below meth c H locs ls G hC hP hS hl
  have hC0 := hC
  obtain ⟨hx, hb, hml, hr0, hown, hts, hlk, hK, hWs⟩ := hC
  refine va_calli (va_runS (As := As) (rest := st) ⟨hx, hb, hml, hown, hts⟩ (hcn l (q_bd_ne hM) G) ⟨callB_of As.length hts (q_gC hf.2.2.1) rfl rfl rfl (hts _ hf.2.1) (hts _ hm) hf.2.2.2.1 (q_room hr hf.2.2.2.2), hts _ hf.1⟩ ⟨q_blind, fun U hU hW => ⟨rfl, hK.warm hW, hWs.warm hW hS hU, by rw [hU]; exact hP⟩⟩ rfl rfl hl.1 hst (lv_room hrm) hd ⟨Nat.le_refl _, Nat.le_refl _⟩) hS (fun q _ h => h) (fun q h => h) (fun r u' t H1 locs ht hvm hw hB hz1 hk1 hS => ?_)
  have e1 : q_bd Mc K = K r u' := by rw [hw]; rfl
  rw [e1] at hM ⊢
  have hP1 : q_P G b (ι.1 u') H1 := by rw [← ht]; exact hB
  exact h r u' hM p l e s m args below meth c H1 locs ls G hC0 hP1 hS hl
theorem sw_callNi {y : MethodName} {cy : ByteArray} {ny : Nat} {ty : FieldType} {d' idx : Nat} {host : String} {As st0 : List Value} {Mc : qR} {K : Int32 → qS → qR}
    (hst : st0 = As.reverse ++ st) (hd : decode cc pc = .ok (.invokestatic idx, 3)) (hm : Cond.methodLinkNest own idx y host ∈ q_nest) (hf : q_Ms y cy ny (some ty) As.length) (hr : d' + 1 ≤ d) (hrm : (st.map fun v => v.category).sum ≤ 8) (hcn : ∀ l, CN l y cy ny (some ty) d' ι b As u Mc)
    (h : ∀ r u', SW own cc nL ret d ι b (pc + 3) lv (.int r :: st) u' (K r u')) : SW own cc nL ret d ι b pc lv st0 u (q_bd Mc K) := by
  intro hM p l e s m args below meth c H locs ls G hC hP hS hl
  have hC0 := hC
  obtain ⟨hx, hb, hml, hr0, hown, hts, hlk, hK, hWs⟩ := hC
  refine va_calli (va_runSN (As := As) (rest := st) ⟨hx, hb, hml, hown, hts⟩ (hcn l (q_bd_ne hM) G) ⟨va_cnB As.length hts (q_gC hf.2.2.1) rfl rfl rfl (hK.2 _ hm) (hts _ hf.2.1) hf.2.2.2.1 (q_room hr hf.2.2.2.2), hts _ hf.1, trivial⟩ ⟨q_blind, fun U hU hW => ⟨rfl, hK.warm hW, hWs.warm hW hS hU, by rw [hU]; exact hP⟩⟩ rfl rfl hl.1 hst (lv_room hrm) hd ⟨Nat.le_refl _, Nat.le_refl _⟩) hS (fun q _ h => h) (fun q h => h) (fun r u' t H1 locs ht hvm hw hB hz1 hk1 hS => ?_)
  have e1 : q_bd Mc K = K r u' := by rw [hw]; rfl
  rw [e1] at hM ⊢
  have hP1 : q_P G b (ι.1 u') H1 := by rw [← ht]; exact hB
  exact h r u' hM p l e s m args below meth c H1 locs ls G hC0 hP1 hS hl
-- the JDK's own
theorem sw_mmin {idx : Nat} {x y : Int32} (hd : decode cc pc = .ok (.invokestatic idx, 3)) (hm : Cond.methodLink own idx Lib.Math.min.name ∈ q_TT) (h1 : Cond.static Lib.Math.min.name ∈ q_TT) (h2 : Cond.initialized "java/lang/Math" ∈ q_TT) (h3 : Cond.code Lib.Math.min.name Lib.Math.min.code 2 (some .int) ∈ q_TT) (hd1 : 1 ≤ d) (hrm : (st.map fun v => v.category).sum ≤ 80)
    (h : SW own cc nL ret d ι b (pc + 3) lv (.int (if y < x then y else x) :: st) u M) : SW own cc nL ret d ι b pc lv (.int y :: .int x :: st) u M :=
  fun hM p l e s m args below meth c H locs ls G hC hP hS hl => va_mmin hC.1 hC.2.1 (hC.2.2.1.trans hl.1.symm) hC.2.2.2.2.1 (hC.2.2.2.2.2.1 _ hm) (hC.2.2.2.2.2.1 _ h1) (hC.2.2.2.2.2.1 _ h2) (hC.2.2.2.2.2.1 _ h3) hd1 (by show _ ≤ 100 * d; omega) (Nat.le_refl _) (Nat.le_refl _) hd (h hM p l e s m args below meth c H locs ls G hC hP hS hl)
theorem sw_mmax {idx : Nat} {x y : Int32} (hd : decode cc pc = .ok (.invokestatic idx, 3)) (hm : Cond.methodLink own idx Lib.Math.max.name ∈ q_TT) (h1 : Cond.static Lib.Math.max.name ∈ q_TT) (h2 : Cond.initialized "java/lang/Math" ∈ q_TT) (h3 : Cond.code Lib.Math.max.name Lib.Math.max.code 2 (some .int) ∈ q_TT) (hd1 : 1 ≤ d) (hrm : (st.map fun v => v.category).sum ≤ 80)
    (h : SW own cc nL ret d ι b (pc + 3) lv (.int (if x < y then y else x) :: st) u M) : SW own cc nL ret d ι b pc lv (.int y :: .int x :: st) u M :=
  fun hM p l e s m args below meth c H locs ls G hC hP hS hl => va_mmax hC.1 hC.2.1 (hC.2.2.1.trans hl.1.symm) hC.2.2.2.2.1 (hC.2.2.2.2.2.1 _ hm) (hC.2.2.2.2.2.1 _ h1) (hC.2.2.2.2.2.1 _ h2) (hC.2.2.2.2.2.1 _ h3) hd1 (by show _ ≤ 100 * d; omega) (Nat.le_refl _) (Nat.le_refl _) hd (h hM p l e s m args below meth c H locs ls G hC hP hS hl)
/-- arraycopy of a whole row of the same length, from 0 to 0 -/
def q_cp (f g : Nat → Int32) (n : Nat) : Nat → Int32 := va_cpy f g 0 0 n
theorem sw_copy {idx a0 a n : Nat} {nI : Int32} {K : qS → qR} (hd : decode cc pc = .ok (.invokestatic idx, 3)) (hm : Cond.methodLink own idx arraycopyName ∈ q_TT) (h1 : Cond.native arraycopyName ∈ q_TT) (h2 : Cond.static arraycopyName ∈ q_TT) (h3 : Cond.initialized "java/lang/System" ∈ q_TT) (hs0 : q_ce ι a0 (.inr (0, n))) (hs : q_ce ι a (.inr (0, n))) (hn : nI.toNatClampNeg = n) (hn0 : ¬ nI < 0) (hd1 : 1 ≤ d) (hrm : (st.map fun v => v.category).sum + (nativeFrameWords "java/lang/System" "arraycopy" 5 + 11) ≤ 100)
    (h : ∀ u', SW own cc nL ret d ι b (pc + 3) lv st u' (K u')) : SW own cc nL ret d ι b pc lv (.int nI :: .int 0 :: .ref (b + a) :: .int 0 :: .ref (b + a0) :: st) u (q_let (q_st u a (q_cp (u.1 a0) (u.1 a) n)) K) :=
  fun hM p l e s m args below meth c H locs ls G hC hP hS hl => va_copyi hC.1 hC.2.1 (hC.2.2.1.trans hl.1.symm) hC.2.2.2.2.1 (hC.2.2.2.2.2.1 _ hm) (hC.2.2.2.2.2.1 _ h1) (hC.2.2.2.2.2.1 _ h2) (hC.2.2.2.2.2.1 _ h3) hC.2.2.2.2.2.2.2.1.1 hP q_D hS a0 a 0 0 (q_at hs0.1) (q_at hs.1) rfl rfl rfl (by decide) (by decide) hn0 (by rw [hn]; exact Nat.le_of_eq (Nat.zero_add _)) (by rw [hn]; exact Nat.le_of_eq (Nat.zero_add _)) (fun _ _ => rfl) hd1 (by show _ ≤ 100 * d; omega) hd (fun H1 locs1 hP1 _ hS1 =>
      h _ hM p l e s m args below meth c H1 locs1 ls G hC (by
        rw [q_arr hs.1] at hP1
        have e1 : q_st (ι.1 u) a (va_cpy ((ι.1 u).1 a0) ((ι.1 u).1 a) (0 : Int32).toNatClampNeg (0 : Int32).toNatClampNeg nI.toNatClampNeg) = ι.1 (q_st u a (q_cp (u.1 a0) (u.1 a) n)) := by
          rw [hs0.2.1, hs.2.1, hs.2.2, hn]; rfl
        rw [e1] at hP1
        exact hP1) hS1 hl)
end Rows
