/-! CONSTRUCTORS: the cells as they are made -/
def n_wl (b : Nat) (E : List va_E) : va_W := E.mapIdx (fun k e => (b + k, e))
def n_Rm (d mc ms : Nat) : Room := { frames := d, cells := mc, slots := ms, locals := 100 * d }
def n_P (G : qG) (b : Nat) (E : List va_E) (H : Heap) : Prop := va_P G.1 vwCl (n_wl b E) H ∧ H.size = b + E.length
def n_Q (G : qG) (b : Nat) (E : List va_E) : Array Value → State → Outcome → State → Prop := va_Qv (fun _ : Unit => True) (fun _ t => n_P G b E t.heap) (q_A b)
def n_Cx (own : String) (cc : ByteArray) (nL : Nat) (b : Nat) (G : qG) (p : Program) (s : State) (m : MethodId) (args : Array Value) (meth : Method) (c : Code) : Prop :=
  p.tables.exec = Jvm.exec ∧ c.code = cc ∧ c.maxLocals = nL ∧ meth.sig.returnType = none ∧ s.vm.findClass own = some m.cls ∧ (∀ w ∈ q_TT, w.before args s = true) ∧ meth.locks = false ∧ q_K G s ∧ meth.name = "<init>" ∧ b ≤ s.heap.size ∧ (Cond.arrayOver (.object RX0)).before args s = true
/-- the walk of a constructor: X, the cells that it has made and filled so far, behind P -/
def SN (own : String) (cc : ByteArray) (nL d mc ms : Nat) (G : qG) (b : Nat) (P : List va_E) (pc : Nat) (lv : List (Nat × Value)) (st : List Value) (cn sn : Nat) (X X' : List va_E) : Prop :=
  ∀ (p : Program) (l : Launch) (e : Env) (s : State) (m : MethodId) (args : Array Value) (below : List Frame) (meth : Method) (c : Code) (H : Heap) (locs : List Loc) (ls : Array Slot),
    n_Cx own cc nL b G p s m args meth c → n_P G b (P ++ X) H → va_S (q_A b) s.heap H locs → lv_has ls nL lv →
    W p l e (n_Rm d mc ms) s m args below meth c H locs cn sn (MQ below (n_Q G b (P ++ X')) args s mc ms (q_A b)) (F0 m pc ls st)
def NC (l : Launch) (y : MethodName) (cc : ByteArray) (nL d mc ms : Nat) (G : qG) (b : Nat) (av : List Value) (E E' : List va_E) : Prop :=
  Met l y (.code y cc nL none :: q_TT) (n_Rm d mc ms) (va_Pc av (fun U => q_K G U ∧ n_P G b E U.heap ∧ b ≤ U.heap.size ∧ va_AO RX0 U)) (n_Q G b E') mc ms (q_A b)
theorem n_get {b : Nat} {E : List va_E} {k : Nat} {e : va_E} (h : E[k]? = some e) : (n_wl b E)[k]? = some (b + k, e) := by
  rw [n_wl, List.getElem?_mapIdx, h]; rfl
theorem n_set {b : Nat} {E : List va_E} {k : Nat} {e : va_E} : (n_wl b E).set k (b + k, e) = n_wl b (E.set k e) := by
  refine List.ext_getElem? fun i => ?_
  rw [List.getElem?_set, n_wl, n_wl, List.getElem?_mapIdx, List.getElem?_mapIdx, List.getElem?_set, List.length_mapIdx]
  by_cases hi : k = i
  · subst hi
    rw [if_pos rfl, if_pos rfl]
    by_cases hl : k < E.length
    · rw [if_pos hl, if_pos hl]; rfl
    · rw [if_neg hl, if_neg hl]; rfl
  · rw [if_neg hi, if_neg hi]
theorem n_push {b : Nat} {E : List va_E} {e : va_E} : n_wl b E ++ [(b + E.length, e)] = n_wl b (E ++ [e]) := by
  simp [n_wl, List.mapIdx_append]
theorem n_D {b : Nat} {E : List va_E} : va_D (q_A b) (n_wl b E) := by
  refine ⟨fun i j p q hp hq e => ?_, fun k q h => ?_⟩
  · rw [n_wl, List.getElem?_mapIdx] at hp hq
    obtain ⟨d1, -, h1⟩ := Option.map_eq_some_iff.mp hp
    obtain ⟨d2, -, h2⟩ := Option.map_eq_some_iff.mp hq
    subst h1; subst h2
    exact Nat.add_left_cancel e
  · rw [n_wl, List.getElem?_mapIdx] at h
    obtain ⟨d1, -, h1⟩ := Option.map_eq_some_iff.mp h
    subst h1
    exact Nat.le_add_right _ _
theorem n_at {P X : List va_E} {i : Nat} {e : va_E} (h : X[i]? = some e) : (P ++ X)[P.length + i]? = some e := by
  rw [List.getElem?_append_right (Nat.le_add_right _ _), Nat.add_sub_cancel_left, h]
theorem n_st {P X : List va_E} {i : Nat} {e : va_E} : (P ++ X).set (P.length + i) e = P ++ X.set i e := by
  rw [List.set_append_right _ _ (Nat.le_add_right _ _), Nat.add_sub_cancel_left]
section NRows
variable {own : String} {cc : ByteArray} {nL d mc ms : Nat} {G : qG} {b : Nat} {P : List va_E} {pc : Nat} {lv : List (Nat × Value)} {st : List Value} {cn sn : Nat} {X X' : List va_E}
theorem SN.st1 {pc' : Nat} {st' : List Value} (hrow : ∀ {p : Program} {l : Launch} {e : Env} {R : Room} {s : State} {m : MethodId} {args : Array Value} {below : List Frame} {meth : Method} {c : Code} {H : Heap} {locs : List Loc} {cells slots : Nat} {Q : State → Prop} {ls : Array Slot}, p.tables.exec = Jvm.exec → c.code = cc → lv_has ls nL lv → W p l e R s m args below meth c H locs cells slots Q (F0 m pc' ls st') → W p l e R s m args below meth c H locs cells slots Q (F0 m pc ls st))
    (h : SN own cc nL d mc ms G b P pc' lv st' cn sn X X') : SN own cc nL d mc ms G b P pc lv st cn sn X X' :=
  fun p l e s m args below meth c H locs ls hC hP hS hl => hrow hC.1 hC.2.1 hl (h p l e s m args below meth c H locs ls hC hP hS hl)
theorem SN.st2 {pc' : Nat} {st' : List Value} {lv' : List (Nat × Value)} (hrow : ∀ {p : Program} {l : Launch} {e : Env} {R : Room} {s : State} {m : MethodId} {args : Array Value} {below : List Frame} {meth : Method} {c : Code} {H : Heap} {locs : List Loc} {cells slots : Nat} {Q : State → Prop} {ls : Array Slot}, p.tables.exec = Jvm.exec → c.code = cc → lv_has ls nL lv → (∀ ls' : Array Slot, lv_has ls' nL lv' → W p l e R s m args below meth c H locs cells slots Q (F0 m pc' ls' st')) → W p l e R s m args below meth c H locs cells slots Q (F0 m pc ls st))
    (h : SN own cc nL d mc ms G b P pc' lv' st' cn sn X X') : SN own cc nL d mc ms G b P pc lv st cn sn X X' :=
  fun p l e s m args below meth c H locs ls hC hP hS hl => hrow hC.1 hC.2.1 hl (fun ls' hl' => h p l e s m args below meth c H locs ls' hC hP hS hl')
theorem sn_iconst {n : Int} (v : Int32) (hd : decode cc pc = .ok (.iconst n, 1)) (hv : Int32.ofInt n = v) (h : SN own cc nL d mc ms G b P (pc + 1) lv (.int v :: st) cn sn X X') : SN own cc nL d mc ms G b P pc lv st cn sn X X' := SN.st1 (fun hx hb _ k => lv_iconst hx hb hd hv k) h
theorem sn_bipush {n : Int} (v : Int32) (hd : decode cc pc = .ok (.bipush n, 2)) (hv : (Int8.ofInt n).toInt32 = v) (h : SN own cc nL d mc ms G b P (pc + 2) lv (.int v :: st) cn sn X X') : SN own cc nL d mc ms G b P pc lv st cn sn X X' := SN.st1 (fun hx hb _ k => lv_bipush hx hb hd hv k) h
theorem sn_sipush {n : Int} (v : Int32) (hd : decode cc pc = .ok (.sipush n, 3)) (hv : (Int16.ofInt n).toInt32 = v) (h : SN own cc nL d mc ms G b P (pc + 3) lv (.int v :: st) cn sn X X') : SN own cc nL d mc ms G b P pc lv st cn sn X X' := SN.st1 (fun hx hb _ k => lv_sipush hx hb hd hv k) h
theorem sn_aload_n (q : Nat) {k : Fin 4} {i : Nat} {x : Nat} (hd : decode cc pc = .ok (.aload_n k, 1)) (hi : (k : Nat) = i) (hk : lv[q]? = some (i, .ref x)) (h : SN own cc nL d mc ms G b P (pc + 1) lv (.ref x :: st) cn sn X X') : SN own cc nL d mc ms G b P pc lv st cn sn X X' := SN.st1 (fun hx hb hl k => lv_aload_n hx hb hd hi (lv_at hl q hk) k) h
theorem sn_iload_n (q : Nat) {k : Fin 4} {i : Nat} {x : Int32} (hd : decode cc pc = .ok (.iload_n k, 1)) (hi : (k : Nat) = i) (hk : lv[q]? = some (i, .int x)) (h : SN own cc nL d mc ms G b P (pc + 1) lv (.int x :: st) cn sn X X') : SN own cc nL d mc ms G b P pc lv st cn sn X X' := SN.st1 (fun hx hb hl k => lv_iload_n hx hb hd hi (lv_at hl q hk) k) h
theorem sn_istore_n {k : Fin 4} {i : Nat} {x : Int32} {lv' : List (Nat × Value)} (hd : decode cc pc = .ok (.istore_n k, 1)) (hi : (k : Nat) = i) (hn : i < nL) (hl : (i, Value.int x) :: lv.filter (fun q => !(q.1 == i) && !(q.1 + 1 == i && q.2.category == 2)) = lv') (h : SN own cc nL d mc ms G b P (pc + 1) lv' st cn sn X X') : SN own cc nL d mc ms G b P pc lv (.int x :: st) cn sn X X' := SN.st2 (fun hx hb h' k => lv_istore_n hx hb hd hi h' hn hl k) h
theorem sn_iinc (q : Nat) {i : Nat} {n : Int} {x : Int32} (v : Int32) {lv' : List (Nat × Value)} (hd : decode cc pc = .ok (.iinc i n, 3)) (hk : lv[q]? = some (i, .int x)) (hv : x + Int32.ofInt n = v) (hn : i < nL) (hl : (i, Value.int v) :: lv.filter (fun q => !(q.1 == i) && !(q.1 + 1 == i && q.2.category == 2)) = lv') (h : SN own cc nL d mc ms G b P (pc + 3) lv' st cn sn X X') : SN own cc nL d mc ms G b P pc lv st cn sn X X' := SN.st2 (fun hx hb h' k => lv_iinc hx hb hd h' hk hv hn hl k) h
theorem sn_dup {va : Value} (hd : decode cc pc = .ok (.dup, 1)) (hva : va.category = 1) (h : SN own cc nL d mc ms G b P (pc + 1) lv (va :: va :: st) cn sn X X') : SN own cc nL d mc ms G b P pc lv (va :: st) cn sn X X' := SN.st1 (fun hx hb _ k => lv_dup hx hb hd hva k) h
theorem sn_goto {off : Int} (tgt : Nat) (hd : decode cc pc = .ok (.goto off, 3)) (ht : (pc : Int) + off = (tgt : Int)) (h : SN own cc nL d mc ms G b P tgt lv st cn sn X X') : SN own cc nL d mc ms G b P pc lv st cn sn X X' := SN.st1 (fun hx hb _ k => lv_goto hx hb hd ht k) h
theorem sn_geT {x y : Int32} {off : Int} (tgt : Nat) (hd : decode cc pc = .ok (.if_icmp .ge off, 3)) (ht : (pc : Int) + off = (tgt : Int)) (hc : y ≤ x) (h : SN own cc nL d mc ms G b P tgt lv st cn sn X X') : SN own cc nL d mc ms G b P pc lv (.int y :: .int x :: st) cn sn X X' := SN.st1 (fun hx hb _ k => lv_icmp_ge hx hb hd ht (fun _ => k) (fun q => absurd hc q)) h
theorem sn_geF {x y : Int32} {off : Int} (tgt : Nat) (hd : decode cc pc = .ok (.if_icmp .ge off, 3)) (ht : (pc : Int) + off = (tgt : Int)) (hc : ¬ y ≤ x) (h : SN own cc nL d mc ms G b P (pc + 3) lv st cn sn X X') : SN own cc nL d mc ms G b P pc lv (.int y :: .int x :: st) cn sn X X' := SN.st1 (fun hx hb _ k => lv_icmp_ge hx hb hd ht (fun q => absurd q hc) (fun _ => k)) h
theorem sn_obj {idx a : Nat} (hd : decode cc pc = .ok (.invokespecial idx, 3)) (hm : Cond.methodLink own idx objectInit ∈ q_TT) (hi : Cond.instanceMethod objectInit ∈ q_TT) (hc : Cond.code objectInit ⟨#[0xb1]⟩ 1 none ∈ q_TT) (hd1 : 1 ≤ d) (h : SN own cc nL d mc ms G b P (pc + 3) lv [] cn sn X X') : SN own cc nL d mc ms G b P pc lv [.ref a] cn sn X X' :=
  fun p l e s m args below meth c H locs ls hC hP hS hl => W.objInit hC.1 hC.2.1 hC.2.2.2.2.1 (hC.2.2.2.2.2.1 _ hm) (hC.2.2.2.2.2.1 _ hi) (hC.2.2.2.2.2.1 _ hc) rfl (by rw [hC.2.2.1]; exact hl.1) rfl hd hd1 (by show _ ≤ 100 * d; simp only [List.map_nil, List.sum_nil]; omega) (h p l e s m args below meth c H locs ls hC hP hS hl)
theorem sn_vret (hd : decode cc pc = .ok (.return_, 1)) : SN own cc nL d mc ms G b P pc lv [] mc ms X X :=
  fun p l e s m args below meth c H locs ls hC hP hS hl => W.vret hC.1 hC.2.1 hC.2.2.2.1 (fun t ht hW => ⟨⟨(), rfl, trivial, by show n_P _ _ _ _; rw [ht]; exact hP⟩, hS.F ht⟩) hS.2.2 hd hC.2.2.2.2.2.2.1
theorem sn_new (kX : Nat) (hkX : X.length = kX) {ci : Nat} {C : String} {T : u_T} {N : Nat} {ty0 : Nat → FieldType} (hcl : q_Cl ci C T N ty0) {idx : Nat} {fs : List Value} (hd : decode cc pc = .ok (.new idx, 3)) (h1 : Cond.classLink own idx C ∈ q_TT) (h2 : Cond.instantiable C N ∈ q_TT) (h3 : Cond.initialized C ∈ q_TT) (hfs : ∀ j, j < N → defaultValue (ty0 j) = vp_V fs j) (hc : cn + 1 ≤ mc) (hs : sn + N ≤ ms)
    (h : SN own cc nL d mc ms G b P (pc + 3) lv (.ref (b + (P.length + kX)) :: st) (cn + 1) (sn + N) (X ++ [.inr (ci, fs)]) X') : SN own cc nL d mc ms G b P pc lv st cn sn X X' := by
  subst hkX
  intro p l e s m args below meth c H locs ls hC hP hS hl
  have hC0 := hC
  obtain ⟨hx, hb, hml, hr0, hown, hts, hlk, hK, hnm, hbs, hov⟩ := hC
  have hKn := hK.1.1 ci _ hcl.1
  have hsz : H.size = b + (P.length + X.length) := by rw [hP.2, List.length_append]
  refine W.newcK hx hb hown (hts _ h1) (hts _ h2) (hts _ h3) rfl hd hc hs hKn.2.1 hsz fun H1 kC hkC e1 z1 o1 => ?_
  have hk : ∀ (k : Nat) (x : Nat × va_E), (n_wl b (P ++ X))[k]? = some x → H1[x.1]? = H[x.1]? := fun k x hx => o1 x.1 (by have := (hP.1 k x hx).lt; omega)
  refine h p l e s m args below meth c H1 locs ls hC0 ⟨?_, ?_⟩ ⟨Nat.le_trans hS.1 (by omega), fun x g1 g2 => (o1 x (by have := hS.1; omega)).trans (hS.2.1 x g1 g2), hS.2.2⟩ hl
  · have hn := n_push (b := b) (E := P ++ X) (e := .inr (ci, fs))
    rw [← List.append_assoc, ← hn]
    refine (hP.1.kept hk).app (fun k x hx => ?_)
    have hz : k < 1 := (List.getElem?_eq_some_iff.mp hx).1
    rw [show k = 0 by omega] at hx
    cases hx
    refine ⟨_, hcl.1, ?_⟩
    have := (u_born ty0 hts hcl.2.1 hKn hkC e1 hcl.2.2.1).to hfs
    rw [List.length_append]
    exact this
  · rw [z1, ← List.append_assoc, List.length_append, List.length_append]; simp only [List.length_cons, List.length_nil]; omega
theorem sn_newi (kX : Nat) (hkX : X.length = kX) {n : Int32} {N : Nat} (hd : decode cc pc = .ok (.newarray .int, 2)) (ha : Cond.arrayClass .int ∈ q_TT) (hn : ¬ n < 0) (hN : n.toNatClampNeg = N) (hbytes : N * componentBytes .int ≤ 536870912) (hc : cn + 1 ≤ mc) (hs : sn + N ≤ ms)
    (h : SN own cc nL d mc ms G b P (pc + 2) lv (.ref (b + (P.length + kX)) :: st) (cn + 1) (sn + N) (X ++ [.inl (G.2.1, N, .inl (fun _ => 0))]) X') : SN own cc nL d mc ms G b P pc lv (.int n :: st) cn sn X X' := by
  subst hkX
  intro p l e s m args below meth c H locs ls hC hP hS hl
  have hC0 := hC
  obtain ⟨hx, hb, hml, hr0, hown, hts, hlk, hK, hnm, hbs, hov⟩ := hC
  have hsz : H.size = b + (P.length + X.length) := by rw [hP.2, List.length_append]
  refine va_newaK (atype := .int) hx hb (hts _ ha) rfl hd rfl hn hN hbytes hc hs hsz fun H1 cA e1 z1 o1 hAr hNm => ?_
  have hcA : cA = G.2.1 := by
    have h2 := (hK.1.2 0 _ rfl).2
    exact Option.some.inj (hNm.symm.trans h2)
  subst hcA
  have hk : ∀ (k : Nat) (x : Nat × va_E), (n_wl b (P ++ X))[k]? = some x → H1[x.1]? = H[x.1]? := fun k x hx => o1 x.1 (by have := (hP.1 k x hx).lt; omega)
  refine h p l e s m args below meth c H1 locs ls hC0 ⟨?_, ?_⟩ ⟨Nat.le_trans hS.1 (by omega), fun x g1 g2 => (o1 x (by have := hS.1; omega)).trans (hS.2.1 x g1 g2), hS.2.2⟩ hl
  · have hn := n_push (b := b) (E := P ++ X) (e := .inl (G.2.1, N, .inl (fun _ => 0)))
    rw [← List.append_assoc, ← hn]
    refine (hP.1.kept hk).app (fun k x hx => ?_)
    have hz : k < 1 := (List.getElem?_eq_some_iff.mp hx).1
    rw [show k = 0 by omega] at hx
    cases hx
    show H1[b + (P ++ X).length]? = some (vp_cell _ _)
    rw [List.length_append, e1, vp_cell_i]
    rfl
  · rw [z1, ← List.append_assoc, List.length_append, List.length_append]; simp only [List.length_cons, List.length_nil]; omega
theorem sn_newl (kX : Nat) (hkX : X.length = kX) {n : Int32} {N : Nat} (hd : decode cc pc = .ok (.newarray .long, 2)) (ha : Cond.arrayClass .long ∈ q_TT) (hn : ¬ n < 0) (hN : n.toNatClampNeg = N) (hbytes : N * componentBytes .long ≤ 536870912) (hc : cn + 1 ≤ mc) (hs : sn + N ≤ ms)
    (h : SN own cc nL d mc ms G b P (pc + 2) lv (.ref (b + (P.length + kX)) :: st) (cn + 1) (sn + N) (X ++ [.inl (G.2.2.1, N, .inr (.inl (fun _ => 0)))]) X') : SN own cc nL d mc ms G b P pc lv (.int n :: st) cn sn X X' := by
  subst hkX
  intro p l e s m args below meth c H locs ls hC hP hS hl
  have hC0 := hC
  obtain ⟨hx, hb, hml, hr0, hown, hts, hlk, hK, hnm, hbs, hov⟩ := hC
  have hsz : H.size = b + (P.length + X.length) := by rw [hP.2, List.length_append]
  refine va_newaK (atype := .long) hx hb (hts _ ha) rfl hd rfl hn hN hbytes hc hs hsz fun H1 cA e1 z1 o1 hAr hNm => ?_
  have hcA : cA = G.2.2.1 := by
    have h2 := (hK.1.2 1 _ rfl).2
    exact Option.some.inj (hNm.symm.trans h2)
  subst hcA
  have hk : ∀ (k : Nat) (x : Nat × va_E), (n_wl b (P ++ X))[k]? = some x → H1[x.1]? = H[x.1]? := fun k x hx => o1 x.1 (by have := (hP.1 k x hx).lt; omega)
  refine h p l e s m args below meth c H1 locs ls hC0 ⟨?_, ?_⟩ ⟨Nat.le_trans hS.1 (by omega), fun x g1 g2 => (o1 x (by have := hS.1; omega)).trans (hS.2.1 x g1 g2), hS.2.2⟩ hl
  · have hn := n_push (b := b) (E := P ++ X) (e := .inl (G.2.2.1, N, .inr (.inl (fun _ => 0))))
    rw [← List.append_assoc, ← hn]
    refine (hP.1.kept hk).app (fun k x hx => ?_)
    have hz : k < 1 := (List.getElem?_eq_some_iff.mp hx).1
    rw [show k = 0 by omega] at hx
    cases hx
    show H1[b + (P ++ X).length]? = some (vp_cell _ _)
    rw [List.length_append, e1, vp_cell_l]
    rfl
  · rw [z1, ← List.append_assoc, List.length_append, List.length_append]; simp only [List.length_cons, List.length_nil]; omega
theorem sn_newq (kX : Nat) (hkX : X.length = kX) {idx : Nat} {n : Int32} {N : Nat} (hd : decode cc pc = .ok (.anewarray idx, 3)) (h1 : Cond.classLink own idx RX0 ∈ q_TT) (hn : ¬ n < 0) (hN : n.toNatClampNeg = N) (hbytes : N * 4 ≤ 536870912) (hc : cn + 1 ≤ mc) (hs : sn + N ≤ ms)
    (h : SN own cc nL d mc ms G b P (pc + 3) lv (.ref (b + (P.length + kX)) :: st) (cn + 1) (sn + N) (X ++ [.inl (G.2.2.2, N, .inr (.inr (.inr (.inr (fun _ => none)))))]) X') : SN own cc nL d mc ms G b P pc lv (.int n :: st) cn sn X X' := by
  subst hkX
  intro p l e s m args below meth c H locs ls hC hP hS hl
  have hC0 := hC
  obtain ⟨hx, hb, hml, hr0, hown, hts, hlk, hK, hnm, hbs, hov⟩ := hC
  have hsz : H.size = b + (P.length + X.length) := by rw [hP.2, List.length_append]
  subst hN
  refine W.anew hx hb hown (hts _ h1) hov rfl hd rfl hn hbytes hc hs fun cA kA comp f1 f2 f3 f4 => ?_
  have hcA : cA = G.2.2.2 := by
    obtain ⟨kA', comp', -, -, -, g4⟩ := (hK.1.2 2 _ rfl).2
    exact Option.some.inj (f1.symm.trans g4)
  subst hcA
  generalize hH1 : H.push ({ cls := G.2.2.2, slots := Array.replicate n.toNatClampNeg .null, vm := .none } : Cell) = H1
  have z1 : H1.size = H.size + 1 := by rw [← hH1, Array.size_push]
  have e1 : H1[H.size]? = some (arrV G.2.2.2 n.toNatClampNeg (fun _ => .null)) := by rw [← hH1, Array.getElem?_push_size, ← arrV_new]
  have o1 : ∀ q : Nat, q < H.size → H1[q]? = H[q]? := fun q hq => by rw [← hH1, Array.getElem?_push, if_neg (Nat.ne_of_lt hq)]
  have hk : ∀ (k : Nat) (x : Nat × va_E), (n_wl b (P ++ X))[k]? = some x → H1[x.1]? = H[x.1]? := fun k x hx => o1 x.1 ((hP.1 k x hx).lt)
  rw [hsz] at e1 ⊢
  refine h p l e s m args below meth c H1 locs ls hC0 ⟨?_, ?_⟩ ⟨Nat.le_trans hS.1 (by omega), fun x g1 g2 => (o1 x (by have := hS.1; omega)).trans (hS.2.1 x g1 g2), hS.2.2⟩ hl
  · have hn := n_push (b := b) (E := P ++ X) (e := .inl (G.2.2.2, n.toNatClampNeg, .inr (.inr (.inr (.inr (fun _ => none))))))
    rw [← List.append_assoc, ← hn]
    refine (hP.1.kept hk).app (fun k x hx => ?_)
    have hz : k < 1 := (List.getElem?_eq_some_iff.mp hx).1
    rw [show k = 0 by omega] at hx
    cases hx
    show H1[b + (P ++ X).length]? = some (vp_cell _ _)
    rw [List.length_append, e1, vp_cell_q]
    rfl
  · rw [z1, ← List.append_assoc, List.length_append, List.length_append, hsz]; simp only [List.length_cons, List.length_nil]; omega
theorem sn_put {ci : Nat} {C : String} {T : u_T} {N : Nat} {ty0 : Nat → FieldType} {ty : FieldType} {v : Value} (hcl : q_Cl ci C T N ty0) {idx i : Nat} (j : Nat) {fs : List Value} {X1 : List va_E} (hn : narrow ty v = v) (hfit : fits ty v = true) (hd : decode cc pc = .ok (.putfield idx, 3)) (hlk : Cond.fieldLink own idx (T j).1 (T j).2.1 (T j).2.2.1 ∈ q_TT) (hj : j < N) (hty : parseFieldDescriptor (T j).2.2.1 = some ty) (hdecl : (T j).1 = own) (hs : X[i]? = some (.inr (ci, fs))) (hl : j < fs.length) (hX : X.set i (.inr (ci, fs.set j v)) = X1)
    (h : SN own cc nL d mc ms G b P (pc + 3) lv st cn sn X1 X') : SN own cc nL d mc ms G b P pc lv (v :: .ref (b + (P.length + i)) :: st) cn sn X X' := by
  intro p l e s m args below meth c H locs ls hC hP hS hl'
  have hC0 := hC
  obtain ⟨hx, hb, hml, hr0, hown, hts, hlk', hK, hnm, hbs, hov⟩ := hC
  have key : ∀ (H1 : Heap) (locs1 : List Loc), va_P G.1 vwCl ((n_wl b (P ++ X)).set (P.length + i) (b + (P.length + i), .inr (ci, fs.set j v))) H1 → H1.size = H.size → va_S (q_A b) s.heap H1 locs1 → W p l e (n_Rm d mc ms) s m args below meth c H1 locs1 cn sn (MQ below (n_Q G b (P ++ X')) args s mc ms (q_A b)) (F0 m (pc + 3) ls st) := by
    intro H1 locs1 hP1 hz hS1
    rw [n_set, n_st, hX] at hP1
    exact h p l e s m args below meth c H1 locs1 ls hC0 ⟨hP1, by rw [hz, hP.2, List.length_append, List.length_append, ← hX, List.length_set]⟩ hS1 hl'
  have hap := va_apart (own := own) hts hcl.2.1 ty0 hcl.2.2.1 hcl.2.2.2 hK.1 hcl.1
  have he := n_get (b := b) (n_at (P := P) hs)
  obtain ⟨r, h1, cell, q1, q2, q3, q4⟩ := hP.1 _ _ he
  have hr : r = (C, T, N) := Option.some.inj (h1.symm.trans hcl.1)
  subst hr
  obtain ⟨hSl, hfc, kC, hkC, hkind⟩ := hK.1.1 ci _ hcl.1
  obtain ⟨cf, kf, fi, f, hi, hsl⟩ := hSl j hj
  have hst := (u_facts hfc hkC (u_lays hts hcl.2.1 hj) hi).1
  have hlay := hts _ (hcl.2.1 _ (u_in_lay hj))
  unfold u_lay at hlay
  by_cases hfin : (T j).2.2.2 = true
  · rw [if_pos hfin] at hlay
    have hcf : m.cls = cf := by
      obtain ⟨_, _, c', _, _, _, -, -, hf', -, -, -, hown2, -⟩ := Cond.laysFinal_spec hlay
      have e1 : c' = cf := by have := hi.symm.trans hf'; simp at this; exact this.1.symm
      rw [hdecl] at hown2
      rw [← e1]; exact Option.some.inj (hown.symm.trans hown2)
    have h6 := u_fits hfc hkC hkind (Or.inr hlay) hi hty hn hfit
    refine W.putFinK hx hb hown (hts _ hlk) hi hst hcf hnm (by rw [q2]; exact h6) q1 q3 (by rw [hsl]; exact k2_hasslot (q4 j hj)) rfl rfl hd fun H' e1 e2 e3 => ?_
    rw [hsl] at e1 ⊢
    exact key H' _ (hP.1.set n_D he ⟨_, hcl.1, t_OB.to (V := updV (vp_V fs) j v) ⟨_, e1, q2, q3, t_set q4 hap hj v⟩ (fun z _ => vp_updV_set hl v z)⟩ e3) e2 (hS.put e2 e3 (Nat.le_add_right _ _))
  · rw [if_neg hfin] at hlay
    have h6 := u_store hfc hkC hkind hlay hi hty hn hfit
    refine W.putK hx hb (f := f) ⟨hown, hts _ hlk, ⟨_, _, _, hi⟩, hst⟩ (by rw [q2]; exact h6) q1 q3 (by rw [hsl]; exact k2_hasslot (q4 j hj)) rfl rfl hd fun H' e1 e2 e3 => ?_
    rw [hsl] at e1 ⊢
    exact key H' _ (hP.1.set n_D he ⟨_, hcl.1, t_OB.to (V := updV (vp_V fs) j v) ⟨_, e1, q2, q3, t_set q4 hap hj v⟩ (fun z _ => vp_updV_set hl v z)⟩ e3) e2 (hS.put e2 e3 (Nat.le_add_right _ _))
theorem sn_get {ci : Nat} {C : String} {T : u_T} {N : Nat} {ty0 : Nat → FieldType} (hcl : q_Cl ci C T N ty0) {idx i : Nat} (j : Nat) {fs : List Value} {v : Value} (hd : decode cc pc = .ok (.getfield idx, 3)) (hlk : Cond.fieldLink own idx (T j).1 (T j).2.1 (T j).2.2.1 ∈ q_TT) (hj : j < N) (hs : X[i]? = some (.inr (ci, fs))) (hv : fs[j]? = some v)
    (h : SN own cc nL d mc ms G b P (pc + 3) lv (v :: st) cn sn X X') : SN own cc nL d mc ms G b P pc lv (.ref (b + (P.length + i)) :: st) cn sn X X' :=
  fun p l e s m args below meth c H locs ls hC hP hS hl => va_get (v := v) hC.1 hC.2.1 hC.2.2.2.2.2.1 hcl.2.1 hC.2.2.2.2.1 hC.2.2.2.2.2.2.2.1.1 hP.1 _ (n_get (n_at hs)) hcl.1 j hj (hC.2.2.2.2.2.1 _ hlk) (fun _ h => h) hv hd (h p l e s m args below meth c H locs ls hC hP hS hl)
theorem sn_iast {i n : Nat} {x v : Int32} {f : Nat → Int32} {X1 : List va_E} (hd : decode cc pc = .ok (.iastore, 1)) (hs : X[i]? = some (.inl (G.2.1, n, .inl f))) (hin : vp_in x n) (hX : X.set i (.inl (G.2.1, n, .inl (upd f x.toNatClampNeg v))) = X1)
    (h : SN own cc nL d mc ms G b P (pc + 1) lv st cn sn X1 X') : SN own cc nL d mc ms G b P pc lv (.int v :: .int x :: .ref (b + (P.length + i)) :: st) cn sn X X' := by
  intro p l e s m args below meth c H locs ls hC hP hS hl
  have hC0 := hC
  obtain ⟨hx, hb, hml, hr0, hown, hts, hlk', hK, hnm, hbs, hov⟩ := hC
  have he := n_get (b := b) (n_at (P := P) hs)
  refine W.iast hx hb (hP.1 _ _ he) ((hK.1.2 0 _ rfl).1 n (fun j => .int (f j))) (fun q => by cases q) (by show ¬ (x < 0 ∨ (arrV _ _ _).slots.size ≤ _); rw [arrV_size]; exact hin) rfl rfl hd fun H1 e z oq => ?_
  have hP1 : va_P G.1 vwCl ((n_wl b (P ++ X)).set (P.length + i) (b + (P.length + i), .inl (G.2.1, n, .inl (upd f x.toNatClampNeg v)))) H1 := by
    refine hP.1.set n_D he ?_ oq
    show H1[b + (P.length + i)]? = some (vp_cell _ _)
    rw [e, vp_cell_i, vp_cell_i, arrV_store]
    congr 2
    funext q
    by_cases hq : q = x.toNatClampNeg
    · subst hq; simp [updV, upd]
    · simp [updV, upd, hq]
  rw [n_set, n_st, hX] at hP1
  exact h p l _ s m args below meth c H1 _ ls hC0 ⟨hP1, by rw [z, hP.2, List.length_append, List.length_append, ← hX, List.length_set]⟩ (hS.put z oq (Nat.le_add_right _ _)) hl
theorem sn_aast {i n k ci : Nat} {x : Int32} {f : Nat → Option Nat} {r : vw_C} {vs : List Value} {X1 : List va_E} (hd : decode cc pc = .ok (.aastore, 1)) (hs : X[i]? = some (.inl (G.2.2.2, n, .inr (.inr (.inr (.inr f)))))) (hk : X[k]? = some (.inr (ci, vs))) (hc : vwCl[ci]? = some r) (hr : r.1 = RX0) (hin : vp_in x n) (hX : X.set i (.inl (G.2.2.2, n, .inr (.inr (.inr (.inr (va_up f x.toNatClampNeg (some (b + (P.length + k)))))))))= X1)
    (h : SN own cc nL d mc ms G b P (pc + 1) lv st cn sn X1 X') : SN own cc nL d mc ms G b P pc lv (.ref (b + (P.length + k)) :: .int x :: .ref (b + (P.length + i)) :: st) cn sn X X' := by
  intro p l e s m args below meth c H locs ls hC hP hS hl
  have hC0 := hC
  obtain ⟨hx, hb, hml, hr0, hown, hts, hlk', hK, hnm, hbs, hov⟩ := hC
  have ha := n_get (b := b) (n_at (P := P) hs)
  have hv := n_get (b := b) (n_at (P := P) hk)
  have hlt : x.toNatClampNeg < n := Nat.not_le.mp fun q => hin (Or.inr q)
  have h0 : ¬ x < 0 := fun q => hin (Or.inl q)
  obtain ⟨r', hr', cellV, g1, g2, g3, -⟩ := hP.1 _ _ hv
  have hcls := (hK.1.1 ci r hc).2
  obtain ⟨kA, comp, k1, k2, k3, -⟩ := (hK.1.2 2 (G.2.2.2, .object RX0) rfl).2
  rw [hr] at hcls
  have hcomp : comp = G.1.1 ci := Option.some.inj (k3.symm.trans hcls.1)
  subst hcomp
  obtain ⟨kC, hkC, -⟩ := hcls.2
  refine W.aast hx hb (hP.1 _ _ ha) (fun q h => by cases h) (fun h => by cases h) k1 k2 rfl hkC ⟨h0, by show _ < (arrV _ _ _).slots.size; rw [arrV_size]; exact hlt⟩ g1 (fun q h => by rw [g3] at h; cases h) (by rw [g2]; exact hkC) (by rw [g2]; exact va_assign hcls) rfl rfl hd fun H1 e z oq => ?_
  have hP1 : va_P G.1 vwCl ((n_wl b (P ++ X)).set (P.length + i) (b + (P.length + i), .inl (G.2.2.2, n, .inr (.inr (.inr (.inr (va_up f x.toNatClampNeg (some (b + (P.length + k)))))))))) H1 := by
    refine hP.1.set n_D ha ?_ oq
    show H1[b + (P.length + i)]? = some (vp_cell _ _)
    rw [e, vp_cell_q, vp_cell_q, arrV_store]
    congr 2
    funext q
    by_cases hq : q = x.toNatClampNeg
    · subst hq; simp [updV, va_up, va_rf]
    · simp [updV, va_up, hq]
  rw [n_set, n_st, hX] at hP1
  exact h p l _ s m args below meth c H1 _ ls hC0 ⟨hP1, by rw [z, hP.2, List.length_append, List.length_append, ← hX, List.length_set]⟩ (hS.put z oq (Nat.le_add_right _ _)) hl
/-- a constructor's contract out of its walk: the object stands last -/
theorem NC.of_SN {l : Launch} {y : MethodName} {O : va_E} {av : List Value} (ho : y.cls = own) (hyn : y.name = "<init>") (hy : plainName own = true) (hn : (lg_sl av).length ≤ nL) (lv : List (Nat × Value)) (hlv : lv_args 0 av = lv)
    (h : SN own cc nL d mc ms G b P 0 lv [] 0 0 [O] X') : NC l y cc nL d mc ms G b av (P ++ [O]) (P ++ X') := by
  subst ho
  refine Met.ofW (cc := cc) (maxL := nL) (ret := none) hy rfl ?_
  intro p e s m args below meth c s₁ B hml hv
  obtain ⟨rfl, hK, hP, hbs, hov⟩ := hv
  have hts := atoms_spec (ws := .code y cc nL none :: q_TT) B.pre
  have hl := lv_entry av (n := nL) hn
  rw [lg_entry_eq]
  generalize (lg_sl av ++ List.replicate (nL - (lg_sl av).length) Slot.unset).toArray = ls at hl ⊢
  rw [hlv] at hl
  exact h p l e s m _ below meth c s.heap [] ls ⟨B.exec, B.bytes, hml, B.returns, findClass_of_methodNamed B.named, fun w hw => hts w (List.mem_cons_of_mem _ hw), B.notSynchronized, hK, (name_of_methodNamed B.named B.method).1.trans hyn, hbs, va_AO.use hov⟩ hP va_S.rf hl
/-- what the tables say of a constructor that is called -/
def n_Mf (y : MethodName) (cy : ByteArray) (ny n : Nat) : Prop := Cond.instanceMethod y ∈ q_TT ∧ Cond.initialized y.cls ∈ q_TT ∧ Cond.code y cy ny none ∈ q_TT ∧ y.name = "<init>" ∧ (y.cls ≠ "java/lang/invoke/MethodHandle" ∧ y.cls ≠ "java/lang/invoke/VarHandle" ∧ (parseMethodDescriptor y.desc).map (fun d => d.parameters.length) = some n) ∧ ny ≤ 80
theorem n_room {d' mc' ms' ny : Nat} (hr : d' + 1 ≤ d) (hn : ny ≤ 80) : (n_Rm d' mc' ms').frames + 1 ≤ (n_Rm d mc ms).frames ∧ 8 + (ny + 11) + (n_Rm d' mc' ms').locals ≤ (n_Rm d mc ms).locals := by
  unfold n_Rm; constructor <;> simp only <;> omega
theorem n_blind {av : List Value} {E : List va_E} : FrameBlind (va_Pc av (fun U => q_K G U ∧ n_P G b E U.heap ∧ b ≤ U.heap.size ∧ va_AO RX0 U)) := fun a U g mk q => ⟨q.1, q.2.1.call, q.2.2.1, q.2.2.2.1, va_AO.moved (u := U) (U := U.calling g mk a) (Vm.Alike.refl U.vm) q.2.2.2.2⟩
theorem n_AOw {s U : State} {args : Array Value} (hW : s.WarmedH U.vm) (h : (Cond.arrayOver (.object RX0)).before args s = true) : va_AO RX0 U := va_AO.moved hW.alike (va_AO.of h)
theorem sn_callN (kX : Nat) {y : MethodName} {cy : ByteArray} {ny d' mc' ms' idx : Nat} {host : String} {As st0 : List Value} {O : va_E} {X0 X1 : List va_E}
    (hkX : X0.length = kX) (hst : st0 = As.reverse ++ .ref (b + (P.length + kX)) :: st) (hX : X = X0 ++ [O]) (hd : decode cc pc = .ok (.invokespecial idx, 3)) (hm : Cond.methodLinkNest own idx y host ∈ q_nest) (hf : n_Mf y cy ny As.length) (hr : d' + 1 ≤ d) (hrm : (st.map fun v => v.category).sum ≤ 8) (hc : cn + mc' ≤ mc) (hs : sn + ms' ≤ ms)
    (hcn : ∀ l, NC l y cy ny d' mc' ms' G b (.ref (b + (P.length + kX)) :: As) ((P ++ X0) ++ [O]) ((P ++ X0) ++ X1)) (h : SN own cc nL d mc ms G b P (pc + 3) lv st (cn + mc') (sn + ms') (X0 ++ X1) X') : SN own cc nL d mc ms G b P pc lv st0 cn sn X X' := by
  subst hkX
  intro p l e s m args below meth c H locs ls hC hP hS hl
  have hC0 := hC
  obtain ⟨hx, hb, hml, hr0, hown, hts, hlk', hK, hnm, hbs, hov⟩ := hC
  rw [hX, ← List.append_assoc] at hP
  refine va_callv (va_runIN (As := As) (rest := st) ⟨hx, hb, hml, hown, hts⟩ (hcn l) ⟨va_cnB As.length hts (q_gC hf.2.2.1) rfl rfl rfl (hK.2 _ hm) (hts _ hf.2.1) hf.2.2.2.2.1 (n_room hr hf.2.2.2.2.2), hf.2.2.2.1, hts _ hf.1⟩ ⟨n_blind, fun U hU hW => ⟨rfl, hK.warm hW, by rw [hU]; exact hP, by rw [hU]; exact Nat.le_trans hbs hS.1, n_AOw hW hov⟩⟩ rfl rfl hl.1 hst (lv_room hrm) hd ⟨hc, hs⟩) hS (fun q _ h => h) (fun q h => h) (fun u' t H1 locs ht hvm hw hB hz1 hk1 hS => ?_)
  have hP1 : n_P G b (P ++ (X0 ++ X1)) H1 := by rw [← List.append_assoc, ← ht]; exact hB
  exact h p l e s m args below meth c H1 locs ls hC0 hP1 hS hl
theorem sn_callI (kX : Nat) {y : MethodName} {cy : ByteArray} {ny d' mc' ms' idx : Nat} {As st0 : List Value} {O : va_E} {X0 X1 : List va_E}
    (hkX : X0.length = kX) (hst : st0 = As.reverse ++ .ref (b + (P.length + kX)) :: st) (hX : X = X0 ++ [O]) (hd : decode cc pc = .ok (.invokespecial idx, 3)) (hm : Cond.methodLink own idx y ∈ q_TT) (hf : n_Mf y cy ny As.length) (hr : d' + 1 ≤ d) (hrm : (st.map fun v => v.category).sum ≤ 8) (hc : cn + mc' ≤ mc) (hs : sn + ms' ≤ ms)
    (hcn : ∀ l, NC l y cy ny d' mc' ms' G b (.ref (b + (P.length + kX)) :: As) ((P ++ X0) ++ [O]) ((P ++ X0) ++ X1)) (h : SN own cc nL d mc ms G b P (pc + 3) lv st (cn + mc') (sn + ms') (X0 ++ X1) X') : SN own cc nL d mc ms G b P pc lv st0 cn sn X X' := by
  subst hkX
  intro p l e s m args below meth c H locs ls hC hP hS hl
  have hC0 := hC
  obtain ⟨hx, hb, hml, hr0, hown, hts, hlk', hK, hnm, hbs, hov⟩ := hC
  rw [hX, ← List.append_assoc] at hP
  refine va_callv (va_runI (As := As) (rest := st) ⟨hx, hb, hml, hown, hts⟩ (hcn l) ⟨callB_of As.length hts (q_gC hf.2.2.1) rfl rfl rfl (hts _ hf.2.1) (hts _ hm) hf.2.2.2.2.1 (n_room hr hf.2.2.2.2.2), hf.2.2.2.1, hts _ hf.1⟩ ⟨n_blind, fun U hU hW => ⟨rfl, hK.warm hW, by rw [hU]; exact hP, by rw [hU]; exact Nat.le_trans hbs hS.1, n_AOw hW hov⟩⟩ rfl rfl hl.1 hst (lv_room hrm) hd ⟨hc, hs⟩) hS (fun q _ h => h) (fun q h => h) (fun u' t H1 locs ht hvm hw hB hz1 hk1 hS => ?_)
  have hP1 : n_P G b (P ++ (X0 ++ X1)) H1 := by rw [← List.append_assoc, ← ht]; exact hB
  exact h p l e s m args below meth c H1 locs ls hC0 hP1 hS hl
theorem SN.eq {X1 : List va_E} (e : X = X1) (h : SN own cc nL d mc ms G b P pc lv st cn sn X1 X') : SN own cc nL d mc ms G b P pc lv st cn sn X X' := e ▸ h
theorem SN.cnt {cn' sn' : Nat} (e1 : cn = cn') (e2 : sn = sn') (h : SN own cc nL d mc ms G b P pc lv st cn' sn' X X') : SN own cc nL d mc ms G b P pc lv st cn sn X X' := e1 ▸ e2 ▸ h
end NRows
def n_ar (l : List Int32) : Nat → Int32 := fun j => l.getD j 0
theorem n_arU {l : List Int32} {i : Nat} {v : Int32} (h : l.length = i) : upd (n_ar l) i v = n_ar (l ++ [v]) := by
  subst h
  funext j
  simp only [upd, n_ar, List.getD_eq_getElem?_getD, List.getElem?_append]
  by_cases h1 : j = l.length
  · subst h1; simp
  · rw [if_neg h1]
    by_cases h2 : j < l.length
    · rw [if_pos h2]
    · rw [if_neg h2, List.getElem?_eq_none (by omega), List.getElem?_eq_none (by simp; omega)]
theorem sn_iastL {own : String} {cc : ByteArray} {nL d mc ms : Nat} {G : qG} {b : Nat} {P : List va_E} {pc : Nat} {lv : List (Nat × Value)} {st : List Value} {cn sn : Nat} {A X' : List va_E} {k n : Nat} {x v : Int32} {l l1 : List Int32} (hA : A.length = k) (hd : decode cc pc = .ok (.iastore, 1)) (hx : l.length = x.toNatClampNeg) (hl : l ++ [v] = l1) (hin : vp_in x n)
    (h : SN own cc nL d mc ms G b P (pc + 1) lv st cn sn (A ++ [.inl (G.2.1, n, .inl (n_ar l1))]) X') : SN own cc nL d mc ms G b P pc lv (.int v :: .int x :: .ref (b + (P.length + k)) :: st) cn sn (A ++ [.inl (G.2.1, n, .inl (n_ar l))]) X' := by
  subst hA; subst hl
  refine sn_iast (f := n_ar l) hd (by rw [List.getElem?_append_right (Nat.le_refl _), Nat.sub_self]; rfl) hin (by rw [n_arU hx, List.set_append_right _ _ (Nat.le_refl _), Nat.sub_self]; rfl) h
