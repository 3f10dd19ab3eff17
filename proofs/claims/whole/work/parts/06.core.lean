/-! CORE: the world of all cells as one picture; the walk of a method against its model -/
def q_st (u : qS) (k : Nat) (f : Nat → Int32) : qS := (fun a => if a = k then f else u.1 a, u.2)
def q_up (u : qS) (k j : Nat) (v : Int32) : qS := q_st u k (upd (u.1 k) j v)
def q_sl (u : qS) (f : Nat → Int64) : qS := (u.1, f)
def q_fv (b : Nat) (f : Nat → Int32) (j : Nat) (o : Option Nat) : Value := match o with
  | none => .int (f j)
  | some r => .ref (b + r)
def q_en (G : qG) (b : Nat) (u : qS) (k : Nat) (d : qD) : va_E := match d with
  | .inl o => .inr (o.1, o.2.mapIdx (q_fv b (u.1 k)))
  | .inr (0, n) => .inl (G.2.1, n, .inl (u.1 k))
  | .inr (1, n) => .inl (G.2.2.1, n, .inr (.inl u.2))
  | .inr (_, n) => .inl (G.2.2.2, n, .inr (.inr (.inr (.inr (fun i => some (b + q_kp i))))))
def q_wl (G : qG) (b : Nat) (u : qS) : va_W := q_sh.mapIdx (fun k d => (b + k, q_en G b u k d))
def q_tys (G : qG) : List (ClassId × FieldType) := [(G.2.1, .int), (G.2.2.1, .long), (G.2.2.2, .object RX0)]
def q_P (G : qG) (b : Nat) (u : qS) (H : Heap) : Prop := va_P G.1 vwCl (q_wl G b u) H
theorem q_at {G : qG} {b : Nat} {u : qS} {k : Nat} {d : qD} (h : q_sh[k]? = some d) : (q_wl G b u)[k]? = some (b + k, q_en G b u k d) := by
  rw [q_wl, List.getElem?_mapIdx, h]; rfl
theorem q_D {G : qG} {b : Nat} {u : qS} : va_D (fun q => b ≤ q) (q_wl G b u) := by
  refine ⟨fun i j p q hp hq e => ?_, fun k q h => ?_⟩
  · rw [q_wl, List.getElem?_mapIdx] at hp hq
    obtain ⟨d1, -, h1⟩ := Option.map_eq_some_iff.mp hp
    obtain ⟨d2, -, h2⟩ := Option.map_eq_some_iff.mp hq
    subst h1; subst h2
    exact Nat.add_left_cancel e
  · rw [q_wl, List.getElem?_mapIdx] at h
    obtain ⟨d1, -, h1⟩ := Option.map_eq_some_iff.mp h
    subst h1
    exact Nat.le_add_right _ _
theorem q_st_1 {u : qS} {k : Nat} {f : Nat → Int32} : (q_st u k f).1 k = f := by simp [q_st]
theorem q_st_n {u : qS} {k a : Nat} {f : Nat → Int32} (h : a ≠ k) : (q_st u k f).1 a = u.1 a := by simp [q_st, h]
theorem q_en_n {G : qG} {b : Nat} {u v : qS} {k : Nat} {d : qD} (h1 : u.1 k = v.1 k) (h2 : u.2 = v.2) : q_en G b u k d = q_en G b v k d := by
  unfold q_en; rw [h1, h2]
theorem q_set {G : qG} {b : Nat} {u : qS} {k : Nat} {d : qD} {f : Nat → Int32} (h : q_sh[k]? = some d) : (q_wl G b u).set k (b + k, q_en G b (q_st u k f) k d) = q_wl G b (q_st u k f) := by
  refine List.ext_getElem? fun i => ?_
  rw [List.getElem?_set]
  by_cases hi : k = i
  · subst hi
    have hl : k < (q_wl G b u).length := by
      have := q_at (G := G) (b := b) (u := u) h
      exact (List.getElem?_eq_some_iff.mp this).1
    rw [if_pos rfl, if_pos hl, q_at h]
  · rw [if_neg hi, q_wl, q_wl, List.getElem?_mapIdx, List.getElem?_mapIdx]
    congr 1; funext d'
    rw [q_en_n (v := q_st u k f) (q_st_n (fun e => hi e.symm)).symm rfl]
theorem q_setL {G : qG} {b : Nat} {u : qS} {k n : Nat} {f : Nat → Int64} (h : q_sh[k]? = some (.inr (1, n))) (hu : ∀ (i m : Nat), q_sh[i]? = some (.inr (1, m)) → i = k) : (q_wl G b u).set k (b + k, q_en G b (q_sl u f) k (.inr (1, n))) = q_wl G b (q_sl u f) := by
  refine List.ext_getElem? fun i => ?_
  rw [List.getElem?_set]
  by_cases hi : k = i
  · subst hi
    have hl : k < (q_wl G b u).length := by
      have := q_at (G := G) (b := b) (u := u) h
      exact (List.getElem?_eq_some_iff.mp this).1
    rw [if_pos rfl, if_pos hl, q_at h]
  · rw [if_neg hi, q_wl, q_wl, List.getElem?_mapIdx, List.getElem?_mapIdx]
    cases hd : q_sh[i]? with
    | none => rfl
    | some d' =>
      simp only [Option.map_some]
      congr 2
      unfold q_en
      match d', hd with
      | .inl o, _ => rfl
      | .inr (0, m), _ => rfl
      | .inr (1, m), hd => exact absurd (hu i m hd).symm hi
      | .inr (m' + 2, m), _ => rfl
theorem q_fset {b : Nat} {f : Nat → Int32} {fl : List (Option Nat)} {j : Nat} {v : Int32} (h : fl[j]? = some none) : (fl.mapIdx (q_fv b f)).set j (.int v) = fl.mapIdx (q_fv b (upd f j v)) := by
  refine List.ext_getElem? fun i => ?_
  rw [List.getElem?_set, List.getElem?_mapIdx, List.getElem?_mapIdx]
  by_cases hi : j = i
  · subst hi
    have hl : j < (fl.mapIdx (q_fv b f)).length := by rw [List.length_mapIdx]; exact (List.getElem?_eq_some_iff.mp h).1
    rw [if_pos rfl, if_pos hl, h]
    simp [q_fv, upd]
  · rw [if_neg hi]
    congr 1; funext o
    cases o with
    | none => simp only [q_fv, upd, if_neg (fun e => hi (Eq.symm e) : ¬ i = j)]
    | some r => rfl
/-- a side of the world: how its own state stands in the whole -/
def q_ok (ι : qI) (k : Nat) : Prop := (∀ u, (ι.1 u).1 k = u.1 k) ∧ ∀ u f, q_st (ι.1 u) k f = ι.1 (q_st u k f)
def q_okl (ι : qI) : Prop := (∀ u, (ι.1 u).2 = u.2) ∧ ∀ u f, q_sl (ι.1 u) f = ι.1 (q_sl u f)
def q_ce (ι : qI) (k : Nat) (d : qD) : Prop := q_sh[k]? = some d ∧ q_ok ι k
def q_Nst (w : Cond) : Prop := (∃ a i x h, w = .methodLinkNest a i x h)
def q_K (G : qG) (U : State) : Prop := va_K G.1 vwCl (q_tys G) U ∧ ∀ w ∈ q_nest, va_Nw w U
theorem q_K.warm {G : qG} {s U : State} (hW : s.WarmedH U.vm) (h : q_K G s) : q_K G U := ⟨va_K.moved hW.alike h.1, fun w hw => by
  obtain ⟨a, i, x, hh, rfl⟩ := q_nest_ok w hw
  exact va_Nw.warmM hW (h.2 _ hw)⟩
theorem q_K.call {G : qG} {U : State} {g : JFrame} {mk : MethodId} {a : Array Value} (h : q_K G U) : q_K G (U.calling g mk a) := ⟨va_K.moved (u := U) (U := U.calling g mk a) (Vm.Alike.refl U.vm) h.1, fun w hw => by
  obtain ⟨a', i, x, hh, rfl⟩ := q_nest_ok w hw
  exact va_Nw.same rfl rfl (h.2 _ hw)⟩
def q_A (b : Nat) : Nat → Prop := fun q => b ≤ q
/-- the String constants and what String asks for, outside of the picture -/
def q_W (b : Nat) (ι : qI) (U : State) (H : Heap) : Prop := vk_S q_sn q_slen q_sbyt ι.2.1 ι.2.2 (q_A b) U H ∧ va_Z "java/lang/String" "COMPACT_STRINGS" "Z" (.int 1) (q_A b) U H ∧ va_Zq "jdk/internal/util/Preconditions" "SIOOBE_FORMATTER" "Ljava/util/function/BiFunction;" (q_A b) U H ∧ ∀ i, i < q_sn → vk_R (q_sown i) (q_sidx i) (q_stx i) (ι.2.1 i) U
theorem q_W.warm {b : Nat} {ι : qI} {s U : State} {H : Heap} {locs : List Loc} (hW : s.WarmedH U.vm) (hS : va_S (q_A b) s.heap H locs) (hU : U.heap = H) (h : q_W b ι s s.heap) : q_W b ι U U.heap := by
  rw [hU]
  exact ⟨(h.1.kept hS.2.1).moved hW.alike, (h.2.1.kept hS.2.1).moved hW.alike, (h.2.2.1.kept hS.2.1).moved hW.alike, fun i hi => (h.2.2.2 i hi).warm hW⟩
theorem q_W.call {b : Nat} {ι : qI} {U : State} {g : JFrame} {mk : MethodId} {a : Array Value} (h : q_W b ι U U.heap) : q_W b ι (U.calling g mk a) (U.calling g mk a).heap :=
  ⟨h.1.moved (Vm.Alike.refl U.vm), h.2.1.moved (Vm.Alike.refl U.vm), h.2.2.1.moved (Vm.Alike.refl U.vm), fun i hi => (h.2.2.2 i hi).same rfl⟩
def q_Rm (d : Nat) : Room := { frames := d, cells := 0, slots := 0, locals := 100 * d }
def q_B (G : qG) (b : Nat) (ι : qI) (u : qS) (t : State) : Prop := q_P G b (ι.1 u) t.heap
def q_Q (ret : Option FieldType) (G : qG) (b : Nat) (ι : qI) (M : qR) : Array Value → State → Outcome → State → Prop := match ret with
  | none => va_Qv (fun u => ∃ r, M = some (r, u)) (q_B G b ι) (q_A b)
  | some _ => va_Qi (fun r u => M = some (r, u)) (q_B G b ι) (q_A b)
/-- what holds in a method's body: the code, the class, the words, the tables -/
def q_Cx (own : String) (cc : ByteArray) (nL : Nat) (ret : Option FieldType) (b : Nat) (ι : qI) (G : qG) (p : Program) (s : State) (m : MethodId) (args : Array Value) (meth : Method) (c : Code) : Prop :=
  p.tables.exec = Jvm.exec ∧ c.code = cc ∧ c.maxLocals = nL ∧ meth.sig.returnType = ret ∧ s.vm.findClass own = some m.cls ∧ (∀ w ∈ q_TT, w.before args s = true) ∧ meth.locks = false ∧ q_K G s ∧ q_W b ι s s.heap
/-- THE WALK: from here the machine comes to what the model says, if the model says something -/
def SW (own : String) (cc : ByteArray) (nL : Nat) (ret : Option FieldType) (d : Nat) (ι : qI) (b : Nat) (pc : Nat) (lv : List (Nat × Value)) (st : List Value) (u : qS) (M : qR) : Prop :=
  M ≠ none → ∀ (p : Program) (l : Launch) (e : Env) (s : State) (m : MethodId) (args : Array Value) (below : List Frame) (meth : Method) (c : Code) (H : Heap) (locs : List Loc) (ls : Array Slot) (G : qG),
    q_Cx own cc nL ret b ι G p s m args meth c → q_P G b (ι.1 u) H → va_S (q_A b) s.heap H locs → lv_has ls nL lv →
    W p l e (q_Rm d) s m args below meth c H locs 0 0 (MQ below (q_Q ret G b ι M) args s 0 0 (q_A b)) (F0 m pc ls st)
/-- THE CONTRACT of a method against its model -/
def CN (l : Launch) (y : MethodName) (cc : ByteArray) (nL : Nat) (ret : Option FieldType) (d : Nat) (ι : qI) (b : Nat) (av : List Value) (u : qS) (M : qR) : Prop :=
  M ≠ none → ∀ G : qG, Met l y (.code y cc nL ret :: q_TT) (q_Rm d) (va_Pc av (fun U => q_K G U ∧ q_W b ι U U.heap ∧ q_P G b (ι.1 u) U.heap)) (q_Q ret G b ι M) 0 0 (q_A b)
theorem SW.of_eq {own : String} {cc : ByteArray} {nL : Nat} {ret : Option FieldType} {d : Nat} {ι : qI} {b pc : Nat} {lv : List (Nat × Value)} {st : List Value} {u : qS} {M M' : qR} (e : M = M') (h : SW own cc nL ret d ι b pc lv st u M') : SW own cc nL ret d ι b pc lv st u M := e ▸ h
theorem SW.none {own : String} {cc : ByteArray} {nL : Nat} {ret : Option FieldType} {d : Nat} {ι : qI} {b pc : Nat} {lv : List (Nat × Value)} {st : List Value} {u : qS} : SW own cc nL ret d ι b pc lv st u none := fun h => absurd rfl h
set_option maxHeartbeats 4000000 in
theorem CN.of_SW {l : Launch} {own : String} {y : MethodName} {cc : ByteArray} {nL : Nat} {ret : Option FieldType} {d : Nat} {ι : qI} {b : Nat} {av : List Value} {u : qS} {M : qR} (ho : y.cls = own) (hy : plainName own = true) (hn : (lg_sl av).length ≤ nL) (lv : List (Nat × Value)) (hlv : lv_args 0 av = lv)
    (h : SW own cc nL ret d ι b 0 lv [] u M) : CN l y cc nL ret d ι b av u M := by
  subst ho
  intro hM G
  refine Met.ofW (cc := cc) (maxL := nL) (ret := ret) hy rfl ?_
  intro p e s m args below meth c s₁ B hml hv
  obtain ⟨rfl, hK, hWs, hP⟩ := hv
  have hts := atoms_spec (ws := .code y cc nL ret :: q_TT) B.pre
  have hl := lv_entry av (n := nL) hn
  rw [lg_entry_eq]
  generalize (lg_sl av ++ List.replicate (nL - (lg_sl av).length) Slot.unset).toArray = ls at hl ⊢
  rw [hlv] at hl
  exact h hM p l e s m _ below meth c s.heap [] ls G ⟨B.exec, B.bytes, hml, B.returns, findClass_of_methodNamed B.named, fun w hw => hts w (List.mem_cons_of_mem _ hw), B.notSynchronized, hK, hWs⟩ hP va_S.rf hl
