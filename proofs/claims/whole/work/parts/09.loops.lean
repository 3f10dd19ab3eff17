/-! LOOPS AND JOINS by arity -/
def q_F : Nat := 3000
def q_it0 (B : (qS → qR) → qS → qR) : Nat → qS → qR
  | 0 => fun _ => none
  | f + 1 => B (q_it0 B f)
theorem SW.it0 {own : String} {cc : ByteArray} {nL : Nat} {ret : Option FieldType} {d : Nat} {ι : qI} {b pc : Nat} {st : List Value}   {B : (qS → qR) → qS → qR} (lvf : List (Nat × Value)) (h : ∀ self : qS → qR, (∀  (u : qS), SW own cc nL ret d ι b pc lvf st u (self  u)) → ∀  (u : qS), SW own cc nL ret d ι b pc lvf st u (B self  u)) (f : Nat)  (u : qS) : SW own cc nL ret d ι b pc lvf st u (q_it0 B f  u) := by
  induction f generalizing  u with
  | zero => exact SW.none
  | succ f ih => exact h _ ih  u
def q_it1 {α1 : Type} (B : (α1 → qS → qR) → α1 → qS → qR) : Nat → α1 → qS → qR
  | 0 => fun _ _ => none
  | f + 1 => B (q_it1 B f)
theorem SW.it1 {own : String} {cc : ByteArray} {nL : Nat} {ret : Option FieldType} {d : Nat} {ι : qI} {b pc : Nat} {st : List Value}  {α1 : Type}  {B : (α1 → qS → qR) → α1 → qS → qR} (lvf : α1 → List (Nat × Value)) (h : ∀ self : α1 → qS → qR, (∀ (x1 : α1) (u : qS), SW own cc nL ret d ι b pc (lvf x1) st u (self x1 u)) → ∀ (x1 : α1) (u : qS), SW own cc nL ret d ι b pc (lvf x1) st u (B self x1 u)) (f : Nat) (x1 : α1) (u : qS) : SW own cc nL ret d ι b pc (lvf x1) st u (q_it1 B f x1 u) := by
  induction f generalizing x1 u with
  | zero => exact SW.none
  | succ f ih => exact h _ ih x1 u
def q_it2 {α1 α2 : Type} (B : (α1 → α2 → qS → qR) → α1 → α2 → qS → qR) : Nat → α1 → α2 → qS → qR
  | 0 => fun _ _ _ => none
  | f + 1 => B (q_it2 B f)
theorem SW.it2 {own : String} {cc : ByteArray} {nL : Nat} {ret : Option FieldType} {d : Nat} {ι : qI} {b pc : Nat} {st : List Value}  {α1 α2 : Type}  {B : (α1 → α2 → qS → qR) → α1 → α2 → qS → qR} (lvf : α1 → α2 → List (Nat × Value)) (h : ∀ self : α1 → α2 → qS → qR, (∀ (x1 : α1) (x2 : α2) (u : qS), SW own cc nL ret d ι b pc (lvf x1 x2) st u (self x1 x2 u)) → ∀ (x1 : α1) (x2 : α2) (u : qS), SW own cc nL ret d ι b pc (lvf x1 x2) st u (B self x1 x2 u)) (f : Nat) (x1 : α1) (x2 : α2) (u : qS) : SW own cc nL ret d ι b pc (lvf x1 x2) st u (q_it2 B f x1 x2 u) := by
  induction f generalizing x1 x2 u with
  | zero => exact SW.none
  | succ f ih => exact h _ ih x1 x2 u
def q_it3 {α1 α2 α3 : Type} (B : (α1 → α2 → α3 → qS → qR) → α1 → α2 → α3 → qS → qR) : Nat → α1 → α2 → α3 → qS → qR
  | 0 => fun _ _ _ _ => none
  | f + 1 => B (q_it3 B f)
theorem SW.it3 {own : String} {cc : ByteArray} {nL : Nat} {ret : Option FieldType} {d : Nat} {ι : qI} {b pc : Nat} {st : List Value}  {α1 α2 α3 : Type}  {B : (α1 → α2 → α3 → qS → qR) → α1 → α2 → α3 → qS → qR} (lvf : α1 → α2 → α3 → List (Nat × Value)) (h : ∀ self : α1 → α2 → α3 → qS → qR, (∀ (x1 : α1) (x2 : α2) (x3 : α3) (u : qS), SW own cc nL ret d ι b pc (lvf x1 x2 x3) st u (self x1 x2 x3 u)) → ∀ (x1 : α1) (x2 : α2) (x3 : α3) (u : qS), SW own cc nL ret d ι b pc (lvf x1 x2 x3) st u (B self x1 x2 x3 u)) (f : Nat) (x1 : α1) (x2 : α2) (x3 : α3) (u : qS) : SW own cc nL ret d ι b pc (lvf x1 x2 x3) st u (q_it3 B f x1 x2 x3 u) := by
  induction f generalizing x1 x2 x3 u with
  | zero => exact SW.none
  | succ f ih => exact h _ ih x1 x2 x3 u
def q_it4 {α1 α2 α3 α4 : Type} (B : (α1 → α2 → α3 → α4 → qS → qR) → α1 → α2 → α3 → α4 → qS → qR) : Nat → α1 → α2 → α3 → α4 → qS → qR
  | 0 => fun _ _ _ _ _ => none
  | f + 1 => B (q_it4 B f)
theorem SW.it4 {own : String} {cc : ByteArray} {nL : Nat} {ret : Option FieldType} {d : Nat} {ι : qI} {b pc : Nat} {st : List Value}  {α1 α2 α3 α4 : Type}  {B : (α1 → α2 → α3 → α4 → qS → qR) → α1 → α2 → α3 → α4 → qS → qR} (lvf : α1 → α2 → α3 → α4 → List (Nat × Value)) (h : ∀ self : α1 → α2 → α3 → α4 → qS → qR, (∀ (x1 : α1) (x2 : α2) (x3 : α3) (x4 : α4) (u : qS), SW own cc nL ret d ι b pc (lvf x1 x2 x3 x4) st u (self x1 x2 x3 x4 u)) → ∀ (x1 : α1) (x2 : α2) (x3 : α3) (x4 : α4) (u : qS), SW own cc nL ret d ι b pc (lvf x1 x2 x3 x4) st u (B self x1 x2 x3 x4 u)) (f : Nat) (x1 : α1) (x2 : α2) (x3 : α3) (x4 : α4) (u : qS) : SW own cc nL ret d ι b pc (lvf x1 x2 x3 x4) st u (q_it4 B f x1 x2 x3 x4 u) := by
  induction f generalizing x1 x2 x3 x4 u with
  | zero => exact SW.none
  | succ f ih => exact h _ ih x1 x2 x3 x4 u
def q_it5 {α1 α2 α3 α4 α5 : Type} (B : (α1 → α2 → α3 → α4 → α5 → qS → qR) → α1 → α2 → α3 → α4 → α5 → qS → qR) : Nat → α1 → α2 → α3 → α4 → α5 → qS → qR
  | 0 => fun _ _ _ _ _ _ => none
  | f + 1 => B (q_it5 B f)
theorem SW.it5 {own : String} {cc : ByteArray} {nL : Nat} {ret : Option FieldType} {d : Nat} {ι : qI} {b pc : Nat} {st : List Value}  {α1 α2 α3 α4 α5 : Type}  {B : (α1 → α2 → α3 → α4 → α5 → qS → qR) → α1 → α2 → α3 → α4 → α5 → qS → qR} (lvf : α1 → α2 → α3 → α4 → α5 → List (Nat × Value)) (h : ∀ self : α1 → α2 → α3 → α4 → α5 → qS → qR, (∀ (x1 : α1) (x2 : α2) (x3 : α3) (x4 : α4) (x5 : α5) (u : qS), SW own cc nL ret d ι b pc (lvf x1 x2 x3 x4 x5) st u (self x1 x2 x3 x4 x5 u)) → ∀ (x1 : α1) (x2 : α2) (x3 : α3) (x4 : α4) (x5 : α5) (u : qS), SW own cc nL ret d ι b pc (lvf x1 x2 x3 x4 x5) st u (B self x1 x2 x3 x4 x5 u)) (f : Nat) (x1 : α1) (x2 : α2) (x3 : α3) (x4 : α4) (x5 : α5) (u : qS) : SW own cc nL ret d ι b pc (lvf x1 x2 x3 x4 x5) st u (q_it5 B f x1 x2 x3 x4 x5 u) := by
  induction f generalizing x1 x2 x3 x4 x5 u with
  | zero => exact SW.none
  | succ f ih => exact h _ ih x1 x2 x3 x4 x5 u
def q_it6 {α1 α2 α3 α4 α5 α6 : Type} (B : (α1 → α2 → α3 → α4 → α5 → α6 → qS → qR) → α1 → α2 → α3 → α4 → α5 → α6 → qS → qR) : Nat → α1 → α2 → α3 → α4 → α5 → α6 → qS → qR
  | 0 => fun _ _ _ _ _ _ _ => none
  | f + 1 => B (q_it6 B f)
theorem SW.it6 {own : String} {cc : ByteArray} {nL : Nat} {ret : Option FieldType} {d : Nat} {ι : qI} {b pc : Nat} {st : List Value}  {α1 α2 α3 α4 α5 α6 : Type}  {B : (α1 → α2 → α3 → α4 → α5 → α6 → qS → qR) → α1 → α2 → α3 → α4 → α5 → α6 → qS → qR} (lvf : α1 → α2 → α3 → α4 → α5 → α6 → List (Nat × Value)) (h : ∀ self : α1 → α2 → α3 → α4 → α5 → α6 → qS → qR, (∀ (x1 : α1) (x2 : α2) (x3 : α3) (x4 : α4) (x5 : α5) (x6 : α6) (u : qS), SW own cc nL ret d ι b pc (lvf x1 x2 x3 x4 x5 x6) st u (self x1 x2 x3 x4 x5 x6 u)) → ∀ (x1 : α1) (x2 : α2) (x3 : α3) (x4 : α4) (x5 : α5) (x6 : α6) (u : qS), SW own cc nL ret d ι b pc (lvf x1 x2 x3 x4 x5 x6) st u (B self x1 x2 x3 x4 x5 x6 u)) (f : Nat) (x1 : α1) (x2 : α2) (x3 : α3) (x4 : α4) (x5 : α5) (x6 : α6) (u : qS) : SW own cc nL ret d ι b pc (lvf x1 x2 x3 x4 x5 x6) st u (q_it6 B f x1 x2 x3 x4 x5 x6 u) := by
  induction f generalizing x1 x2 x3 x4 x5 x6 u with
  | zero => exact SW.none
  | succ f ih => exact h _ ih x1 x2 x3 x4 x5 x6 u
def q_it7 {α1 α2 α3 α4 α5 α6 α7 : Type} (B : (α1 → α2 → α3 → α4 → α5 → α6 → α7 → qS → qR) → α1 → α2 → α3 → α4 → α5 → α6 → α7 → qS → qR) : Nat → α1 → α2 → α3 → α4 → α5 → α6 → α7 → qS → qR
  | 0 => fun _ _ _ _ _ _ _ _ => none
  | f + 1 => B (q_it7 B f)
theorem SW.it7 {own : String} {cc : ByteArray} {nL : Nat} {ret : Option FieldType} {d : Nat} {ι : qI} {b pc : Nat} {st : List Value}  {α1 α2 α3 α4 α5 α6 α7 : Type}  {B : (α1 → α2 → α3 → α4 → α5 → α6 → α7 → qS → qR) → α1 → α2 → α3 → α4 → α5 → α6 → α7 → qS → qR} (lvf : α1 → α2 → α3 → α4 → α5 → α6 → α7 → List (Nat × Value)) (h : ∀ self : α1 → α2 → α3 → α4 → α5 → α6 → α7 → qS → qR, (∀ (x1 : α1) (x2 : α2) (x3 : α3) (x4 : α4) (x5 : α5) (x6 : α6) (x7 : α7) (u : qS), SW own cc nL ret d ι b pc (lvf x1 x2 x3 x4 x5 x6 x7) st u (self x1 x2 x3 x4 x5 x6 x7 u)) → ∀ (x1 : α1) (x2 : α2) (x3 : α3) (x4 : α4) (x5 : α5) (x6 : α6) (x7 : α7) (u : qS), SW own cc nL ret d ι b pc (lvf x1 x2 x3 x4 x5 x6 x7) st u (B self x1 x2 x3 x4 x5 x6 x7 u)) (f : Nat) (x1 : α1) (x2 : α2) (x3 : α3) (x4 : α4) (x5 : α5) (x6 : α6) (x7 : α7) (u : qS) : SW own cc nL ret d ι b pc (lvf x1 x2 x3 x4 x5 x6 x7) st u (q_it7 B f x1 x2 x3 x4 x5 x6 x7 u) := by
  induction f generalizing x1 x2 x3 x4 x5 x6 x7 u with
  | zero => exact SW.none
  | succ f ih => exact h _ ih x1 x2 x3 x4 x5 x6 x7 u
def q_it8 {α1 α2 α3 α4 α5 α6 α7 α8 : Type} (B : (α1 → α2 → α3 → α4 → α5 → α6 → α7 → α8 → qS → qR) → α1 → α2 → α3 → α4 → α5 → α6 → α7 → α8 → qS → qR) : Nat → α1 → α2 → α3 → α4 → α5 → α6 → α7 → α8 → qS → qR
  | 0 => fun _ _ _ _ _ _ _ _ _ => none
  | f + 1 => B (q_it8 B f)
theorem SW.it8 {own : String} {cc : ByteArray} {nL : Nat} {ret : Option FieldType} {d : Nat} {ι : qI} {b pc : Nat} {st : List Value}  {α1 α2 α3 α4 α5 α6 α7 α8 : Type}  {B : (α1 → α2 → α3 → α4 → α5 → α6 → α7 → α8 → qS → qR) → α1 → α2 → α3 → α4 → α5 → α6 → α7 → α8 → qS → qR} (lvf : α1 → α2 → α3 → α4 → α5 → α6 → α7 → α8 → List (Nat × Value)) (h : ∀ self : α1 → α2 → α3 → α4 → α5 → α6 → α7 → α8 → qS → qR, (∀ (x1 : α1) (x2 : α2) (x3 : α3) (x4 : α4) (x5 : α5) (x6 : α6) (x7 : α7) (x8 : α8) (u : qS), SW own cc nL ret d ι b pc (lvf x1 x2 x3 x4 x5 x6 x7 x8) st u (self x1 x2 x3 x4 x5 x6 x7 x8 u)) → ∀ (x1 : α1) (x2 : α2) (x3 : α3) (x4 : α4) (x5 : α5) (x6 : α6) (x7 : α7) (x8 : α8) (u : qS), SW own cc nL ret d ι b pc (lvf x1 x2 x3 x4 x5 x6 x7 x8) st u (B self x1 x2 x3 x4 x5 x6 x7 x8 u)) (f : Nat) (x1 : α1) (x2 : α2) (x3 : α3) (x4 : α4) (x5 : α5) (x6 : α6) (x7 : α7) (x8 : α8) (u : qS) : SW own cc nL ret d ι b pc (lvf x1 x2 x3 x4 x5 x6 x7 x8) st u (q_it8 B f x1 x2 x3 x4 x5 x6 x7 x8 u) := by
  induction f generalizing x1 x2 x3 x4 x5 x6 x7 x8 u with
  | zero => exact SW.none
  | succ f ih => exact h _ ih x1 x2 x3 x4 x5 x6 x7 x8 u
theorem SW.jn0 {own : String} {cc : ByteArray} {nL : Nat} {ret : Option FieldType} {d : Nat} {ι : qI} {b pc : Nat} {lv : List (Nat × Value)} {st : List Value} {u : qS}  {J : qS → qR} {K : (qS → qR) → qR} (pcJ : Nat) (lvf : List (Nat × Value)) (stf : List Value) (hJ : ∀  (u : qS), SW own cc nL ret d ι b pcJ lvf stf u (J  u)) (h : ∀ J' : qS → qR, (∀  (u : qS), SW own cc nL ret d ι b pcJ lvf stf u (J'  u)) → SW own cc nL ret d ι b pc lv st u (K J')) : SW own cc nL ret d ι b pc lv st u (q_jn J K) := h J hJ
theorem SW.jn1 {own : String} {cc : ByteArray} {nL : Nat} {ret : Option FieldType} {d : Nat} {ι : qI} {b pc : Nat} {lv : List (Nat × Value)} {st : List Value} {u : qS} {α1 : Type}  {J : α1 → qS → qR} {K : (α1 → qS → qR) → qR} (pcJ : Nat) (lvf : α1 → List (Nat × Value)) (stf : α1 → List Value) (hJ : ∀ (x1 : α1) (u : qS), SW own cc nL ret d ι b pcJ (lvf x1) (stf x1) u (J x1 u)) (h : ∀ J' : α1 → qS → qR, (∀ (x1 : α1) (u : qS), SW own cc nL ret d ι b pcJ (lvf x1) (stf x1) u (J' x1 u)) → SW own cc nL ret d ι b pc lv st u (K J')) : SW own cc nL ret d ι b pc lv st u (q_jn J K) := h J hJ
theorem SW.jn2 {own : String} {cc : ByteArray} {nL : Nat} {ret : Option FieldType} {d : Nat} {ι : qI} {b pc : Nat} {lv : List (Nat × Value)} {st : List Value} {u : qS} {α1 α2 : Type}  {J : α1 → α2 → qS → qR} {K : (α1 → α2 → qS → qR) → qR} (pcJ : Nat) (lvf : α1 → α2 → List (Nat × Value)) (stf : α1 → α2 → List Value) (hJ : ∀ (x1 : α1) (x2 : α2) (u : qS), SW own cc nL ret d ι b pcJ (lvf x1 x2) (stf x1 x2) u (J x1 x2 u)) (h : ∀ J' : α1 → α2 → qS → qR, (∀ (x1 : α1) (x2 : α2) (u : qS), SW own cc nL ret d ι b pcJ (lvf x1 x2) (stf x1 x2) u (J' x1 x2 u)) → SW own cc nL ret d ι b pc lv st u (K J')) : SW own cc nL ret d ι b pc lv st u (q_jn J K) := h J hJ
theorem SW.jn3 {own : String} {cc : ByteArray} {nL : Nat} {ret : Option FieldType} {d : Nat} {ι : qI} {b pc : Nat} {lv : List (Nat × Value)} {st : List Value} {u : qS} {α1 α2 α3 : Type}  {J : α1 → α2 → α3 → qS → qR} {K : (α1 → α2 → α3 → qS → qR) → qR} (pcJ : Nat) (lvf : α1 → α2 → α3 → List (Nat × Value)) (stf : α1 → α2 → α3 → List Value) (hJ : ∀ (x1 : α1) (x2 : α2) (x3 : α3) (u : qS), SW own cc nL ret d ι b pcJ (lvf x1 x2 x3) (stf x1 x2 x3) u (J x1 x2 x3 u)) (h : ∀ J' : α1 → α2 → α3 → qS → qR, (∀ (x1 : α1) (x2 : α2) (x3 : α3) (u : qS), SW own cc nL ret d ι b pcJ (lvf x1 x2 x3) (stf x1 x2 x3) u (J' x1 x2 x3 u)) → SW own cc nL ret d ι b pc lv st u (K J')) : SW own cc nL ret d ι b pc lv st u (q_jn J K) := h J hJ
theorem SW.jn4 {own : String} {cc : ByteArray} {nL : Nat} {ret : Option FieldType} {d : Nat} {ι : qI} {b pc : Nat} {lv : List (Nat × Value)} {st : List Value} {u : qS} {α1 α2 α3 α4 : Type}  {J : α1 → α2 → α3 → α4 → qS → qR} {K : (α1 → α2 → α3 → α4 → qS → qR) → qR} (pcJ : Nat) (lvf : α1 → α2 → α3 → α4 → List (Nat × Value)) (stf : α1 → α2 → α3 → α4 → List Value) (hJ : ∀ (x1 : α1) (x2 : α2) (x3 : α3) (x4 : α4) (u : qS), SW own cc nL ret d ι b pcJ (lvf x1 x2 x3 x4) (stf x1 x2 x3 x4) u (J x1 x2 x3 x4 u)) (h : ∀ J' : α1 → α2 → α3 → α4 → qS → qR, (∀ (x1 : α1) (x2 : α2) (x3 : α3) (x4 : α4) (u : qS), SW own cc nL ret d ι b pcJ (lvf x1 x2 x3 x4) (stf x1 x2 x3 x4) u (J' x1 x2 x3 x4 u)) → SW own cc nL ret d ι b pc lv st u (K J')) : SW own cc nL ret d ι b pc lv st u (q_jn J K) := h J hJ
theorem SW.jn5 {own : String} {cc : ByteArray} {nL : Nat} {ret : Option FieldType} {d : Nat} {ι : qI} {b pc : Nat} {lv : List (Nat × Value)} {st : List Value} {u : qS} {α1 α2 α3 α4 α5 : Type}  {J : α1 → α2 → α3 → α4 → α5 → qS → qR} {K : (α1 → α2 → α3 → α4 → α5 → qS → qR) → qR} (pcJ : Nat) (lvf : α1 → α2 → α3 → α4 → α5 → List (Nat × Value)) (stf : α1 → α2 → α3 → α4 → α5 → List Value) (hJ : ∀ (x1 : α1) (x2 : α2) (x3 : α3) (x4 : α4) (x5 : α5) (u : qS), SW own cc nL ret d ι b pcJ (lvf x1 x2 x3 x4 x5) (stf x1 x2 x3 x4 x5) u (J x1 x2 x3 x4 x5 u)) (h : ∀ J' : α1 → α2 → α3 → α4 → α5 → qS → qR, (∀ (x1 : α1) (x2 : α2) (x3 : α3) (x4 : α4) (x5 : α5) (u : qS), SW own cc nL ret d ι b pcJ (lvf x1 x2 x3 x4 x5) (stf x1 x2 x3 x4 x5) u (J' x1 x2 x3 x4 x5 u)) → SW own cc nL ret d ι b pc lv st u (K J')) : SW own cc nL ret d ι b pc lv st u (q_jn J K) := h J hJ
theorem SW.jn6 {own : String} {cc : ByteArray} {nL : Nat} {ret : Option FieldType} {d : Nat} {ι : qI} {b pc : Nat} {lv : List (Nat × Value)} {st : List Value} {u : qS} {α1 α2 α3 α4 α5 α6 : Type}  {J : α1 → α2 → α3 → α4 → α5 → α6 → qS → qR} {K : (α1 → α2 → α3 → α4 → α5 → α6 → qS → qR) → qR} (pcJ : Nat) (lvf : α1 → α2 → α3 → α4 → α5 → α6 → List (Nat × Value)) (stf : α1 → α2 → α3 → α4 → α5 → α6 → List Value) (hJ : ∀ (x1 : α1) (x2 : α2) (x3 : α3) (x4 : α4) (x5 : α5) (x6 : α6) (u : qS), SW own cc nL ret d ι b pcJ (lvf x1 x2 x3 x4 x5 x6) (stf x1 x2 x3 x4 x5 x6) u (J x1 x2 x3 x4 x5 x6 u)) (h : ∀ J' : α1 → α2 → α3 → α4 → α5 → α6 → qS → qR, (∀ (x1 : α1) (x2 : α2) (x3 : α3) (x4 : α4) (x5 : α5) (x6 : α6) (u : qS), SW own cc nL ret d ι b pcJ (lvf x1 x2 x3 x4 x5 x6) (stf x1 x2 x3 x4 x5 x6) u (J' x1 x2 x3 x4 x5 x6 u)) → SW own cc nL ret d ι b pc lv st u (K J')) : SW own cc nL ret d ι b pc lv st u (q_jn J K) := h J hJ
