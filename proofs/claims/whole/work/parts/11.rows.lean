/-- the words that hold in every state -/
def lw_gd : List Cond := lw_tbl.filter goodWord
theorem gd_in {w : Cond} (h : w ∈ lw_tbl) (hg : goodWord w = true) : w ∈ lw_gd := List.mem_filter.mpr ⟨h, hg⟩
/-! the Int level: a machine int is iz of an Int -/
def iz (a : Int) : Int32 := Int32.ofInt a
def lz (a : Int) : Int64 := Int64.ofInt a
def wr (a : Int) : Int := (iz a).toInt
theorem iz_toInt (x : Int32) : iz x.toInt = x := Int32.ofInt_toInt x
theorem lz_toInt (x : Int64) : lz x.toInt = x := Int64.ofInt_toInt x
theorem iz_add (a b : Int) : iz (a + b) = iz a + iz b := Int32.ofInt_add a b
theorem iz_sub (a b : Int) : iz (a - b) = iz a - iz b := Int32.ofInt_sub a b
theorem iz_mul (a b : Int) : iz (a * b) = iz a * iz b := Int32.ofInt_mul a b
theorem iz_neg (a : Int) : iz (-a) = -iz a := Int32.ofInt_neg a
theorem wr_eq (a : Int) : wr a = a.bmod (2 ^ 32) := by unfold wr iz; exact Int32.toInt_ofInt
theorem wr_id {a : Int} (h : -2147483648 ≤ a ∧ a < 2147483648) : wr a = a := by
  rw [wr_eq]; exact Int.bmod_eq_of_le (by omega) (by omega)
theorem wr_lo (a : Int) : -2147483648 ≤ wr a := by unfold wr; exact Int32.le_toInt _
theorem wr_hi (a : Int) : wr a < 2147483648 := by unfold wr; exact Int32.toInt_lt _
theorem iz_lt (a b : Int) : iz a < iz b ↔ wr a < wr b := Int32.lt_iff_toInt_lt
theorem iz_le (a b : Int) : iz a ≤ iz b ↔ wr a ≤ wr b := Int32.le_iff_toInt_le
theorem iz_eq (a b : Int) : iz a = iz b ↔ wr a = wr b := ⟨fun h => congrArg Int32.toInt h, fun h => Int32.toInt_inj.mp h⟩
theorem iz_0 : (0 : Int32) = iz 0 := by decide
theorem wr_0 : wr 0 = 0 := by decide
def andI (a b : Int) : Int := (iz a &&& iz b).toInt
def orI (a b : Int) : Int := (iz a ||| iz b).toInt
def xorI (a b : Int) : Int := (iz a ^^^ iz b).toInt
def shlI (a b : Int) : Int := (iz a <<< (iz b &&& 31)).toInt
def shrI (a b : Int) : Int := (iz a >>> (iz b &&& 31)).toInt
def ushrI (a b : Int) : Int := ((iz a).toUInt32 >>> ((iz b).toUInt32 &&& Int32.toUInt32 31)).toInt32.toInt
def divI (a b : Int) : Int := (iz a / iz b).toInt
def remI (a b : Int) : Int := (iz a - iz a / iz b * iz b).toInt
def l2iI (x : Int64) : Int := x.toInt32.toInt
def f2iI (x : UInt32) : Int := (FP.f2i x).toInt
/-! the words of the printed functions -/
def nm {α β : Type} (x : α) (f : α → β) : β := f x
def bd {O : Type} (i : Int) (n : Nat) (F : Option O) : Option O := if 0 ≤ i ∧ i < (n : Int) then F else none
def cb {O : Type} (a : Int) (F : Option O) : Option O := if a = 0 ∨ a = 1 then F else none
def cz {O : Type} (b : Int) (F : Option O) : Option O := if wr b = 0 then none else F
def cf {O : Type} (x : UInt32) (F : Option O) : Option O := if x &&& 0x7fffffff ≤ 0x7f800000 then F else none
def cls {σ ρ O : Type} (fc : Option (Int × ρ)) (put : ρ → σ) (F : Int → σ → Option O) : Option O := fc.bind fun q => F q.1 (put q.2)
def clv {σ ρ O : Type} (fc : Option ρ) (put : ρ → σ) (F : σ → Option O) : Option O := fc.bind fun q => F (put q)
def clp {O : Type} (fc : Option Int) (F : Int → Option O) : Option O := fc.bind F
abbrev St : Type := (Nat → Int) × (Nat → Nat → Int)
def setI (S : St) (k : Nat) (a : Int) : St := (fun j => if j = k then a else S.1 j, S.2)
def setA (S : St) (k i : Nat) (a : Int) : St := (S.1, fun j => if j = k then (fun x => if x = i then a else S.2 k x) else S.2 j)
def setR (S : St) (k : Nat) (f : Nat → Int) : St := (S.1, fun j => if j = k then f else S.2 j)
/-! what stands still while a method runs -/
abbrev Cx : Type := (Program × Launch × Env × Room) × (State × MethodId × Array Value × List Frame) × (Method × Code × Nat × (Nat → Prop))
abbrev cxp (X : Cx) : Program := X.1.1
abbrev cxl (X : Cx) : Launch := X.1.2.1
abbrev cxe (X : Cx) : Env := X.1.2.2.1
abbrev cxR (X : Cx) : Room := X.1.2.2.2
abbrev cxs (X : Cx) : State := X.2.1.1
abbrev cxm (X : Cx) : MethodId := X.2.1.2.1
abbrev cxa (X : Cx) : Array Value := X.2.1.2.2.1
abbrev cxb (X : Cx) : List Frame := X.2.1.2.2.2
abbrev cxM (X : Cx) : Method := X.2.2.1
abbrev cxc (X : Cx) : Code := X.2.2.2.1
abbrev cxn (X : Cx) : Nat := X.2.2.2.2.1
abbrev cxA (X : Cx) : Nat → Prop := X.2.2.2.2.2
abbrev tyX (y : ClassId × ClassId × ClassId) : List (ClassId × FieldType) := [(y.1, .int), (y.2.1, .long), (y.2.2, .boolean)]
abbrev WX (X : Cx) (H : Heap) (locs : List Loc) (z : Nat × Nat) (Q : State → Prop) (g : JFrame) : Prop := W (cxp X) (cxl X) (cxe X) (cxR X) (cxs X) (cxm X) (cxa X) (cxb X) (cxM X) (cxc X) H locs z.1 z.2 Q g
def OKX (X : Cx) (cc : ByteArray) (own : String) (rm : Room) (ret : Option FieldType) (D : va_G) (y : ClassId × ClassId × ClassId) : Prop :=
  (cxp X).tables.exec = Jvm.exec ∧ (cxc X).code = cc ∧ (cxc X).maxLocals = cxn X ∧ (cxs X).vm.findClass own = some (cxm X).cls ∧ (∀ w ∈ lw_gd, w.before (cxa X) (cxs X) = true) ∧ va_K D vwCl (tyX y) (cxs X) ∧ (∀ q, (cxs X).heap.size ≤ q → cxA X q) ∧ (cxM X).locks = false ∧ cxR X = rm ∧ (cxM X).sig.returnType = ret
/-- the locals, by their places; none: nothing is known of it -/
def lvP (ls : Array Slot) (nL : Nat) (lv : List (Option Value)) : Prop := ls.size = nL ∧ lv.length = nL ∧ lv_wf ls ∧ ∀ (i : Nat) (v : Value), lv[i]? = some (some v) → ls[i]? = some (.val v) ∧ v.category = 1
/-- from this frame and world on the machine does what F says -/
def GF {O : Type} (X : Cx) (cc : ByteArray) (D : va_G) (z : Nat × Nat) (Q : O → State → Prop) (F : Option O) (pc : Nat) (lv : List (Option Value)) (st : List Value) (ws : va_W) : Prop :=
  ∀ o, F = some o → ∀ (H : Heap) (locs : List Loc) (ls : Array Slot), va_P D vwCl ws H → va_D (cxA X) ws → va_S (cxA X) (cxs X).heap H locs → lvP ls (cxn X) lv → WX X H locs z (Q o) (F0 (cxm X) pc ls st)
def lvl (lv : List (Option Value)) : List (Nat × Value) := (List.range lv.length).filterMap (fun i => match lv[i]? with | some (some v) => some (i, v) | _ => none)
theorem lvl_mem {lv : List (Option Value)} {q : Nat × Value} (h : q ∈ lvl lv) : lv[q.1]? = some (some q.2) := by
  obtain ⟨i, -, hi⟩ := List.mem_filterMap.mp h
  split at hi
  · next v hv => cases hi; exact hv
  · cases hi
theorem mem_lvl {lv : List (Option Value)} {i : Nat} {v : Value} (h : lv[i]? = some (some v)) : (i, v) ∈ lvl lv := by
  have hl : i < lv.length := (List.getElem?_eq_some_iff.mp h).1
  exact List.mem_filterMap.mpr ⟨i, List.mem_range.mpr hl, by rw [h]⟩
theorem lvP.has {ls : Array Slot} {nL : Nat} {lv : List (Option Value)} (h : lvP ls nL lv) : lv_has ls nL (lvl lv) := ⟨h.1, h.2.2.1, fun _ hq => (h.2.2.2 _ _ (lvl_mem hq)).1⟩
theorem lvP.store {ls ls' : Array Slot} {nL i : Nat} {lv : List (Option Value)} {v : Value} (h : lvP ls nL lv) (hv : v.category = 1) (hs : lv_has ls' nL ((i, v) :: (lvl lv).filter (fun q => !(q.1 == i) && !(q.1 + 1 == i && q.2.category == 2)))) : lvP ls' nL (lv.set i (some v)) := by
  refine ⟨hs.1, by rw [List.length_set]; exact h.2.1, hs.2.1, fun j w hw => ?_⟩
  by_cases hj : i = j
  · subst hj
    by_cases hl : i < lv.length
    · rw [List.getElem?_set_self hl] at hw
      cases hw
      exact ⟨hs.2.2 (i, v) List.mem_cons_self, hv⟩
    · rw [List.getElem?_eq_none (by rw [List.length_set]; omega)] at hw
      cases hw
  · rw [List.getElem?_set_ne hj] at hw
    have h1 := h.2.2.2 j w hw
    refine ⟨hs.2.2 (j, w) (List.mem_cons_of_mem _ (List.mem_filter.mpr ⟨mem_lvl hw, ?_⟩)), h1.2⟩
    simp only [Bool.and_eq_true, Bool.not_eq_true', beq_eq_false_iff_ne, ne_eq, Bool.and_eq_false_iff]
    exact ⟨fun q => hj q.symm, Or.inr (by rw [h1.2]; decide)⟩
