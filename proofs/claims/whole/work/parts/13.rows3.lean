/-! fields, arrays, ends, calls and contracts over GF -/
theorem g_get {O : Type} {X : Cx} {cc : ByteArray} {own : String} {rm : Room} {ret : Option FieldType} {D : va_G} {y : ClassId × ClassId × ClassId} {z : Nat × Nat} {Q : O → State → Prop} {F : Option O} {pc pc' : Nat} {lv : List (Option Value)} {st : List Value} {ws : va_W} (hX : OKX X cc own rm ret D y) {C : String} {T : u_T} {N ci idx a : Nat} {fs : List Value} {v : Value} (q0 k : Nat) (hin : ∀ w ∈ u_ws C T N, w ∈ lw_gd) (he : ws[q0]? = some (a, .inr (ci, fs))) (hc : vwCl[ci]? = some (C, T, N)) (hk : k < N) (hm : Cond.fieldLink own idx (T k).1 (T k).2.1 (T k).2.2.1 ∈ lw_gd) (hv : fs[k]? = some v) (hd : decode cc pc = .ok (.getfield idx, 3)) (hp : pc + 3 = pc') (kk : GF X cc D z Q F pc' lv (v :: st) ws) : GF X cc D z Q F pc lv (.ref a :: st) ws := by
  subst hp
  intro o ho H locs ls hP hD hS hl
  exact va_get hX.1 hX.2.1 hX.2.2.2.2.1 hin hX.2.2.2.1 hX.2.2.2.2.2.1 hP q0 he hc k hk (hX.2.2.2.2.1 _ hm) (fun _ h => h) hv hd (kk o ho H locs ls hP hD hS hl)
theorem g_put {O : Type} {X : Cx} {cc : ByteArray} {own : String} {rm : Room} {ret : Option FieldType} {D : va_G} {y : ClassId × ClassId × ClassId} {z : Nat × Nat} {Q : O → State → Prop} {F : Option O} {pc pc' : Nat} {lv : List (Option Value)} {st : List Value} {ws ws' : va_W} (hX : OKX X cc own rm ret D y) {C : String} {T : u_T} {N ci idx a : Nat} {fs : List Value} {v : Value} {ty : FieldType} (ty0 : Nat → FieldType) (q0 k : Nat) (hin : ∀ w ∈ u_ws C T N, w ∈ lw_gd) (hty : ∀ k, k < N → parseFieldDescriptor (T k).2.2.1 = some (ty0 k)) (hnm : ∀ a, a < N → ∀ b, b < N → a ≠ b → (T a).2.1 ≠ (T b).2.1) (he : ws[q0]? = some (a, .inr (ci, fs))) (hc : vwCl[ci]? = some (C, T, N)) (hk : k < N) (hm : Cond.fieldLink own idx (T k).1 (T k).2.1 (T k).2.2.1 ∈ lw_gd) (hfin : (T k).2.2.2 = false) (ht0 : ty0 k = ty) (hn : narrow ty v = v) (hfit : fits ty v = true) (hl0 : Nat.ble (k + 1) fs.length = true) (hws : ws.set q0 (a, .inr (ci, fs.set k v)) = ws') (hd : decode cc pc = .ok (.putfield idx, 3)) (hp : pc + 3 = pc') (kk : GF X cc D z Q F pc' lv st ws') : GF X cc D z Q F pc lv (v :: .ref a :: st) ws := by
  subst hp
  intro o ho H locs ls hP hD hS hl
  refine va_put hX.1 hX.2.1 hX.2.2.2.2.1 hin ty0 hty hnm hX.2.2.2.1 hX.2.2.2.2.2.1 hP hD hS q0 he hc k hk (hX.2.2.2.2.1 _ hm) (fun _ h => h) hfin (ht0 ▸ hty k hk) hn hfit (Nat.le_of_ble_eq_true hl0) hd (fun H1 locs1 hP1 hD1 hS1 => ?_)
  rw [hws] at hP1 hD1
  exact kk o ho H1 locs1 ls hP1 hD1 hS1 hl
theorem iz_in {i : Int} {n : Nat} (h : 0 ≤ i ∧ i < (n : Int)) (hn : n < 2147483648) : vp_in (iz i) n ∧ (iz i).toNatClampNeg = i.toNat := by
  have h1 : (iz i).toInt = i := wr_id (by omega)
  have h2 : (iz i).toNatClampNeg = i.toNat := by unfold Int32.toNatClampNeg; rw [h1]
  refine ⟨vp_in_iff.mpr ⟨by omega, by omega⟩, h2⟩
theorem g_iald {O : Type} {X : Cx} {cc : ByteArray} {own : String} {rm : Room} {ret : Option FieldType} {D : va_G} {y : ClassId × ClassId × ClassId} {z : Nat × Nat} {Q : O → State → Prop} {F : Option O} {pc pc' : Nat} {lv : List (Option Value)} {st : List Value} {ws : va_W} (hX : OKX X cc own rm ret D y) {a n : Nat} {f : Nat → Int} {i : Int} (q0 : Nat) (ha : ws[q0]? = some (a, .inl (y.1, n, .inl (fun j => iz (f j))))) (hn : n < 2147483648) (hd : decode cc pc = .ok (.iaload, 1)) (hp : pc + 1 = pc') (k : GF X cc D z Q F pc' lv (.int (iz (f i.toNat)) :: st) ws) : GF X cc D z Q (bd i n F) pc lv (.int (iz i) :: .ref a :: st) ws := by
  subst hp
  intro o ho H locs ls hP hD hS hl
  unfold bd at ho
  split at ho
  · next h =>
    have k := k o ho H locs ls hP hD hS hl
    obtain ⟨h1, h2⟩ := iz_in h hn
    rw [← h2] at k
    exact va_iald hX.1 hX.2.1 hX.2.2.2.2.2.1 hP q0 0 ha rfl h1 hd k
  · cases ho
theorem g_zald {O : Type} {X : Cx} {cc : ByteArray} {own : String} {rm : Room} {ret : Option FieldType} {D : va_G} {y : ClassId × ClassId × ClassId} {z : Nat × Nat} {Q : O → State → Prop} {F : Option O} {pc pc' : Nat} {lv : List (Option Value)} {st : List Value} {ws : va_W} (hX : OKX X cc own rm ret D y) {a n : Nat} {f : Nat → Int} {i : Int} (q0 : Nat) (ha : ws[q0]? = some (a, .inl (y.2.2, n, .inl (fun j => iz (f j))))) (hn : n < 2147483648) (hd : decode cc pc = .ok (.baload, 1)) (hp : pc + 1 = pc') (k : GF X cc D z Q F pc' lv (.int (iz (f i.toNat)) :: st) ws) : GF X cc D z Q (bd i n F) pc lv (.int (iz i) :: .ref a :: st) ws := by
  subst hp
  intro o ho H locs ls hP hD hS hl
  unfold bd at ho
  split at ho
  · next h =>
    have k := k o ho H locs ls hP hD hS hl
    obtain ⟨h1, h2⟩ := iz_in h hn
    rw [← h2] at k
    exact va_zald hX.1 hX.2.1 hX.2.2.2.2.2.1 hP q0 2 ha rfl h1 hd k
  · cases ho
theorem g_lald {O : Type} {X : Cx} {cc : ByteArray} {own : String} {rm : Room} {ret : Option FieldType} {D : va_G} {y : ClassId × ClassId × ClassId} {z : Nat × Nat} {Q : O → State → Prop} {F : Option O} {pc pc' : Nat} {lv : List (Option Value)} {st : List Value} {ws : va_W} (hX : OKX X cc own rm ret D y) {a n : Nat} {f : Nat → Int} {i : Int} (q0 : Nat) (ha : ws[q0]? = some (a, .inl (y.2.1, n, .inr (.inl (fun j => lz (f j)))))) (hn : n < 2147483648) (hd : decode cc pc = .ok (.laload, 1)) (hp : pc + 1 = pc') (k : GF X cc D z Q F pc' lv (.long (lz (f i.toNat)) :: st) ws) : GF X cc D z Q (bd i n F) pc lv (.int (iz i) :: .ref a :: st) ws := by
  subst hp
  intro o ho H locs ls hP hD hS hl
  unfold bd at ho
  split at ho
  · next h =>
    have k := k o ho H locs ls hP hD hS hl
    obtain ⟨h1, h2⟩ := iz_in h hn
    rw [← h2] at k
    exact va_lald hX.1 hX.2.1 hX.2.2.2.2.2.1 hP q0 1 ha rfl h1 hd k
  · cases ho
theorem upd_iz (f : Nat → Int) (k : Nat) (x : Int) : upd (fun j => iz (f j)) k (iz x) = fun j => iz (if j = k then x else f j) := by
  funext j
  unfold upd
  split <;> rfl
theorem updL_lz (f : Nat → Int) (k : Nat) (x : Int64) : vp_updL (fun j => lz (f j)) k x = fun j => lz (if j = k then x.toInt else f j) := by
  funext j
  unfold vp_updL
  split
  · exact (lz_toInt x).symm
  · rfl
theorem g_iast {O : Type} {X : Cx} {cc : ByteArray} {own : String} {rm : Room} {ret : Option FieldType} {D : va_G} {y : ClassId × ClassId × ClassId} {z : Nat × Nat} {Q : O → State → Prop} {F : Option O} {pc pc' : Nat} {lv : List (Option Value)} {st : List Value} {ws ws' : va_W} (hX : OKX X cc own rm ret D y) {a n : Nat} {f : Nat → Int} {i x : Int} (q0 : Nat) (ha : ws[q0]? = some (a, .inl (y.1, n, .inl (fun j => iz (f j))))) (hn : n < 2147483648) (hws : ws.set q0 (a, .inl (y.1, n, .inl (fun j => iz (if j = i.toNat then x else f j)))) = ws') (hd : decode cc pc = .ok (.iastore, 1)) (hp : pc + 1 = pc') (k : GF X cc D z Q F pc' lv st ws') : GF X cc D z Q (bd i n F) pc lv (.int (iz x) :: .int (iz i) :: .ref a :: st) ws := by
  subst hp
  intro o ho H locs ls hP hD hS hl
  unfold bd at ho
  split at ho
  · next h =>
    obtain ⟨h1, h2⟩ := iz_in h hn
    refine va_iast hX.1 hX.2.1 hX.2.2.2.2.2.1 hP hD hS q0 0 ha rfl h1 hd (fun H1 locs1 hP1 hD1 hS1 => ?_)
    rw [h2, upd_iz, hws] at hP1 hD1
    exact k o ho H1 locs1 ls hP1 hD1 hS1 hl
  · cases ho
theorem nar_z {x : Int} (h : x = 0 ∨ x = 1) : vp_nar .boolean (iz x) = iz x := by
  rcases h with rfl | rfl <;> decide
theorem g_zast {O : Type} {X : Cx} {cc : ByteArray} {own : String} {rm : Room} {ret : Option FieldType} {D : va_G} {y : ClassId × ClassId × ClassId} {z : Nat × Nat} {Q : O → State → Prop} {F : Option O} {pc pc' : Nat} {lv : List (Option Value)} {st : List Value} {ws ws' : va_W} (hX : OKX X cc own rm ret D y) {a n : Nat} {f : Nat → Int} {i x : Int} (q0 : Nat) (ha : ws[q0]? = some (a, .inl (y.2.2, n, .inl (fun j => iz (f j))))) (hn : n < 2147483648) (hws : ws.set q0 (a, .inl (y.2.2, n, .inl (fun j => iz (if j = i.toNat then x else f j)))) = ws') (hd : decode cc pc = .ok (.bastore, 1)) (hp : pc + 1 = pc') (k : GF X cc D z Q F pc' lv st ws') : GF X cc D z Q (cb x (bd i n F)) pc lv (.int (iz x) :: .int (iz i) :: .ref a :: st) ws := by
  subst hp
  intro o ho H locs ls hP hD hS hl
  unfold cb at ho
  split at ho
  · next hx =>
    unfold bd at ho
    split at ho
    · next h =>
      obtain ⟨h1, h2⟩ := iz_in h hn
      refine va_zast hX.1 hX.2.1 hX.2.2.2.2.2.1 hP hD hS q0 2 ha rfl h1 hd (fun H1 locs1 hP1 hD1 hS1 => ?_)
      rw [h2, nar_z hx, upd_iz, hws] at hP1 hD1
      exact k o ho H1 locs1 ls hP1 hD1 hS1 hl
    · cases ho
  · cases ho
theorem g_last {O : Type} {X : Cx} {cc : ByteArray} {own : String} {rm : Room} {ret : Option FieldType} {D : va_G} {y : ClassId × ClassId × ClassId} {z : Nat × Nat} {Q : O → State → Prop} {F : Option O} {pc pc' : Nat} {lv : List (Option Value)} {st : List Value} {ws ws' : va_W} (hX : OKX X cc own rm ret D y) {a n : Nat} {f : Nat → Int} {i : Int} {x : Int64} (q0 : Nat) (ha : ws[q0]? = some (a, .inl (y.2.1, n, .inr (.inl (fun j => lz (f j)))))) (hn : n < 2147483648) (hws : ws.set q0 (a, .inl (y.2.1, n, .inr (.inl (fun j => lz (if j = i.toNat then x.toInt else f j))))) = ws') (hd : decode cc pc = .ok (.lastore, 1)) (hp : pc + 1 = pc') (k : GF X cc D z Q F pc' lv st ws') : GF X cc D z Q (bd i n F) pc lv (.long x :: .int (iz i) :: .ref a :: st) ws := by
  subst hp
  intro o ho H locs ls hP hD hS hl
  unfold bd at ho
  split at ho
  · next h =>
    obtain ⟨h1, h2⟩ := iz_in h hn
    refine va_last hX.1 hX.2.1 hX.2.2.2.2.2.1 hP hD hS q0 1 ha rfl h1 hd (fun H1 locs1 hP1 hD1 hS1 => ?_)
    rw [h2, updL_lz, hws] at hP1 hD1
    exact k o ho H1 locs1 ls hP1 hD1 hS1 hl
  · cases ho
theorem g_alen {O : Type} {X : Cx} {cc : ByteArray} {own : String} {rm : Room} {ret : Option FieldType} {D : va_G} {y : ClassId × ClassId × ClassId} {z : Nat × Nat} {Q : O → State → Prop} {F : Option O} {pc pc' : Nat} {lv : List (Option Value)} {st : List Value} {ws : va_W} (hX : OKX X cc own rm ret D y) {a : Nat} {x : vp_A} (n : Int) (q0 : Nat) (ha : ws[q0]? = some (a, .inl (y.1, x))) (hv : Int32.ofNat x.1 = iz n) (hd : decode cc pc = .ok (.arraylength, 1)) (hp : pc + 1 = pc') (k : GF X cc D z Q F pc' lv (.int (iz n) :: st) ws) : GF X cc D z Q F pc lv (.ref a :: st) ws := by
  subst hp
  intro o ho H locs ls hP hD hS hl
  exact va_alen hX.1 hX.2.1 hX.2.2.2.2.2.1 hP q0 0 ha rfl hv hd (k o ho H locs ls hP hD hS hl)
/-! ends -/
abbrev atW {σ : Type} (D : va_G) (y : ClassId × ClassId × ClassId) (w : σ → va_W) (A : Nat → Prop) (u : σ) (t : State) : Prop := va_P D vwCl (w u) t.heap ∧ va_K D vwCl (tyX y) t ∧ va_D A (w u)
def QI {σ : Type} (X : Cx) (D : va_G) (y : ClassId × ClassId × ClassId) (w : σ → va_W) : Int × σ → State → Prop := fun o => MQ (cxb X) (va_Qi (fun r u => r = iz o.1 ∧ u = o.2) (atW D y w (cxA X)) (cxA X)) (cxa X) (cxs X) 0 0 (cxA X)
def QV {σ : Type} (X : Cx) (D : va_G) (y : ClassId × ClassId × ClassId) (w : σ → va_W) : σ → State → Prop := fun o => MQ (cxb X) (va_Qv (fun u => u = o) (atW D y w (cxA X)) (cxA X)) (cxa X) (cxs X) 0 0 (cxA X)
def QP (X : Cx) : Int → State → Prop := fun o => MQ (cxb X) (va_Qi (fun r (_ : Unit) => r = iz o) (fun _ _ => True) (cxA X)) (cxa X) (cxs X) 0 0 (cxA X)
theorem g_iret {σ : Type} {X : Cx} {cc : ByteArray} {own : String} {rm : Room} {D : va_G} {y : ClassId × ClassId × ClassId} {pc : Nat} {lv : List (Option Value)} (hX : OKX X cc own rm (some .int) D y) {w : σ → va_W} {Y : σ} {a : Int} (hd : decode cc pc = .ok (.ireturn, 1)) : GF X cc D (0, 0) (QI X D y w) (some (a, Y)) pc lv [.int (iz a)] (w Y) := by
  intro o ho H locs ls hP hD hS hl
  cases ho
  exact W.iret hX.1 hX.2.1 hX.2.2.2.2.2.2.2.2.2 (fun t ht hW => ⟨⟨iz a, Y, rfl, ⟨rfl, rfl⟩, by rw [ht]; exact hP, va_K.moved hW.alike hX.2.2.2.2.2.1, hD⟩, hS.F ht⟩) hS.2.2 hd hX.2.2.2.2.2.2.2.1
theorem g_zret {σ : Type} {X : Cx} {cc : ByteArray} {own : String} {rm : Room} {D : va_G} {y : ClassId × ClassId × ClassId} {pc : Nat} {lv : List (Option Value)} (hX : OKX X cc own rm (some .boolean) D y) {w : σ → va_W} {Y : σ} {a : Int} (hd : decode cc pc = .ok (.ireturn, 1)) : GF X cc D (0, 0) (QI X D y w) (cb a (some (a, Y))) pc lv [.int (iz a)] (w Y) := by
  intro o ho H locs ls hP hD hS hl
  unfold cb at ho
  split at ho
  · next hz =>
    cases ho
    exact W.zret hX.1 hX.2.1 hX.2.2.2.2.2.2.2.2.2 (by rcases hz with rfl | rfl <;> decide) (fun t ht hW => ⟨⟨iz a, Y, rfl, ⟨rfl, rfl⟩, by rw [ht]; exact hP, va_K.moved hW.alike hX.2.2.2.2.2.1, hD⟩, hS.F ht⟩) hS.2.2 hd hX.2.2.2.2.2.2.2.1
  · cases ho
theorem g_vret {σ : Type} {X : Cx} {cc : ByteArray} {own : String} {rm : Room} {D : va_G} {y : ClassId × ClassId × ClassId} {pc : Nat} {lv : List (Option Value)} (hX : OKX X cc own rm none D y) {w : σ → va_W} {Y : σ} (hd : decode cc pc = .ok (.return_, 1)) : GF X cc D (0, 0) (QV X D y w) (some Y) pc lv [] (w Y) := by
  intro o ho H locs ls hP hD hS hl
  cases ho
  exact W.vret hX.1 hX.2.1 hX.2.2.2.2.2.2.2.2.2 (fun t ht hW => ⟨⟨Y, rfl, rfl, by rw [ht]; exact hP, va_K.moved hW.alike hX.2.2.2.2.2.1, hD⟩, hS.F ht⟩) hS.2.2 hd hX.2.2.2.2.2.2.2.1
theorem g_iretP {X : Cx} {cc : ByteArray} {own : String} {rm : Room} {D : va_G} {y : ClassId × ClassId × ClassId} {pc : Nat} {lv : List (Option Value)} {ws : va_W} (hX : OKX X cc own rm (some .int) D y) {a : Int} (hd : decode cc pc = .ok (.ireturn, 1)) : GF X cc D (0, 0) (QP X) (some a) pc lv [.int (iz a)] ws := by
  intro o ho H locs ls hP hD hS hl
  cases ho
  exact W.iret hX.1 hX.2.1 hX.2.2.2.2.2.2.2.2.2 (fun t ht hW => ⟨⟨iz a, (), rfl, rfl, trivial⟩, hS.F ht⟩) hS.2.2 hd hX.2.2.2.2.2.2.2.1
theorem g_zretP {X : Cx} {cc : ByteArray} {own : String} {rm : Room} {D : va_G} {y : ClassId × ClassId × ClassId} {pc : Nat} {lv : List (Option Value)} {ws : va_W} (hX : OKX X cc own rm (some .boolean) D y) {a : Int} (hd : decode cc pc = .ok (.ireturn, 1)) : GF X cc D (0, 0) (QP X) (cb a (some a)) pc lv [.int (iz a)] ws := by
  intro o ho H locs ls hP hD hS hl
  unfold cb at ho
  split at ho
  · next hz =>
    cases ho
    exact W.zret hX.1 hX.2.1 hX.2.2.2.2.2.2.2.2.2 (by rcases hz with rfl | rfl <;> decide) (fun t ht hW => ⟨⟨iz a, (), rfl, rfl, trivial⟩, hS.F ht⟩) hS.2.2 hd hX.2.2.2.2.2.2.2.1
  · cases ho
/-! contracts -/
abbrev PcW {σ : Type} (D : va_G) (y : ClassId × ClassId × ClassId) (av : List Value) (w : σ → va_W) (Y : σ) (sz : Nat) : Array Value → State → Prop := va_Pc av (fun U => U.heap.size = sz ∧ va_P D vwCl (w Y) U.heap ∧ va_K D vwCl (tyX y) U ∧ va_D (fun _ => True) (w Y))
def CtI {σ : Type} (l : Launch) (D : va_G) (y : ClassId × ClassId × ClassId) (yy : MethodName) (cc : ByteArray) (nL : Nat) (ret : Option FieldType) (rm : Room) (av : List Value) (w : σ → va_W) (Y : σ) (fo : Option (Int × σ)) : Prop :=
  ∀ r0 Y0, fo = some (r0, Y0) → ∀ sz, Met l yy (.code yy cc nL ret :: lw_gd) rm (PcW D y av w Y sz) (va_Qi (fun r u => r = iz r0 ∧ u = Y0) (atW D y w (va_A (w Y) sz)) (va_A (w Y) sz)) 0 0 (va_A (w Y) sz)
def CtV {σ : Type} (l : Launch) (D : va_G) (y : ClassId × ClassId × ClassId) (yy : MethodName) (cc : ByteArray) (nL : Nat) (rm : Room) (av : List Value) (w : σ → va_W) (Y : σ) (fo : Option σ) : Prop :=
  ∀ Y0, fo = some Y0 → ∀ sz, Met l yy (.code yy cc nL none :: lw_gd) rm (PcW D y av w Y sz) (va_Qv (fun u => u = Y0) (atW D y w (va_A (w Y) sz)) (va_A (w Y) sz)) 0 0 (va_A (w Y) sz)
def CtP (l : Launch) (D : va_G) (y : ClassId × ClassId × ClassId) (yy : MethodName) (cc : ByteArray) (nL : Nat) (ret : Option FieldType) (rm : Room) (av : List Value) (fo : Option Int) : Prop :=
  ∀ r0, fo = some r0 → ∀ sz, Met l yy (.code yy cc nL ret :: lw_gd) rm (va_Pc av (fun U => U.heap.size = sz ∧ va_K D vwCl (tyX y) U)) (va_Qi (fun r (_ : Unit) => r = iz r0) (fun _ _ => True) (va_A [] sz)) 0 0 (va_A [] sz)
theorem lvP_entry (m : MethodId) (vs : List Value) (n : Nat) (hc : ∀ v ∈ vs, v.category = 1) (hn : vs.length ≤ n) : ∃ ls, entryFrame m vs.toArray n = F0 m 0 ls [] ∧ lvP ls n (vs.map some ++ List.replicate (n - vs.length) none) := by
  have hsl : ∀ us : List Value, (∀ v ∈ us, v.category = 1) → lg_sl us = us.map Slot.val := by
    intro us
    induction us with
    | nil => intro _; rfl
    | cons v us ih =>
      intro h
      have h1 := h v List.mem_cons_self
      have h2 := ih (fun u hu => h u (List.mem_cons_of_mem _ hu))
      unfold lg_sl at h2 ⊢
      rw [List.flatMap_cons, h2, if_neg (by rw [h1]; decide)]
      rfl
  have hle : (lg_sl vs).length ≤ n := by rw [hsl vs hc, List.length_map]; exact hn
  have he := lv_entry vs (n := n) hle
  refine ⟨_, lg_entry_eq m vs n, he.1, by simp; omega, he.2.1, fun i v hv => ?_⟩
  have hi : i < vs.length := by
    by_cases h : i < vs.length
    · exact h
    · rw [List.getElem?_append_right (by simp; omega), List.getElem?_replicate] at hv
      split at hv <;> cases hv
  rw [List.getElem?_append_left (by simp; exact hi), List.getElem?_map] at hv
  have hv2 : vs[i]? = some v := by
    cases hq : vs[i]? with
    | none => rw [hq] at hv; cases hv
    | some u => rw [hq] at hv; cases hv; rfl
  refine ⟨?_, hc v (List.mem_of_getElem? hv2)⟩
  rw [hsl vs hc]
  rw [List.getElem?_toArray, List.getElem?_append_left (by simp; exact hi), List.getElem?_map, hv2]
  rfl
theorem ctI_of {σ : Type} {l : Launch} {D : va_G} {y : ClassId × ClassId × ClassId} {yy : MethodName} {cc : ByteArray} {nL : Nat} {ret : Option FieldType} {rm : Room} {vs : List Value} {w : σ → va_W} {Y : σ} {fo : Option (Int × σ)} {own : String} (hown : yy.cls = own) (hy : plainName yy.cls = true) (hcat : ∀ v ∈ vs, v.category = 1) (hle : Nat.ble vs.length nL = true)
    (h : ∀ X : Cx, cxl X = l → OKX X cc own rm ret D y → GF X cc D (0, 0) (QI X D y w) fo 0 (vs.map some ++ List.replicate (nL - vs.length) none) [] (w Y)) : CtI l D y yy cc nL ret rm vs w Y fo := by
  intro r0 Y0 hfo sz
  refine Met.ofW (cc := cc) (maxL := nL) (ret := ret) hy rfl ?_
  intro p e s m args below meth c s₁ B hml hv
  obtain ⟨rfl, hsz, hP, hK, hD0⟩ := hv
  subst hsz
  subst hown
  have hts := atoms_spec (ws := Cond.code yy cc nL ret :: lw_gd) B.pre
  obtain ⟨ls, he, hl⟩ := lvP_entry m vs nL hcat (Nat.le_of_ble_eq_true hle)
  rw [he]
  exact h ((p, l, e, rm), (s, m, vs.toArray, below), (meth, c, nL, va_A (w Y) s.heap.size)) rfl ⟨B.exec, B.bytes, hml, findClass_of_methodNamed B.named, fun w hw => hts w (List.mem_cons_of_mem _ hw), hK, fun q hq => Or.inr hq, B.notSynchronized, rfl, B.returns⟩ (r0, Y0) hfo s.heap [] ls hP (hD0.self) va_S.rf hl
theorem ctV_of {σ : Type} {l : Launch} {D : va_G} {y : ClassId × ClassId × ClassId} {yy : MethodName} {cc : ByteArray} {nL : Nat} {rm : Room} {vs : List Value} {w : σ → va_W} {Y : σ} {fo : Option σ} {own : String} (hown : yy.cls = own) (hy : plainName yy.cls = true) (hcat : ∀ v ∈ vs, v.category = 1) (hle : Nat.ble vs.length nL = true)
    (h : ∀ X : Cx, cxl X = l → OKX X cc own rm none D y → GF X cc D (0, 0) (QV X D y w) fo 0 (vs.map some ++ List.replicate (nL - vs.length) none) [] (w Y)) : CtV l D y yy cc nL rm vs w Y fo := by
  intro Y0 hfo sz
  refine Met.ofW (cc := cc) (maxL := nL) (ret := none) hy rfl ?_
  intro p e s m args below meth c s₁ B hml hv
  obtain ⟨rfl, hsz, hP, hK, hD0⟩ := hv
  subst hsz
  subst hown
  have hts := atoms_spec (ws := Cond.code yy cc nL none :: lw_gd) B.pre
  obtain ⟨ls, he, hl⟩ := lvP_entry m vs nL hcat (Nat.le_of_ble_eq_true hle)
  rw [he]
  exact h ((p, l, e, rm), (s, m, vs.toArray, below), (meth, c, nL, va_A (w Y) s.heap.size)) rfl ⟨B.exec, B.bytes, hml, findClass_of_methodNamed B.named, fun w hw => hts w (List.mem_cons_of_mem _ hw), hK, fun q hq => Or.inr hq, B.notSynchronized, rfl, B.returns⟩ Y0 hfo s.heap [] ls hP (hD0.self) va_S.rf hl
theorem ctP_of {l : Launch} {D : va_G} {y : ClassId × ClassId × ClassId} {yy : MethodName} {cc : ByteArray} {nL : Nat} {ret : Option FieldType} {rm : Room} {vs : List Value} {fo : Option Int} {own : String} (hown : yy.cls = own) (hy : plainName yy.cls = true) (hcat : ∀ v ∈ vs, v.category = 1) (hle : Nat.ble vs.length nL = true)
    (h : ∀ X : Cx, cxl X = l → OKX X cc own rm ret D y → GF X cc D (0, 0) (QP X) fo 0 (vs.map some ++ List.replicate (nL - vs.length) none) [] []) : CtP l D y yy cc nL ret rm vs fo := by
  intro r0 hfo sz
  refine Met.ofW (cc := cc) (maxL := nL) (ret := ret) hy rfl ?_
  intro p e s m args below meth c s₁ B hml hv
  obtain ⟨rfl, hsz, hK⟩ := hv
  subst hsz
  subst hown
  have hts := atoms_spec (ws := Cond.code yy cc nL ret :: lw_gd) B.pre
  obtain ⟨ls, he, hl⟩ := lvP_entry m vs nL hcat (Nat.le_of_ble_eq_true hle)
  rw [he]
  exact h ((p, l, e, rm), (s, m, vs.toArray, below), (meth, c, nL, va_A [] s.heap.size)) rfl ⟨B.exec, B.bytes, hml, findClass_of_methodNamed B.named, fun w hw => hts w (List.mem_cons_of_mem _ hw), hK, fun q hq => Or.inr hq, B.notSynchronized, rfl, B.returns⟩ r0 hfo s.heap [] ls (fun k q h => by simp at h) ⟨fun i j p q h => by simp at h, fun k q h => by simp at h⟩ va_S.rf hl
