/-! making objects and arrays; contracts of constructors -/
theorem va_arr_eq {D : va_G} {y : ClassId × ClassId × ClassId} {s : State} (hK : va_K D vwCl (tyX y) s) : s.vm.findClass ("[" ++ FieldType.int.toString) = some y.1 ∧ s.vm.findClass ("[" ++ FieldType.long.toString) = some y.2.1 ∧ s.vm.findClass ("[" ++ FieldType.boolean.toString) = some y.2.2 := ⟨(hK.2 0 _ rfl).2, (hK.2 1 _ rfl).2, (hK.2 2 _ rfl).2⟩
theorem g_newI {O : Type} {X : Cx} {cc : ByteArray} {own : String} {rm : Room} {ret : Option FieldType} {D : va_G} {y : ClassId × ClassId × ClassId} {z : Nat × Nat} {Q : O → State → Prop} {F : Option O} {pc pc' : Nat} {lv : List (Option Value)} {st : List Value} {ws : va_W} (hX : OKX X cc own rm ret D y) {i : Int} (n : Nat) (hw : Cond.arrayClass .int ∈ lw_gd) (hn : ¬ iz i < 0 ∧ (iz i).toNatClampNeg = n ∧ n * 4 ≤ 536870912) (hr : z.1 + 1 ≤ rm.cells ∧ z.2 + n ≤ rm.slots) (hd : decode cc pc = .ok (.newarray .int, 2)) (hp : pc + 2 = pc') (k : ∀ a, GF X cc D (z.1 + 1, z.2 + n) Q F pc' lv (.ref a :: st) (ws ++ [(a, .inl (y.1, n, .inl (fun _ => iz 0)))])) : GF X cc D z Q F pc lv (.int (iz i) :: st) ws := by
  subst hp
  intro o ho H locs ls hP hD hS hl
  refine va_newa (atype := .int) (ty := .int) (a0 := (n, .inl (fun _ => iz 0))) hX.1 hX.2.1 (hX.2.2.2.2.1 _ hw) rfl hX.2.2.2.2.2.1 hP hD hS hX.2.2.2.2.2.2.1 (fun cA => by rw [vp_cell_i]; rfl) hn.1 hn.2.1 hn.2.2 (by rw [hX.2.2.2.2.2.2.2.2.1]; exact hr.1) (by rw [hX.2.2.2.2.2.2.2.2.1]; exact hr.2) hd (fun q cA H1 hK1 hP1 hD1 hS1 => ?_)
  have he : cA = y.1 := Option.some.inj (((hK1.2 3 _ rfl).2 : (cxs X).vm.findClass ("[" ++ FieldType.int.toString) = some cA).symm.trans (va_arr_eq hX.2.2.2.2.2.1).1)
  subst he
  exact k q o ho H1 locs ls hP1 hD1 hS1 hl
theorem g_newJ {O : Type} {X : Cx} {cc : ByteArray} {own : String} {rm : Room} {ret : Option FieldType} {D : va_G} {y : ClassId × ClassId × ClassId} {z : Nat × Nat} {Q : O → State → Prop} {F : Option O} {pc pc' : Nat} {lv : List (Option Value)} {st : List Value} {ws : va_W} (hX : OKX X cc own rm ret D y) {i : Int} (n : Nat) (hw : Cond.arrayClass .long ∈ lw_gd) (hn : ¬ iz i < 0 ∧ (iz i).toNatClampNeg = n ∧ n * 8 ≤ 536870912) (hr : z.1 + 1 ≤ rm.cells ∧ z.2 + n ≤ rm.slots) (hd : decode cc pc = .ok (.newarray .long, 2)) (hp : pc + 2 = pc') (k : ∀ a, GF X cc D (z.1 + 1, z.2 + n) Q F pc' lv (.ref a :: st) (ws ++ [(a, .inl (y.2.1, n, .inr (.inl (fun _ => lz 0))))])) : GF X cc D z Q F pc lv (.int (iz i) :: st) ws := by
  subst hp
  intro o ho H locs ls hP hD hS hl
  refine va_newa (atype := .long) (ty := .long) (a0 := (n, .inr (.inl (fun _ => lz 0)))) hX.1 hX.2.1 (hX.2.2.2.2.1 _ hw) rfl hX.2.2.2.2.2.1 hP hD hS hX.2.2.2.2.2.2.1 (fun cA => rfl) hn.1 hn.2.1 hn.2.2 (by rw [hX.2.2.2.2.2.2.2.2.1]; exact hr.1) (by rw [hX.2.2.2.2.2.2.2.2.1]; exact hr.2) hd (fun q cA H1 hK1 hP1 hD1 hS1 => ?_)
  have he : cA = y.2.1 := Option.some.inj (((hK1.2 3 _ rfl).2 : (cxs X).vm.findClass ("[" ++ FieldType.long.toString) = some cA).symm.trans (va_arr_eq hX.2.2.2.2.2.1).2.1)
  subst he
  exact k q o ho H1 locs ls hP1 hD1 hS1 hl
theorem g_newZ {O : Type} {X : Cx} {cc : ByteArray} {own : String} {rm : Room} {ret : Option FieldType} {D : va_G} {y : ClassId × ClassId × ClassId} {z : Nat × Nat} {Q : O → State → Prop} {F : Option O} {pc pc' : Nat} {lv : List (Option Value)} {st : List Value} {ws : va_W} (hX : OKX X cc own rm ret D y) {i : Int} (n : Nat) (hw : Cond.arrayClass .boolean ∈ lw_gd) (hn : ¬ iz i < 0 ∧ (iz i).toNatClampNeg = n ∧ n * 1 ≤ 536870912) (hr : z.1 + 1 ≤ rm.cells ∧ z.2 + n ≤ rm.slots) (hd : decode cc pc = .ok (.newarray .boolean, 2)) (hp : pc + 2 = pc') (k : ∀ a, GF X cc D (z.1 + 1, z.2 + n) Q F pc' lv (.ref a :: st) (ws ++ [(a, .inl (y.2.2, n, .inl (fun _ => iz 0)))])) : GF X cc D z Q F pc lv (.int (iz i) :: st) ws := by
  subst hp
  intro o ho H locs ls hP hD hS hl
  refine va_newa (atype := .boolean) (ty := .boolean) (a0 := (n, .inl (fun _ => iz 0))) hX.1 hX.2.1 (hX.2.2.2.2.1 _ hw) rfl hX.2.2.2.2.2.1 hP hD hS hX.2.2.2.2.2.2.1 (fun cA => by rw [vp_cell_i]; rfl) hn.1 hn.2.1 hn.2.2 (by rw [hX.2.2.2.2.2.2.2.2.1]; exact hr.1) (by rw [hX.2.2.2.2.2.2.2.2.1]; exact hr.2) hd (fun q cA H1 hK1 hP1 hD1 hS1 => ?_)
  have he : cA = y.2.2 := Option.some.inj (((hK1.2 3 _ rfl).2 : (cxs X).vm.findClass ("[" ++ FieldType.boolean.toString) = some cA).symm.trans (va_arr_eq hX.2.2.2.2.2.1).2.2)
  subst he
  exact k q o ho H1 locs ls hP1 hD1 hS1 hl
theorem g_new {O : Type} {X : Cx} {cc : ByteArray} {own : String} {rm : Room} {ret : Option FieldType} {D : va_G} {y : ClassId × ClassId × ClassId} {z : Nat × Nat} {Q : O → State → Prop} {F : Option O} {pc pc' : Nat} {lv : List (Option Value)} {st : List Value} {ws : va_W} (hX : OKX X cc own rm ret D y) {C : String} {T : u_T} {N ci idx : Nat} {fs : List Value} (ty : Nat → FieldType) (hin : ∀ w ∈ u_ws C T N, w ∈ lw_gd) (hty : ∀ k, k < N → parseFieldDescriptor (T k).2.2.1 = some (ty k)) (hw : Cond.classLink own idx C ∈ lw_gd ∧ Cond.instantiable C N ∈ lw_gd ∧ Cond.initialized C ∈ lw_gd) (hc : vwCl[ci]? = some (C, T, N)) (hfs : ∀ j, j < N → defaultValue (ty j) = vp_V fs j) (hr : z.1 + 1 ≤ rm.cells ∧ z.2 + N ≤ rm.slots) (hd : decode cc pc = .ok (.new idx, 3)) (hp : pc + 3 = pc') (k : ∀ a, GF X cc D (z.1 + 1, z.2 + N) Q F pc' lv (.ref a :: st) (ws ++ [(a, .inr (ci, fs))])) : GF X cc D z Q F pc lv st ws := by
  subst hp
  intro o ho H locs ls hP hD hS hl
  exact va_new hX.1 hX.2.1 hX.2.2.2.2.1 hin ty hty hX.2.2.2.1 (hX.2.2.2.2.1 _ hw.1) (hX.2.2.2.2.1 _ hw.2.1) (hX.2.2.2.2.1 _ hw.2.2) hX.2.2.2.2.2.1 hP hD hS hX.2.2.2.2.2.2.1 hc hfs (by rw [hX.2.2.2.2.2.2.2.2.1]; exact hr.1) (by rw [hX.2.2.2.2.2.2.2.2.1]; exact hr.2) hd (fun q H1 hP1 hD1 hS1 => k q o ho H1 locs ls hP1 hD1 hS1 hl)
theorem g_putF {O : Type} {X : Cx} {cc : ByteArray} {own : String} {rm : Room} {ret : Option FieldType} {D : va_G} {y : ClassId × ClassId × ClassId} {z : Nat × Nat} {Q : O → State → Prop} {F : Option O} {pc pc' : Nat} {lv : List (Option Value)} {st : List Value} {ws ws' : va_W} (hX : OKX X cc own rm ret D y) (hi : (cxM X).name = "<init>") {C : String} {T : u_T} {N ci idx a : Nat} {fs : List Value} {v : Value} {ty : FieldType} (ty0 : Nat → FieldType) (q0 k : Nat) (hin : ∀ w ∈ u_ws C T N, w ∈ lw_gd) (hty : ∀ k, k < N → parseFieldDescriptor (T k).2.2.1 = some (ty0 k)) (hnm : ∀ a, a < N → ∀ b, b < N → a ≠ b → (T a).2.1 ≠ (T b).2.1) (he : ws[q0]? = some (a, .inr (ci, fs))) (hc : vwCl[ci]? = some (C, T, N)) (hk : k < N) (hm : Cond.fieldLink own idx (T k).1 (T k).2.1 (T k).2.2.1 ∈ lw_gd) (hfin : (T k).2.2.2 = true) (hdecl : (T k).1 = own) (ht0 : ty0 k = ty) (hn : narrow ty v = v) (hfit : fits ty v = true) (hl0 : Nat.ble (k + 1) fs.length = true) (hws : ws.set q0 (a, .inr (ci, fs.set k v)) = ws') (hd : decode cc pc = .ok (.putfield idx, 3)) (hp : pc + 3 = pc') (kk : GF X cc D z Q F pc' lv st ws') : GF X cc D z Q F pc lv (v :: .ref a :: st) ws := by
  subst hp
  intro o ho H locs ls hP hD hS hl
  refine va_putF hX.1 hX.2.1 hX.2.2.2.2.1 hin ty0 hty hnm hX.2.2.2.1 hX.2.2.2.2.2.1 hP hD hS q0 he hc k hk (hX.2.2.2.2.1 _ hm) (fun _ h => h) hfin hi hdecl (ht0 ▸ hty k hk) hn hfit (Nat.le_of_ble_eq_true hl0) hd (fun H1 locs1 hP1 hD1 hS1 => ?_)
  rw [hws] at hP1 hD1
  exact kk o ho H1 locs1 ls hP1 hD1 hS1 hl
theorem g_obj {O : Type} {X : Cx} {cc : ByteArray} {own : String} {rm : Room} {ret : Option FieldType} {D : va_G} {y : ClassId × ClassId × ClassId} {z : Nat × Nat} {Q : O → State → Prop} {F : Option O} {pc pc' : Nat} {lv : List (Option Value)} {st : List Value} {ws : va_W} {a idx : Nat} (hX : OKX X cc own rm ret D y) (hw : Cond.methodLink own idx Lib.objectInit ∈ lw_gd ∧ Cond.instanceMethod Lib.objectInit ∈ lw_gd ∧ Cond.code Lib.objectInit ⟨#[0xb1]⟩ 1 none ∈ lw_gd) (hr : 1 ≤ rm.frames ∧ 20 ≤ rm.locals) (hrest : (st.map fun v => v.category).sum ≤ 8) (hd : decode cc pc = .ok (.invokespecial idx, 3)) (hp : pc + 3 = pc') (k : GF X cc D z Q F pc' lv st ws) : GF X cc D z Q F pc lv (.ref a :: st) ws := by
  subst hp
  intro o ho H locs ls hP hD hS hl
  refine W.objInit hX.1 hX.2.1 hX.2.2.2.1 (hX.2.2.2.2.1 _ hw.1) (hX.2.2.2.2.1 _ hw.2.1) (hX.2.2.2.2.1 _ hw.2.2) rfl (hl.1.trans hX.2.2.1.symm) rfl hd (by rw [hX.2.2.2.2.2.2.2.2.1]; exact hr.1) (by rw [hX.2.2.2.2.2.2.2.2.1]; show 2 * 0 + _ + 12 ≤ _; omega) ?_
  exact W.eq (g2 := F0 (cxm X) (pc + 3) ls st) rfl (k o ho H locs ls hP hD hS hl)
/-- a constructor: from its fresh object to a world at addresses of its own -/
def CtN (l : Launch) (D : va_G) (y : ClassId × ClassId × ClassId) (yy : MethodName) (cc : ByteArray) (nL : Nat) (rm : Room) (av : List Value) (ws0 : va_W) (B : (Nat → Nat) → va_W) (h mc ms : Nat) : Prop :=
  ∀ sz, Met l yy (.code yy cc nL none :: lw_gd) rm (va_Pc av (fun U => U.heap.size = sz ∧ va_P D vwCl ws0 U.heap ∧ va_K D vwCl (tyX y) U ∧ va_D (fun _ => True) ws0)) (va_Qv (fun q : Nat → Nat => q 0 = h) (atW D y B (va_A ws0 sz)) (va_A ws0 sz)) mc ms (va_A ws0 sz)
def QN (X : Cx) (D : va_G) (y : ClassId × ClassId × ClassId) (B : (Nat → Nat) → va_W) (h mc ms : Nat) : Unit → State → Prop := fun _ => MQ (cxb X) (va_Qv (fun q : Nat → Nat => q 0 = h) (atW D y B (cxA X)) (cxA X)) (cxa X) (cxs X) mc ms (cxA X)
theorem g_vretN {X : Cx} {cc : ByteArray} {own : String} {rm : Room} {D : va_G} {y : ClassId × ClassId × ClassId} {pc : Nat} {lv : List (Option Value)} {ws : va_W} (hX : OKX X cc own rm none D y) {B : (Nat → Nat) → va_W} {h mc ms : Nat} (q : Nat → Nat) (is : List Nat) (hq : q 0 = h) (hnd : va_nd is = true) (hw : is.map (fun i => ws[i]?) = (B q).map some) (hd : decode cc pc = .ok (.return_, 1)) : GF X cc D (mc, ms) (QN X D y B h mc ms) (some ()) pc lv [] ws := by
  intro o ho H locs ls hP hD hS hl
  exact W.vret hX.1 hX.2.1 hX.2.2.2.2.2.2.2.2.2 (fun t ht hW => ⟨⟨q, rfl, hq, by rw [ht]; exact hP.sub is (fm_of_map hw), va_K.moved hW.alike hX.2.2.2.2.2.1, hD.sub is hnd hw⟩, hS.F ht⟩) hS.2.2 hd hX.2.2.2.2.2.2.2.1
theorem ctN_of {l : Launch} {D : va_G} {y : ClassId × ClassId × ClassId} {yy : MethodName} {cc : ByteArray} {nL : Nat} {rm : Room} {vs : List Value} {ws0 : va_W} {B : (Nat → Nat) → va_W} {h0 mc ms : Nat} {own : String} (hown : yy.cls = own) (hnm : yy.name = "<init>") (hy : plainName yy.cls = true) (hcat : ∀ v ∈ vs, v.category = 1) (hle : Nat.ble vs.length nL = true)
    (h : ∀ X : Cx, cxl X = l → (cxM X).name = "<init>" → OKX X cc own rm none D y → GF X cc D (0, 0) (QN X D y B h0 mc ms) (some ()) 0 (vs.map some ++ List.replicate (nL - vs.length) none) [] ws0) : CtN l D y yy cc nL rm vs ws0 B h0 mc ms := by
  intro sz
  refine Met.ofW (cc := cc) (maxL := nL) (ret := none) hy rfl ?_
  intro p e s m args below meth c s₁ B0 hml hv
  obtain ⟨rfl, hsz, hP, hK, hD0⟩ := hv
  subst hsz
  subst hown
  have hts := atoms_spec (ws := Cond.code yy cc nL none :: lw_gd) B0.pre
  obtain ⟨ls, he, hl⟩ := lvP_entry m vs nL hcat (Nat.le_of_ble_eq_true hle)
  rw [he]
  exact h ((p, l, e, rm), (s, m, vs.toArray, below), (meth, c, nL, va_A ws0 s.heap.size)) rfl ((name_of_methodNamed B0.named B0.method).1.trans hnm) ⟨B0.exec, B0.bytes, hml, findClass_of_methodNamed B0.named, fun w hw => hts w (List.mem_cons_of_mem _ hw), hK, fun q hq => Or.inr hq, B0.notSynchronized, rfl, B0.returns⟩ () rfl s.heap [] ls hP (hD0.self) va_S.rf hl
def IW (own : String) (idx : Nat) (yy : MethodName) (bytes : ByteArray) (maxL : Nat) (n : Nat) : Prop :=
  Cond.methodLink own idx yy ∈ lw_gd ∧ Cond.instanceMethod yy ∈ lw_gd ∧ Cond.initialized yy.cls ∈ lw_gd ∧ Cond.code yy bytes maxL none ∈ lw_gd ∧ yy.name = "<init>" ∧ yy.cls ≠ "java/lang/invoke/MethodHandle" ∧ yy.cls ≠ "java/lang/invoke/VarHandle" ∧ (parseMethodDescriptor yy.desc).map (fun d => d.parameters.length) = some n
theorem g_calln {O : Type} {X : Cx} {cc : ByteArray} {own : String} {rm : Room} {ret : Option FieldType} {D : va_G} {y : ClassId × ClassId × ClassId} {z : Nat × Nat} {Q : O → State → Prop} {F : Option O} {pc pc' : Nat} {lv : List (Option Value)} {st rest As : List Value} {ws wr wsC : va_W} {isC isR : List Nat} {idx n b mc ms : Nat} {yy : MethodName} {bytes : ByteArray} {maxL : Nat} {rmc : Room} {B : (Nat → Nat) → va_W} (hX : OKX X cc own rm ret D y)
    (hM : CtN (cxl X) D y yy bytes maxL rmc (.ref b :: As) wsC B b mc ms) (hC : isC.map (fun i => ws[i]?) = wsC.map some) (hR : isR.map (fun i => ws[i]?) = wr.map some) (hnd : va_nd isC = true ∧ va_nd isR = true ∧ ∀ i ∈ isR, i ∉ isC) (hw : IW own idx yy bytes maxL n) (hrm : rmc.cells = mc ∧ rmc.slots = ms ∧ rmc.frames + 1 ≤ rm.frames ∧ 8 + (maxL + 11) + rmc.locals ≤ rm.locals ∧ z.1 + mc ≤ rm.cells ∧ z.2 + ms ≤ rm.slots) (hn : As.length = n) (hst : st = As.reverse ++ .ref b :: rest) (hrest : (rest.map fun v => v.category).sum ≤ 8) (hd : decode cc pc = .ok (.invokespecial idx, 3)) (hp : pc + 3 = pc')
    (k : ∀ q : Nat → Nat, q 0 = b → GF X cc D (z.1 + mc, z.2 + ms) Q F pc' lv rest (wr ++ B q)) : GF X cc D z Q F pc lv st ws := by
  subst hp
  intro o ho H locs ls hP hD hS hl
  have hm := hM H.size
  have hPc := hP.sub (ws' := wsC) isC (fm_of_map hC)
  have hFc := va_free (wc := wsC) hD hS hX.2.2.2.2.2.2.1 isC hC
  have hDc : va_D (fun _ => True) wsC := (hD.sub (ws' := wsC) isC hnd.1 hC).weaken (fun _ _ _ _ => trivial)
  have hB : CallB (cxR X) (cxs X) (cxa X) own idx yy bytes maxL none (Cond.code yy bytes maxL none :: lw_gd) rmc mc ms n := by
    refine callB_of n hX.2.2.2.2.1 (good_all hw.2.2.2.1) rfl hrm.1 hrm.2.1 (hX.2.2.2.2.1 _ hw.2.2.1) (hX.2.2.2.2.1 _ hw.1) hw.2.2.2.2.2 ?_
    rw [hX.2.2.2.2.2.2.2.2.1]
    exact ⟨hrm.2.2.1, hrm.2.2.2.1⟩
  refine va_callv (va_runI (As := As) (rest := rest) ⟨hX.1, hX.2.1, hX.2.2.1, hX.2.2.2.1, hX.2.2.2.2.1⟩ hm ⟨hB, hw.2.2.2.2.1, hX.2.2.2.2.1 _ hw.2.1⟩ ⟨fun a U g mk q => by
      obtain ⟨q0, q1, qP, qK, qD⟩ := q
      exact ⟨q0, q1, qP, va_K.moved (u := U) (U := U.calling g mk a) (Vm.Alike.refl U.vm) qK, qD⟩, fun U hU hWm => ⟨rfl, by rw [hU], by rw [hU]; exact hPc, va_K.moved hWm.alike hX.2.2.2.2.2.1, hDc⟩⟩ rfl hn hl.1 hst (lv_room hrest) hd ⟨by rw [hX.2.2.2.2.2.2.2.2.1]; exact hrm.2.2.2.2.1, by rw [hX.2.2.2.2.2.2.2.2.1]; exact hrm.2.2.2.2.2⟩) hS (fun q _ h => hFc q h) hFc (fun u t H1 locs1 ht hvm hw1 hB hz1 hk1 hS1 => ?_)
  obtain ⟨hP1, hK1, hD1⟩ := hB
  rw [ht] at hP1
  obtain ⟨hP2, hD2⟩ := va_join (wr := wr) (w1 := B u) hP hD isC isR hC hR hnd.2.1 hnd.2.2 hk1 hFc hP1 hD1
  exact k u hw1 o ho H1 locs1 ls hP2 hD2 hS1 hl
