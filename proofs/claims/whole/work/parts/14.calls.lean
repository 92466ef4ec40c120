/-! calls over GF -/
theorem good_all {yy : MethodName} {cc : ByteArray} {nL : Nat} {ret : Option FieldType} (h : Cond.code yy cc nL ret ∈ lw_gd) : GoodIn lw_gd (Cond.code yy cc nL ret :: lw_gd) := by
  intro w hw
  have hm : w ∈ lw_gd := by
    rcases List.mem_cons.mp hw with rfl | hw
    · exact h
    · exact hw
  exact ⟨hm, good_of_word (List.mem_filter.mp hm).2⟩
/-- what the tables say of a call of an instance method -/
def VW (own : String) (idx : Nat) (C : String) (yy : MethodName) (bytes : ByteArray) (maxL : Nat) (retc : Option FieldType) (n : Nat) : Prop :=
  Cond.methodLink own idx yy ∈ lw_gd ∧ Cond.instanceMethod yy ∈ lw_gd ∧ Cond.selects C yy yy ∈ lw_gd ∧ Cond.initialized yy.cls ∈ lw_gd ∧ Cond.code yy bytes maxL retc ∈ lw_gd ∧ yy.cls ≠ "java/lang/invoke/MethodHandle" ∧ yy.cls ≠ "java/lang/invoke/VarHandle" ∧ (parseMethodDescriptor yy.desc).map (fun d => d.parameters.length) = some n
def SW (own : String) (idx : Nat) (yy : MethodName) (bytes : ByteArray) (maxL : Nat) (retc : Option FieldType) (n : Nat) : Prop :=
  Cond.methodLink own idx yy ∈ lw_gd ∧ Cond.static yy ∈ lw_gd ∧ Cond.initialized yy.cls ∈ lw_gd ∧ Cond.code yy bytes maxL retc ∈ lw_gd ∧ yy.cls ≠ "java/lang/invoke/MethodHandle" ∧ yy.cls ≠ "java/lang/invoke/VarHandle" ∧ (parseMethodDescriptor yy.desc).map (fun d => d.parameters.length) = some n
abbrev RoomOK (rmc rm : Room) (maxL : Nat) (z : Nat × Nat) : Prop := rmc.cells = 0 ∧ rmc.slots = 0 ∧ rmc.frames + 1 ≤ rm.frames ∧ 8 + (maxL + 11) + rmc.locals ≤ rm.locals ∧ z.1 ≤ rm.cells ∧ z.2 ≤ rm.slots
theorem callB_in {X : Cx} {cc : ByteArray} {own : String} {rm : Room} {ret : Option FieldType} {D : va_G} {y : ClassId × ClassId × ClassId} (hX : OKX X cc own rm ret D y) {idx : Nat} {yy : MethodName} {bytes : ByteArray} {maxL n : Nat} {retc : Option FieldType} {rmc : Room} (hl : Cond.methodLink own idx yy ∈ lw_gd) (hi : Cond.initialized yy.cls ∈ lw_gd) (hc : Cond.code yy bytes maxL retc ∈ lw_gd) (hd : yy.cls ≠ "java/lang/invoke/MethodHandle" ∧ yy.cls ≠ "java/lang/invoke/VarHandle" ∧ (parseMethodDescriptor yy.desc).map (fun d => d.parameters.length) = some n) {z : Nat × Nat} (hr : RoomOK rmc rm maxL z) : CallB (cxR X) (cxs X) (cxa X) own idx yy bytes maxL retc (Cond.code yy bytes maxL retc :: lw_gd) rmc 0 0 n := by
  refine callB_of n hX.2.2.2.2.1 (good_all hc) rfl hr.1 hr.2.1 (hX.2.2.2.2.1 _ hi) (hX.2.2.2.2.1 _ hl) hd ?_
  rw [hX.2.2.2.2.2.2.2.2.1]
  exact ⟨hr.2.2.1, hr.2.2.2.1⟩
/-- a callee's cells in the caller's world, the rest, and the caller's world behind the call -/
def PR {ρ : Type} (ws wcY : va_W) (wcu wput : ρ → va_W) (isC isR isW : List Nat) (wr : va_W) : Prop :=
  isC.map (fun i => ws[i]?) = wcY.map some ∧ isR.map (fun i => ws[i]?) = wr.map some ∧ va_nd isC = true ∧ va_nd isR = true ∧ (∀ i ∈ isR, i ∉ isC) ∧ va_nd isW = true ∧ ∀ u, isW.map (fun i => (wr ++ wcu u)[i]?) = (wput u).map some
theorem fm_of_map {ws ws' : va_W} {is : List Nat} (h : is.map (fun i => ws[i]?) = ws'.map some) : is.filterMap (fun i => ws[i]?) = ws' := by
  have h2 : (is.map (fun i => ws[i]?)).filterMap id = (ws'.map some).filterMap id := by rw [h]
  rw [List.filterMap_map, List.filterMap_map] at h2
  simpa using h2
theorem nil_P {D : va_G} {H : Heap} : va_P D vwCl [] H := fun k q h => by simp at h
theorem nil_D {A : Nat → Prop} : va_D A [] := ⟨fun i j p q h => by simp at h, fun k q h => by simp at h⟩
theorem blindW {σ : Type} {D : va_G} {y : ClassId × ClassId × ClassId} {av : List Value} {w : σ → va_W} {Y : σ} {sz : Nat} : FrameBlind (PcW D y av w Y sz) := fun a U g mk q => by
  obtain ⟨q0, q1, qP, qK, qD⟩ := q
  exact ⟨q0, q1, qP, va_K.moved (u := U) (U := U.calling g mk a) (Vm.Alike.refl U.vm) qK, qD⟩
theorem g_calli {σ ρ O : Type} {X : Cx} {cc : ByteArray} {own : String} {rm : Room} {ret : Option FieldType} {D : va_G} {y : ClassId × ClassId × ClassId} {z : Nat × Nat} {Q : O → State → Prop} {F : Int → σ → Option O} {pc pc' : Nat} {lv : List (Option Value)} {st rest As : List Value} {ws wr : va_W} {isC isR isW : List Nat} {C : String} {T : u_T} {idx ci n N b : Nat} {fs : List Value} {yy : MethodName} {bytes : ByteArray} {maxL : Nat} {retc : Option FieldType} {rmc : Room} {wc : ρ → va_W} {Yc : ρ} {fc : Option (Int × ρ)} {put : ρ → σ} {w : σ → va_W} (hX : OKX X cc own rm ret D y)
    (hM : CtI (cxl X) D y yy bytes maxL retc rmc (.ref b :: As) wc Yc fc) (hpr : PR ws (wc Yc) wc (fun u => w (put u)) isC isR isW wr) (he : (wc Yc)[0]? = some (b, .inr (ci, fs))) (hc : vwCl[ci]? = some (C, T, N)) (hw : VW own idx C yy bytes maxL retc n) (hrm : RoomOK rmc rm maxL z) (hn : As.length = n) (hst : st = As.reverse ++ .ref b :: rest) (hrest : (rest.map fun v => v.category).sum ≤ 8) (hd : decode cc pc = .ok (.invokevirtual idx, 3)) (hp : pc + 3 = pc')
    (k : ∀ r Y1, GF X cc D z Q (F r Y1) pc' lv (.int (iz r) :: rest) (w Y1)) : GF X cc D z Q (cls fc put F) pc lv st ws := by
  subst hp
  intro o ho H locs ls hP hD hS hl
  unfold cls at ho
  cases hfc : fc with
  | none => rw [hfc] at ho; cases ho
  | some q =>
    obtain ⟨r0, u0⟩ := q
    rw [hfc] at ho
    have hm := hM r0 u0 hfc H.size
    obtain ⟨hC, hR, hnC, hnR, hdis, hnW, hW⟩ := hpr
    have hPc := hP.sub (ws' := wc Yc) isC (fm_of_map hC)
    have hFc := va_free (wc := wc Yc) hD hS hX.2.2.2.2.2.2.1 isC hC
    have hDc : va_D (fun _ => True) (wc Yc) := (hD.sub (ws' := wc Yc) isC hnC hC).weaken (fun _ _ _ _ => trivial)
    refine va_calli (va_runV (As := As) (rest := rest) ⟨hX.1, hX.2.1, hX.2.2.1, hX.2.2.2.1, hX.2.2.2.2.1⟩ hm ⟨callB_in hX hw.1 hw.2.2.2.1 hw.2.2.2.2.1 hw.2.2.2.2.2 hrm, hX.2.2.2.2.1 _ hw.2.1, hX.2.2.2.2.1 _ hw.2.2.1⟩ ⟨blindW, va_recv hX.2.2.2.2.2.1 hPc hc he, fun U hU hWm => ⟨rfl, by rw [hU], by rw [hU]; exact hPc, va_K.moved hWm.alike hX.2.2.2.2.2.1, hDc⟩⟩ rfl hn hl.1 hst (lv_room hrest) hd ⟨by rw [hX.2.2.2.2.2.2.2.2.1]; exact hrm.2.2.2.2.1, by rw [hX.2.2.2.2.2.2.2.2.1]; exact hrm.2.2.2.2.2⟩) hS (fun q _ h => hFc q h) hFc (fun r u t H1 locs1 ht hvm hw1 hB hz1 hk1 hS1 => ?_)
    obtain ⟨rfl, rfl⟩ := hw1
    obtain ⟨hP1, hK1, hD1⟩ := hB
    rw [ht] at hP1
    obtain ⟨hP2, hD2⟩ := va_join (wr := wr) (w1 := wc u) hP hD isC isR hC hR hnR hdis hk1 hFc hP1 hD1
    exact k r0 (put u) o ho H1 locs1 ls (hP2.sub isW (fm_of_map (hW u))) (hD2.sub isW hnW (hW u)) hS1 hl
theorem g_callv {σ ρ O : Type} {X : Cx} {cc : ByteArray} {own : String} {rm : Room} {ret : Option FieldType} {D : va_G} {y : ClassId × ClassId × ClassId} {z : Nat × Nat} {Q : O → State → Prop} {F : σ → Option O} {pc pc' : Nat} {lv : List (Option Value)} {st rest As : List Value} {ws wr : va_W} {isC isR isW : List Nat} {C : String} {T : u_T} {idx ci n N b : Nat} {fs : List Value} {yy : MethodName} {bytes : ByteArray} {maxL : Nat} {rmc : Room} {wc : ρ → va_W} {Yc : ρ} {fc : Option ρ} {put : ρ → σ} {w : σ → va_W} (hX : OKX X cc own rm ret D y)
    (hM : CtV (cxl X) D y yy bytes maxL rmc (.ref b :: As) wc Yc fc) (hpr : PR ws (wc Yc) wc (fun u => w (put u)) isC isR isW wr) (he : (wc Yc)[0]? = some (b, .inr (ci, fs))) (hc : vwCl[ci]? = some (C, T, N)) (hw : VW own idx C yy bytes maxL none n) (hrm : RoomOK rmc rm maxL z) (hn : As.length = n) (hst : st = As.reverse ++ .ref b :: rest) (hrest : (rest.map fun v => v.category).sum ≤ 8) (hd : decode cc pc = .ok (.invokevirtual idx, 3)) (hp : pc + 3 = pc')
    (k : ∀ Y1, GF X cc D z Q (F Y1) pc' lv rest (w Y1)) : GF X cc D z Q (clv fc put F) pc lv st ws := by
  subst hp
  intro o ho H locs ls hP hD hS hl
  unfold clv at ho
  cases hfc : fc with
  | none => rw [hfc] at ho; cases ho
  | some u0 =>
    rw [hfc] at ho
    have hm := hM u0 hfc H.size
    obtain ⟨hC, hR, hnC, hnR, hdis, hnW, hW⟩ := hpr
    have hPc := hP.sub (ws' := wc Yc) isC (fm_of_map hC)
    have hFc := va_free (wc := wc Yc) hD hS hX.2.2.2.2.2.2.1 isC hC
    have hDc : va_D (fun _ => True) (wc Yc) := (hD.sub (ws' := wc Yc) isC hnC hC).weaken (fun _ _ _ _ => trivial)
    refine va_callv (va_runV (As := As) (rest := rest) ⟨hX.1, hX.2.1, hX.2.2.1, hX.2.2.2.1, hX.2.2.2.2.1⟩ hm ⟨callB_in hX hw.1 hw.2.2.2.1 hw.2.2.2.2.1 hw.2.2.2.2.2 hrm, hX.2.2.2.2.1 _ hw.2.1, hX.2.2.2.2.1 _ hw.2.2.1⟩ ⟨blindW, va_recv hX.2.2.2.2.2.1 hPc hc he, fun U hU hWm => ⟨rfl, by rw [hU], by rw [hU]; exact hPc, va_K.moved hWm.alike hX.2.2.2.2.2.1, hDc⟩⟩ rfl hn hl.1 hst (lv_room hrest) hd ⟨by rw [hX.2.2.2.2.2.2.2.2.1]; exact hrm.2.2.2.2.1, by rw [hX.2.2.2.2.2.2.2.2.1]; exact hrm.2.2.2.2.2⟩) hS (fun q _ h => hFc q h) hFc (fun u t H1 locs1 ht hvm hw1 hB hz1 hk1 hS1 => ?_)
    subst hw1
    obtain ⟨hP1, hK1, hD1⟩ := hB
    rw [ht] at hP1
    obtain ⟨hP2, hD2⟩ := va_join (wr := wr) (w1 := wc u) hP hD isC isR hC hR hnR hdis hk1 hFc hP1 hD1
    exact k (put u) o ho H1 locs1 ls (hP2.sub isW (fm_of_map (hW u))) (hD2.sub isW hnW (hW u)) hS1 hl
/-- a static method that touches no cell -/
theorem g_callp {O : Type} {X : Cx} {cc : ByteArray} {own : String} {rm : Room} {ret : Option FieldType} {D : va_G} {y : ClassId × ClassId × ClassId} {z : Nat × Nat} {Q : O → State → Prop} {F : Int → Option O} {pc pc' : Nat} {lv : List (Option Value)} {st rest As : List Value} {ws : va_W} {idx n : Nat} {yy : MethodName} {bytes : ByteArray} {maxL : Nat} {retc : Option FieldType} {rmc : Room} {fc : Option Int} (hX : OKX X cc own rm ret D y)
    (hM : CtP (cxl X) D y yy bytes maxL retc rmc As fc) (hw : SW own idx yy bytes maxL retc n) (hrm : RoomOK rmc rm maxL z) (hn : As.length = n) (hst : st = As.reverse ++ rest) (hrest : (rest.map fun v => v.category).sum ≤ 8) (hd : decode cc pc = .ok (.invokestatic idx, 3)) (hp : pc + 3 = pc')
    (k : ∀ r, GF X cc D z Q (F r) pc' lv (.int (iz r) :: rest) ws) : GF X cc D z Q (clp fc F) pc lv st ws := by
  subst hp
  intro o ho H locs ls hP hD hS hl
  unfold clp at ho
  cases hfc : fc with
  | none => rw [hfc] at ho; cases ho
  | some r0 =>
    rw [hfc] at ho
    have hm := hM r0 hfc H.size
    have hFc : ∀ q, va_A [] H.size q → cxA X q := fun q h => by
      rcases h with ⟨k, e, h⟩ | h
      · simp at h
      · exact hX.2.2.2.2.2.2.1 q (Nat.le_trans hS.1 h)
    refine va_calli (va_runS (As := As) (rest := rest) ⟨hX.1, hX.2.1, hX.2.2.1, hX.2.2.2.1, hX.2.2.2.2.1⟩ hm ⟨callB_in hX hw.1 hw.2.2.1 hw.2.2.2.1 hw.2.2.2.2 hrm, hX.2.2.2.2.1 _ hw.2.1⟩ ⟨fun a U g mk q => by obtain ⟨q0, q1, qK⟩ := q; exact ⟨q0, q1, va_K.moved (u := U) (U := U.calling g mk a) (Vm.Alike.refl U.vm) qK⟩, fun U hU hWm => ⟨rfl, by rw [hU], va_K.moved hWm.alike hX.2.2.2.2.2.1⟩⟩ rfl hn hl.1 hst (lv_room hrest) hd ⟨by rw [hX.2.2.2.2.2.2.2.2.1]; exact hrm.2.2.2.2.1, by rw [hX.2.2.2.2.2.2.2.2.1]; exact hrm.2.2.2.2.2⟩) hS (fun q _ h => hFc q h) hFc (fun r u t H1 locs1 ht hvm hw1 hB hz1 hk1 hS1 => ?_)
    subst hw1
    refine k r0 o ho H1 locs1 ls (hP.kept (fun j q hq => hk1 q.1 (hP j q hq).lt (fun h => ?_))) hD hS1 hl
    rcases h with ⟨k, e, h⟩ | h
    · simp at h
    · have := (hP j q hq).lt; omega
