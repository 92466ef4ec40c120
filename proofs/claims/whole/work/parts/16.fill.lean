/-! Arrays.fill, System.arraycopy -/
theorem bd_pos {O : Type} {i : Int} {n : Nat} {F : Option O} (h : 0 ≤ i ∧ i < (n : Int)) : bd i n F = F := if_pos h
def wF (y : ClassId × ClassId × ClassId) (q n : Nat) (f : Nat → Int) : va_W := [(q, .inl (y.1, n, .inl (fun j => iz (f j))))]
theorem fill_loop {X : Cx} {D : va_G} {y : ClassId × ClassId × ClassId} {q n : Nat} {f : Nat → Int} {x : Int} (hX : OKX X cJ7_fill_53178 RJ7 (rmk 0) none D y) (hn : n < 2147483648) : ∀ (k i : Nat), i + k = n → GF X cJ7_fill_53178 D (0, 0) (QV X D y (wF y q n)) (some (fun j => if j < n then x else f j)) 5 [some (.ref q), some (.int (iz x)), some (.int (iz (i : Int))), some (.int (iz (n : Int)))] [] (wF y q n (fun j => if j < i then x else f j)) := by
  intro k
  induction k with
  | zero =>
    intro i hi
    have hi : i = n := hi
    subst hi
    refine g_iload_n hX dJ7_fill_53178_5 (rfl : 5 + 1 = 6) rfl ?_
    refine g_iload_n hX dJ7_fill_53178_6 (rfl : 6 + 1 = 7) rfl ?_
    rw [show some (fun j => if j < i then x else f j) = (if wr (i : Int) ≤ wr (i : Int) then some (fun j => if j < i then x else f j) else none) from (if_pos (Int.le_refl _)).symm]
    refine g_icmp_ge (tgt := 20) hX dJ7_fill_53178_7 (by decide) (rfl : 7 + 3 = 10) ?_ g_none
    exact g_vret hX dJ7_fill_53178_20
  | succ k ih =>
    intro i hi
    have hlt : ¬ wr (n : Int) ≤ wr (i : Int) := by rw [wr_id (by omega), wr_id (by omega)]; omega
    refine g_iload_n hX dJ7_fill_53178_5 (rfl : 5 + 1 = 6) rfl ?_
    refine g_iload_n hX dJ7_fill_53178_6 (rfl : 6 + 1 = 7) rfl ?_
    rw [show some (fun j => if j < n then x else f j) = (if wr (n : Int) ≤ wr (i : Int) then none else some (fun j => if j < n then x else f j)) from (if_neg hlt).symm]
    refine g_icmp_ge (tgt := 20) hX dJ7_fill_53178_7 (by decide) (rfl : 7 + 3 = 10) g_none ?_
    refine g_aload_n hX dJ7_fill_53178_10 (rfl : 10 + 1 = 11) rfl ?_
    refine g_iload_n hX dJ7_fill_53178_11 (rfl : 11 + 1 = 12) rfl ?_
    refine g_iload_n hX dJ7_fill_53178_12 (rfl : 12 + 1 = 13) rfl ?_
    rw [← bd_pos (i := (i : Int)) (n := n) (F := some (fun j => if j < n then x else f j)) (by omega)]
    refine g_iast (f := fun j => if j < i then x else f j) (ws' := wF y q n (fun j => if j < i + 1 then x else f j)) hX 0 rfl hn ?_ dJ7_fill_53178_13 (rfl : 13 + 1 = 14) ?_
    · unfold wF
      simp only [List.set]
      congr 6
      funext j
      congr 1
      have hi2 : (i : Int).toNat = i := rfl
      rw [hi2]
      by_cases h1 : j = i
      · rw [if_pos h1, if_pos (by omega)]
      · rw [if_neg h1]
        by_cases h2 : j < i
        · rw [if_pos h2, if_pos (by omega)]
        · rw [if_neg h2, if_neg (by omega)]
    · have h := g_iinc (F := fun z => if z = (i : Int) + 1 then some (fun j => if j < n then x else f j) else none) (lv := [some (.ref q), some (.int (iz x)), some (.int (iz (i : Int))), some (.int (iz (n : Int)))]) (lv' := fun z => [some (.ref q), some (.int (iz x)), some (.int (iz z)), some (.int (iz (n : Int)))]) (st := []) (ws := wF y q n (fun j => if j < i + 1 then x else f j)) (Q := QV X D y (wF y q n)) (z := (0, 0)) hX dJ7_fill_53178_14 (rfl : 14 + 3 = 17) rfl (fun _ => rfl) (fun z => g_ite (fun hz => by
        subst hz
        refine g_goto (pc' := 5) hX dJ7_fill_53178_17 (by decide) ?_
        exact ih (i + 1) (by omega)) (fun _ => g_none))
      simp only [nm, ↓reduceIte] at h
      exact h
theorem kFill (l : Launch) (D : va_G) (y : ClassId × ClassId × ClassId) (q n : Nat) (hn : n < 2147483648) (f : Nat → Int) (x : Int) : CtV l D y yJ7_fill_53178 cJ7_fill_53178 4 (rmk 0) [.ref q, .int (iz x)] (wF y q n) f (some (fun j => if j < n then x else f j)) := by
  refine ctV_of (own := RJ7) rfl (by decide) (cat1 rfl) rfl (fun X hl hX => ?_)
  subst hl
  show GF X cJ7_fill_53178 D (0, 0) (QV X D y (wF y q n)) (some (fun j => if j < n then x else f j)) 0 [some (.ref q), some (.int (iz x)), none, none] [] (wF y q n f)
  refine g_iconst hX dJ7_fill_53178_0 (rfl : 0 + 1 = 1) ?_
  have h1 : ∀ z : Int, z = 0 → GF X cJ7_fill_53178 D (0, 0) (QV X D y (wF y q n)) (some (fun j => if j < n then x else f j)) 2 [some (.ref q), some (.int (iz x)), some (.int (iz z)), none] [] (wF y q n f) := by
    intro z hz
    subst hz
    refine g_aload_n hX dJ7_fill_53178_2 (rfl : 2 + 1 = 3) rfl ?_
    refine g_alen hX (n : Int) 0 rfl rfl dJ7_fill_53178_3 (rfl : 3 + 1 = 4) ?_
    have h2 : ∀ z : Int, z = (n : Int) → GF X cJ7_fill_53178 D (0, 0) (QV X D y (wF y q n)) (some (fun j => if j < n then x else f j)) 5 [some (.ref q), some (.int (iz x)), some (.int (iz 0)), some (.int (iz z))] [] (wF y q n f) := by
      intro z hz
      subst hz
      have h3 := fill_loop (q := q) (f := f) (x := x) hX hn n 0 (by omega)
      have h4 : (fun j => if j < 0 then x else f j) = f := by funext j; rw [if_neg (by omega)]
      rw [h4] at h3
      exact h3
    have h5 := g_istore_n (F := fun z => if z = (n : Int) then some (fun j => if j < n then x else f j) else none) (lv := [some (.ref q), some (.int (iz x)), some (.int (iz 0)), none]) (lv' := fun z => [some (.ref q), some (.int (iz x)), some (.int (iz 0)), some (.int (iz z))]) (st := []) (a := (n : Int)) hX dJ7_fill_53178_4 (rfl : 4 + 1 = 5) rfl (fun _ => rfl) (fun z => g_ite (h2 z) (fun _ => g_none))
    simp only [nm, ↓reduceIte] at h5
    exact h5
  have h5 := g_istore_n (F := fun z => if z = 0 then some (fun j => if j < n then x else f j) else none) (lv := [some (.ref q), some (.int (iz x)), none, none]) (lv' := fun z => [some (.ref q), some (.int (iz x)), some (.int (iz z)), none]) (st := []) (a := 0) hX dJ7_fill_53178_1 (rfl : 1 + 1 = 2) rfl (fun _ => rfl) (fun z => g_ite (h1 z) (fun _ => g_none))
  simp only [nm, ↓reduceIte] at h5
  exact h5
/-- Arrays.fill over one array of the caller's world -/
theorem g_fill {O : Type} {X : Cx} {cc : ByteArray} {own : String} {rm : Room} {ret : Option FieldType} {D : va_G} {y : ClassId × ClassId × ClassId} {z : Nat × Nat} {Q : O → State → Prop} {F : Option O} {pc pc' : Nat} {lv : List (Option Value)} {st : List Value} {ws ws' : va_W} {idx a n : Nat} {f : Nat → Int} {x : Int} (hX : OKX X cc own rm ret D y) (q0 : Nat) (ha : ws[q0]? = some (a, .inl (y.1, n, .inl (fun j => iz (f j))))) (hn : n < 2147483648) (hws : ws.set q0 (a, .inl (y.1, n, .inl (fun j => iz (if j < n then x else f j)))) = ws') (hw : SW own idx yJ7_fill_53178 cJ7_fill_53178 4 none 2) (hrm : RoomOK (rmk 0) rm 4 z) (hrest : (st.map fun v => v.category).sum ≤ 8) (hd : decode cc pc = .ok (.invokestatic idx, 3)) (hp : pc + 3 = pc') (k : GF X cc D z Q F pc' lv st ws') : GF X cc D z Q F pc lv (.int (iz x) :: .ref a :: st) ws := by
  subst hp
  intro o ho H locs ls hP hD hS hl
  have hm := kFill (cxl X) D y a n hn f x _ rfl H.size
  have hPc : va_P D vwCl (wF y a n f) H := fun k q hk => by
    have h0 : k = 0 := by
      have := (List.getElem?_eq_some_iff.mp hk).1
      simp [wF] at this
      omega
    subst h0
    cases hk
    exact hP q0 _ ha
  have hDc : va_D (fun _ => True) (wF y a n f) := ⟨fun i j p q hi hj _ => by
    have h1 := (List.getElem?_eq_some_iff.mp hi).1
    have h2 := (List.getElem?_eq_some_iff.mp hj).1
    simp [wF] at h1 h2
    omega, fun _ _ _ => trivial⟩
  have hFc : ∀ q, va_A (wF y a n f) H.size q → cxA X q := fun q h => by
    rcases h with ⟨k, e, h⟩ | h
    · have h0 : k = 0 := by
        have := (List.getElem?_eq_some_iff.mp h).1
        simp [wF] at this
        omega
      subst h0
      cases h
      exact hD.2 q0 _ ha
    · exact hX.2.2.2.2.2.2.1 q (Nat.le_trans hS.1 h)
  refine va_callv (va_runS (As := [.ref a, .int (iz x)]) (rest := st) ⟨hX.1, hX.2.1, hX.2.2.1, hX.2.2.2.1, hX.2.2.2.2.1⟩ hm ⟨callB_in hX hw.1 hw.2.2.1 hw.2.2.2.1 hw.2.2.2.2 hrm, hX.2.2.2.2.1 _ hw.2.1⟩ ⟨blindW, fun U hU hWm => ⟨rfl, by rw [hU], by rw [hU]; exact hPc, va_K.moved hWm.alike hX.2.2.2.2.2.1, hDc⟩⟩ rfl rfl hl.1 rfl (lv_room hrest) hd ⟨by rw [hX.2.2.2.2.2.2.2.2.1]; exact hrm.2.2.2.2.1, by rw [hX.2.2.2.2.2.2.2.2.1]; exact hrm.2.2.2.2.2⟩) hS (fun q _ h => hFc q h) hFc (fun u t H1 locs1 ht hvm hw1 hB hz1 hk1 hS1 => ?_)
  subst hw1
  obtain ⟨hP1, hK1, hD1⟩ := hB
  rw [ht] at hP1
  have hc1 := hP1 0 _ rfl
  have hset : va_P D vwCl (ws.set q0 (a, .inl (y.1, n, .inl (fun j => iz (if j < n then x else f j))))) H1 := by
    intro j q hq
    by_cases hj : q0 = j
    · subst hj
      rw [List.getElem?_set_self (List.getElem?_eq_some_iff.mp ha).1] at hq
      cases hq
      exact hc1
    · rw [List.getElem?_set_ne hj] at hq
      have h1 := hP j q hq
      refine h1.kept (hk1 q.1 h1.lt (fun h => ?_))
      rcases h with ⟨k, e, h⟩ | h
      · have h0 : k = 0 := by
          have := (List.getElem?_eq_some_iff.mp h).1
          simp [wF] at this
          omega
        subst h0
        have he : q.1 = a := by cases h; rfl
        exact hj (hD.1 q0 j _ _ ha hq he.symm)
      · have := h1.lt; omega
  rw [hws] at hset
  have hDs := hD.set (e := .inl (y.1, n, .inl (fun j => iz (if j < n then x else f j)))) ha
  rw [hws] at hDs
  exact k o ho H1 locs1 ls hset hDs hS1 hl
set_option maxRecDepth 100000 in
theorem cp_J {O : Type} {X : Cx} {cc : ByteArray} {rm : Room} {ret : Option FieldType} {D : va_G} {y : ClassId × ClassId × ClassId} {z : Nat × Nat} {Q : O → State → Prop} {pc pc' : Nat} {lv : List (Option Value)} {st : List Value} {q : Nat → Nat} {Y : St × St × St × St × St} (hX : OKX X cc RX3 rm ret D y) {F : St × St × St × St × St → Option O} {n : Int} {idx : Nat} (hw : Cond.methodLink RX3 idx arraycopyName ∈ lw_gd ∧ Cond.native arraycopyName ∈ lw_gd ∧ Cond.static arraycopyName ∈ lw_gd ∧ Cond.initialized "java/lang/System" ∈ lw_gd) (hrm : 1 ≤ rm.frames ∧ 26 ≤ rm.locals) (hrest : (st.map fun v => v.category).sum ≤ 8) (hd : decode cc pc = .ok (.invokestatic idx, 3)) (hp : pc + 3 = pc') (k : ∀ Y1, GF X cc D z Q (F Y1) pc' lv st (wJ y q Y1)) : GF X cc D z Q (bd n 301 (nm ((setR Y.1 5 (fun j => if j < n.toNat then Y.1.2 7 j else Y.1.2 5 j), Y.2)) F)) pc lv (.int (iz n) :: .int (iz 0) :: .ref (q 2) :: .int (iz 0) :: .ref (q 4) :: st) (wJ y q Y) := by
  subst hp
  intro o ho H locs ls hP hD hS hl
  unfold bd at ho
  split at ho
  · next h =>
    obtain ⟨h1, h2⟩ := iz_in h (by decide)
    have h0 : (iz 0).toNatClampNeg = 0 := by decide
    have hnn : ¬ iz n < 0 := fun q => by rw [iz_0] at q; have := (iz_lt _ _).mp q; rw [wr_0, wr_id (by omega)] at this; omega
    have h9 : nativeFrameWords "java/lang/System" "arraycopy" 5 = 7 := by decide
    refine va_copyi (sp := iz 0) (dp := iz 0) (n := iz n) hX.1 hX.2.1 (hX.2.2.1.trans hl.1.symm) hX.2.2.2.1 (hX.2.2.2.2.1 _ hw.1) (hX.2.2.2.2.1 _ hw.2.1) (hX.2.2.2.2.1 _ hw.2.2.1) (hX.2.2.2.2.1 _ hw.2.2.2) hX.2.2.2.2.2.1 hP hD hS 4 2 0 0 (n0 := 300) (n1 := 300) (f := fun j => iz (Y.1.2 7 j)) (g := fun j => iz (Y.1.2 5 j)) (ty := .int) rfl rfl rfl rfl rfl (by decide) (by decide) hnn (by rw [h0, h2]; omega) (by rw [h0, h2]; omega) (fun i _ => rfl) (by rw [hX.2.2.2.2.2.2.2.2.1]; exact hrm.1) (by rw [hX.2.2.2.2.2.2.2.2.1, h9]; omega) hd (fun H1 locs1 hP1 hD1 hS1 => ?_)
    have he : va_cpy (fun j => iz (Y.1.2 7 j)) (fun j => iz (Y.1.2 5 j)) (iz 0).toNatClampNeg (iz 0).toNatClampNeg (iz n).toNatClampNeg = fun j => iz (if j < n.toNat then Y.1.2 7 j else Y.1.2 5 j) := by
      funext j
      unfold va_cpy
      rw [h0, h2]
      by_cases hj : j < n.toNat
      · rw [if_pos ⟨Nat.zero_le _, by omega⟩, if_pos hj]; simp
      · rw [if_neg (by omega), if_neg hj]
    rw [he] at hP1 hD1
    exact k _ o ho H1 locs1 ls hP1 hD1 hS1 hl
  · cases ho
/-! Math.min, Math.max -/
def minI (a b : Int) : Int := if wr b < wr a then b else a
def maxI (a b : Int) : Int := if wr a < wr b then b else a
theorem minI_iz (a b : Int) : iz (minI a b) = if iz b < iz a then iz b else iz a := by
  unfold minI
  by_cases h : wr b < wr a
  · rw [if_pos h, if_pos ((iz_lt _ _).mpr h)]
  · rw [if_neg h, if_neg (fun q => h ((iz_lt _ _).mp q))]
theorem maxI_iz (a b : Int) : iz (maxI a b) = if iz a < iz b then iz b else iz a := by
  unfold maxI
  by_cases h : wr a < wr b
  · rw [if_pos h, if_pos ((iz_lt _ _).mpr h)]
  · rw [if_neg h, if_neg (fun q => h ((iz_lt _ _).mp q))]
theorem g_mmin {O : Type} {X : Cx} {cc : ByteArray} {own : String} {rm : Room} {ret : Option FieldType} {D : va_G} {y : ClassId × ClassId × ClassId} {z : Nat × Nat} {Q : O → State → Prop} {F : Option O} {pc pc' : Nat} {lv : List (Option Value)} {st : List Value} {ws : va_W} {a b : Int} {idx : Nat} (hX : OKX X cc own rm ret D y) (hw : SW own idx yJ9_min_7cf53 cJ9_min_7cf53 2 (some .int) 2) (hrm : RoomOK (rmk 0) rm 2 z) (hrest : (st.map fun v => v.category).sum ≤ 8) (hd : decode cc pc = .ok (.invokestatic idx, 3)) (hp : pc + 3 = pc') (k : GF X cc D z Q F pc' lv (.int (iz (minI a b)) :: st) ws) : GF X cc D z Q F pc lv (.int (iz b) :: .int (iz a) :: st) ws := by
  subst hp
  intro o ho H locs ls hP hD hS hl
  have k := k o ho H locs ls hP hD hS hl
  rw [minI_iz] at k
  have h1 := hX.2.2.2.2.1 _ hw.1
  have h2 := hX.2.2.2.2.1 _ hw.2.1
  have h3 := hX.2.2.2.2.1 _ hw.2.2.1
  have h4 := hX.2.2.2.2.1 _ hw.2.2.2.1
  have hR := hX.2.2.2.2.2.2.2.2.1
  have h5 := hrm.2.2.2.1
  refine va_mmin hX.1 hX.2.1 (hX.2.2.1.trans hl.1.symm) hX.2.2.2.1 h1 h2 h3 h4 (by rw [hR]; have := hrm.2.2.1; omega) (by rw [hR]; omega) (by rw [hR]; exact hrm.2.2.2.2.1) (by rw [hR]; exact hrm.2.2.2.2.2) hd k
theorem g_mmax {O : Type} {X : Cx} {cc : ByteArray} {own : String} {rm : Room} {ret : Option FieldType} {D : va_G} {y : ClassId × ClassId × ClassId} {z : Nat × Nat} {Q : O → State → Prop} {F : Option O} {pc pc' : Nat} {lv : List (Option Value)} {st : List Value} {ws : va_W} {a b : Int} {idx : Nat} (hX : OKX X cc own rm ret D y) (hw : SW own idx yJ9_max_7cf53 cJ9_max_7cf53 2 (some .int) 2) (hrm : RoomOK (rmk 0) rm 2 z) (hrest : (st.map fun v => v.category).sum ≤ 8) (hd : decode cc pc = .ok (.invokestatic idx, 3)) (hp : pc + 3 = pc') (k : GF X cc D z Q F pc' lv (.int (iz (maxI a b)) :: st) ws) : GF X cc D z Q F pc lv (.int (iz b) :: .int (iz a) :: st) ws := by
  subst hp
  intro o ho H locs ls hP hD hS hl
  have k := k o ho H locs ls hP hD hS hl
  rw [maxI_iz] at k
  have h1 := hX.2.2.2.2.1 _ hw.1
  have h2 := hX.2.2.2.2.1 _ hw.2.1
  have h3 := hX.2.2.2.2.1 _ hw.2.2.1
  have h4 := hX.2.2.2.2.1 _ hw.2.2.2.1
  have hR := hX.2.2.2.2.2.2.2.2.1
  have h5 := hrm.2.2.2.1
  refine va_mmax hX.1 hX.2.1 (hX.2.2.1.trans hl.1.symm) hX.2.2.2.1 h1 h2 h3 h4 (by rw [hR]; have := hrm.2.2.1; omega) (by rw [hR]; omega) (by rw [hR]; exact hrm.2.2.2.2.1) (by rw [hR]; exact hrm.2.2.2.2.2) hd k
