theorem g_iadd {O : Type} {X : Cx} {cc : ByteArray} {own : String} {rm : Room} {ret : Option FieldType} {D : va_G} {y : ClassId × ClassId × ClassId} {z : Nat × Nat} {Q : O → State → Prop} {F : Option O} {pc pc' : Nat} {lv : List (Option Value)} {st : List Value} {ws : va_W} (hX : OKX X cc own rm ret D y) {a b : Int} (hd : decode cc pc = .ok (.iadd, 1)) (hp : pc + 1 = pc') (k : GF X cc D z Q F pc' lv (.int (iz (a + b)) :: st) ws) : GF X cc D z Q F pc lv (.int (iz b) :: .int (iz a) :: st) ws := by
  subst hp
  intro o ho H locs ls hP hD hS hl
  have k := k o ho H locs ls hP hD hS hl
  rw [iz_add] at k
  exact lv_iadd hX.1 hX.2.1 hd k
theorem g_isub {O : Type} {X : Cx} {cc : ByteArray} {own : String} {rm : Room} {ret : Option FieldType} {D : va_G} {y : ClassId × ClassId × ClassId} {z : Nat × Nat} {Q : O → State → Prop} {F : Option O} {pc pc' : Nat} {lv : List (Option Value)} {st : List Value} {ws : va_W} (hX : OKX X cc own rm ret D y) {a b : Int} (hd : decode cc pc = .ok (.isub, 1)) (hp : pc + 1 = pc') (k : GF X cc D z Q F pc' lv (.int (iz (a - b)) :: st) ws) : GF X cc D z Q F pc lv (.int (iz b) :: .int (iz a) :: st) ws := by
  subst hp
  intro o ho H locs ls hP hD hS hl
  have k := k o ho H locs ls hP hD hS hl
  rw [iz_sub] at k
  exact lv_isub hX.1 hX.2.1 hd k
theorem g_imul {O : Type} {X : Cx} {cc : ByteArray} {own : String} {rm : Room} {ret : Option FieldType} {D : va_G} {y : ClassId × ClassId × ClassId} {z : Nat × Nat} {Q : O → State → Prop} {F : Option O} {pc pc' : Nat} {lv : List (Option Value)} {st : List Value} {ws : va_W} (hX : OKX X cc own rm ret D y) {a b : Int} (hd : decode cc pc = .ok (.imul, 1)) (hp : pc + 1 = pc') (k : GF X cc D z Q F pc' lv (.int (iz (a * b)) :: st) ws) : GF X cc D z Q F pc lv (.int (iz b) :: .int (iz a) :: st) ws := by
  subst hp
  intro o ho H locs ls hP hD hS hl
  have k := k o ho H locs ls hP hD hS hl
  rw [iz_mul] at k
  exact lv_imul hX.1 hX.2.1 hd k
theorem g_iand {O : Type} {X : Cx} {cc : ByteArray} {own : String} {rm : Room} {ret : Option FieldType} {D : va_G} {y : ClassId × ClassId × ClassId} {z : Nat × Nat} {Q : O → State → Prop} {F : Option O} {pc pc' : Nat} {lv : List (Option Value)} {st : List Value} {ws : va_W} (hX : OKX X cc own rm ret D y) {a b : Int} (hd : decode cc pc = .ok (.iand, 1)) (hp : pc + 1 = pc') (k : GF X cc D z Q F pc' lv (.int (iz (andI a b)) :: st) ws) : GF X cc D z Q F pc lv (.int (iz b) :: .int (iz a) :: st) ws := by
  subst hp
  intro o ho H locs ls hP hD hS hl
  have k := k o ho H locs ls hP hD hS hl
  rw [andI, iz_toInt] at k
  exact lv_iand hX.1 hX.2.1 hd k
theorem g_ior {O : Type} {X : Cx} {cc : ByteArray} {own : String} {rm : Room} {ret : Option FieldType} {D : va_G} {y : ClassId × ClassId × ClassId} {z : Nat × Nat} {Q : O → State → Prop} {F : Option O} {pc pc' : Nat} {lv : List (Option Value)} {st : List Value} {ws : va_W} (hX : OKX X cc own rm ret D y) {a b : Int} (hd : decode cc pc = .ok (.ior, 1)) (hp : pc + 1 = pc') (k : GF X cc D z Q F pc' lv (.int (iz (orI a b)) :: st) ws) : GF X cc D z Q F pc lv (.int (iz b) :: .int (iz a) :: st) ws := by
  subst hp
  intro o ho H locs ls hP hD hS hl
  have k := k o ho H locs ls hP hD hS hl
  rw [orI, iz_toInt] at k
  exact lv_ior hX.1 hX.2.1 hd k
theorem g_ixor {O : Type} {X : Cx} {cc : ByteArray} {own : String} {rm : Room} {ret : Option FieldType} {D : va_G} {y : ClassId × ClassId × ClassId} {z : Nat × Nat} {Q : O → State → Prop} {F : Option O} {pc pc' : Nat} {lv : List (Option Value)} {st : List Value} {ws : va_W} (hX : OKX X cc own rm ret D y) {a b : Int} (hd : decode cc pc = .ok (.ixor, 1)) (hp : pc + 1 = pc') (k : GF X cc D z Q F pc' lv (.int (iz (xorI a b)) :: st) ws) : GF X cc D z Q F pc lv (.int (iz b) :: .int (iz a) :: st) ws := by
  subst hp
  intro o ho H locs ls hP hD hS hl
  have k := k o ho H locs ls hP hD hS hl
  rw [xorI, iz_toInt] at k
  exact lv_ixor hX.1 hX.2.1 hd k
theorem g_ishl {O : Type} {X : Cx} {cc : ByteArray} {own : String} {rm : Room} {ret : Option FieldType} {D : va_G} {y : ClassId × ClassId × ClassId} {z : Nat × Nat} {Q : O → State → Prop} {F : Option O} {pc pc' : Nat} {lv : List (Option Value)} {st : List Value} {ws : va_W} (hX : OKX X cc own rm ret D y) {a b : Int} (hd : decode cc pc = .ok (.ishl, 1)) (hp : pc + 1 = pc') (k : GF X cc D z Q F pc' lv (.int (iz (shlI a b)) :: st) ws) : GF X cc D z Q F pc lv (.int (iz b) :: .int (iz a) :: st) ws := by
  subst hp
  intro o ho H locs ls hP hD hS hl
  have k := k o ho H locs ls hP hD hS hl
  rw [shlI, iz_toInt] at k
  exact lv_ishl hX.1 hX.2.1 hd k
theorem g_ishr {O : Type} {X : Cx} {cc : ByteArray} {own : String} {rm : Room} {ret : Option FieldType} {D : va_G} {y : ClassId × ClassId × ClassId} {z : Nat × Nat} {Q : O → State → Prop} {F : Option O} {pc pc' : Nat} {lv : List (Option Value)} {st : List Value} {ws : va_W} (hX : OKX X cc own rm ret D y) {a b : Int} (hd : decode cc pc = .ok (.ishr, 1)) (hp : pc + 1 = pc') (k : GF X cc D z Q F pc' lv (.int (iz (shrI a b)) :: st) ws) : GF X cc D z Q F pc lv (.int (iz b) :: .int (iz a) :: st) ws := by
  subst hp
  intro o ho H locs ls hP hD hS hl
  have k := k o ho H locs ls hP hD hS hl
  rw [shrI, iz_toInt] at k
  exact lv_ishr hX.1 hX.2.1 hd k
theorem g_iushr {O : Type} {X : Cx} {cc : ByteArray} {own : String} {rm : Room} {ret : Option FieldType} {D : va_G} {y : ClassId × ClassId × ClassId} {z : Nat × Nat} {Q : O → State → Prop} {F : Option O} {pc pc' : Nat} {lv : List (Option Value)} {st : List Value} {ws : va_W} (hX : OKX X cc own rm ret D y) {a b : Int} (hd : decode cc pc = .ok (.iushr, 1)) (hp : pc + 1 = pc') (k : GF X cc D z Q F pc' lv (.int (iz (ushrI a b)) :: st) ws) : GF X cc D z Q F pc lv (.int (iz b) :: .int (iz a) :: st) ws := by
  subst hp
  intro o ho H locs ls hP hD hS hl
  have k := k o ho H locs ls hP hD hS hl
  rw [ushrI, iz_toInt] at k
  exact lv_iushr hX.1 hX.2.1 hd rfl k
theorem g_ineg {O : Type} {X : Cx} {cc : ByteArray} {own : String} {rm : Room} {ret : Option FieldType} {D : va_G} {y : ClassId × ClassId × ClassId} {z : Nat × Nat} {Q : O → State → Prop} {F : Option O} {pc pc' : Nat} {lv : List (Option Value)} {st : List Value} {ws : va_W} (hX : OKX X cc own rm ret D y) {a : Int} (hd : decode cc pc = .ok (.ineg, 1)) (hp : pc + 1 = pc') (k : GF X cc D z Q F pc' lv (.int (iz (-a)) :: st) ws) : GF X cc D z Q F pc lv (.int (iz a) :: st) ws := by
  subst hp
  intro o ho H locs ls hP hD hS hl
  have k := k o ho H locs ls hP hD hS hl
  rw [iz_neg] at k
  exact lv_ineg hX.1 hX.2.1 hd k
theorem g_idiv {O : Type} {X : Cx} {cc : ByteArray} {own : String} {rm : Room} {ret : Option FieldType} {D : va_G} {y : ClassId × ClassId × ClassId} {z : Nat × Nat} {Q : O → State → Prop} {F : Option O} {pc pc' : Nat} {lv : List (Option Value)} {st : List Value} {ws : va_W} (hX : OKX X cc own rm ret D y) {a b : Int} (hd : decode cc pc = .ok (.idiv, 1)) (hp : pc + 1 = pc') (k : GF X cc D z Q F pc' lv (.int (iz (divI a b)) :: st) ws) : GF X cc D z Q (cz b F) pc lv (.int (iz b) :: .int (iz a) :: st) ws := by
  subst hp
  intro o ho H locs ls hP hD hS hl
  unfold cz at ho
  split at ho
  · cases ho
  · next hb =>
    have k := k o ho H locs ls hP hD hS hl
    rw [divI, iz_toInt] at k
    exact lv_idiv hX.1 hX.2.1 hd (fun q => hb (by rw [iz_0] at q; rw [(iz_eq _ _).mp q]; exact wr_0)) k
theorem g_irem {O : Type} {X : Cx} {cc : ByteArray} {own : String} {rm : Room} {ret : Option FieldType} {D : va_G} {y : ClassId × ClassId × ClassId} {z : Nat × Nat} {Q : O → State → Prop} {F : Option O} {pc pc' : Nat} {lv : List (Option Value)} {st : List Value} {ws : va_W} (hX : OKX X cc own rm ret D y) {a b : Int} (hd : decode cc pc = .ok (.irem, 1)) (hp : pc + 1 = pc') (k : GF X cc D z Q F pc' lv (.int (iz (remI a b)) :: st) ws) : GF X cc D z Q (cz b F) pc lv (.int (iz b) :: .int (iz a) :: st) ws := by
  subst hp
  intro o ho H locs ls hP hD hS hl
  unfold cz at ho
  split at ho
  · cases ho
  · next hb =>
    have k := k o ho H locs ls hP hD hS hl
    rw [remI, iz_toInt] at k
    exact lv_irem hX.1 hX.2.1 hd (fun q => hb (by rw [iz_0] at q; rw [(iz_eq _ _).mp q]; exact wr_0)) k
theorem g_iconst {O : Type} {X : Cx} {cc : ByteArray} {own : String} {rm : Room} {ret : Option FieldType} {D : va_G} {y : ClassId × ClassId × ClassId} {z : Nat × Nat} {Q : O → State → Prop} {F : Option O} {pc pc' : Nat} {lv : List (Option Value)} {st : List Value} {ws : va_W} (hX : OKX X cc own rm ret D y) {n : Int} (hd : decode cc pc = .ok (.iconst n, 1)) (hp : pc + 1 = pc') (k : GF X cc D z Q F pc' lv (.int (iz n) :: st) ws) : GF X cc D z Q F pc lv st ws := by
  subst hp
  intro o ho H locs ls hP hD hS hl
  exact lv_iconst hX.1 hX.2.1 hd rfl (k o ho H locs ls hP hD hS hl)
theorem g_bipush {O : Type} {X : Cx} {cc : ByteArray} {own : String} {rm : Room} {ret : Option FieldType} {D : va_G} {y : ClassId × ClassId × ClassId} {z : Nat × Nat} {Q : O → State → Prop} {F : Option O} {pc pc' : Nat} {lv : List (Option Value)} {st : List Value} {ws : va_W} (hX : OKX X cc own rm ret D y) {n : Int} (hd : decode cc pc = .ok (.bipush n, 2)) (hv : (Int8.ofInt n).toInt32 = iz n) (hp : pc + 2 = pc') (k : GF X cc D z Q F pc' lv (.int (iz n) :: st) ws) : GF X cc D z Q F pc lv st ws := by
  subst hp
  intro o ho H locs ls hP hD hS hl
  exact lv_bipush hX.1 hX.2.1 hd hv (k o ho H locs ls hP hD hS hl)
theorem g_sipush {O : Type} {X : Cx} {cc : ByteArray} {own : String} {rm : Room} {ret : Option FieldType} {D : va_G} {y : ClassId × ClassId × ClassId} {z : Nat × Nat} {Q : O → State → Prop} {F : Option O} {pc pc' : Nat} {lv : List (Option Value)} {st : List Value} {ws : va_W} (hX : OKX X cc own rm ret D y) {n : Int} (hd : decode cc pc = .ok (.sipush n, 3)) (hv : (Int16.ofInt n).toInt32 = iz n) (hp : pc + 3 = pc') (k : GF X cc D z Q F pc' lv (.int (iz n) :: st) ws) : GF X cc D z Q F pc lv st ws := by
  subst hp
  intro o ho H locs ls hP hD hS hl
  exact lv_sipush hX.1 hX.2.1 hd hv (k o ho H locs ls hP hD hS hl)
theorem g_ldc {O : Type} {X : Cx} {cc : ByteArray} {own : String} {rm : Room} {ret : Option FieldType} {D : va_G} {y : ClassId × ClassId × ClassId} {z : Nat × Nat} {Q : O → State → Prop} {F : Option O} {pc pc' : Nat} {lv : List (Option Value)} {st : List Value} {ws : va_W} (hX : OKX X cc own rm ret D y) {idx : Nat} {v : Int32} (n : Int) (hm : Cond.constant own idx v ∈ lw_gd) (hv : v = iz n) (hd : decode cc pc = .ok (.ldc idx, 2)) (hp : pc + 2 = pc') (k : GF X cc D z Q F pc' lv (.int (iz n) :: st) ws) : GF X cc D z Q F pc lv st ws := by
  subst hp
  subst hv
  intro o ho H locs ls hP hD hS hl
  exact lv_ldc hX.1 hX.2.1 hX.2.2.2.1 (hX.2.2.2.2.1 _ hm) hd (k o ho H locs ls hP hD hS hl)
theorem g_ldcw {O : Type} {X : Cx} {cc : ByteArray} {own : String} {rm : Room} {ret : Option FieldType} {D : va_G} {y : ClassId × ClassId × ClassId} {z : Nat × Nat} {Q : O → State → Prop} {F : Option O} {pc pc' : Nat} {lv : List (Option Value)} {st : List Value} {ws : va_W} (hX : OKX X cc own rm ret D y) {idx : Nat} {v : Int32} (n : Int) (hm : Cond.constant own idx v ∈ lw_gd) (hv : v = iz n) (hd : decode cc pc = .ok (.ldc_w idx, 3)) (hp : pc + 3 = pc') (k : GF X cc D z Q F pc' lv (.int (iz n) :: st) ws) : GF X cc D z Q F pc lv st ws := by
  subst hp
  subst hv
  intro o ho H locs ls hP hD hS hl
  exact lv_ldcw hX.1 hX.2.1 hX.2.2.2.1 (hX.2.2.2.2.1 _ hm) hd (k o ho H locs ls hP hD hS hl)
theorem g_ldcf {O : Type} {X : Cx} {cc : ByteArray} {own : String} {rm : Room} {ret : Option FieldType} {D : va_G} {y : ClassId × ClassId × ClassId} {z : Nat × Nat} {Q : O → State → Prop} {F : Option O} {pc pc' : Nat} {lv : List (Option Value)} {st : List Value} {ws : va_W} (hX : OKX X cc own rm ret D y) {idx : Nat} {v : UInt32} (hm : Cond.constantFloat own idx v ∈ lw_gd) (hd : decode cc pc = .ok (.ldc idx, 2)) (hp : pc + 2 = pc') (k : GF X cc D z Q F pc' lv (.float v :: st) ws) : GF X cc D z Q F pc lv st ws := by
  subst hp
  intro o ho H locs ls hP hD hS hl
  exact lv_ldcf hX.1 hX.2.1 hX.2.2.2.1 (hX.2.2.2.2.1 _ hm) hd (k o ho H locs ls hP hD hS hl)
theorem g_ldc2 {O : Type} {X : Cx} {cc : ByteArray} {own : String} {rm : Room} {ret : Option FieldType} {D : va_G} {y : ClassId × ClassId × ClassId} {z : Nat × Nat} {Q : O → State → Prop} {F : Option O} {pc pc' : Nat} {lv : List (Option Value)} {st : List Value} {ws : va_W} (hX : OKX X cc own rm ret D y) {idx : Nat} {v : Int64} (hm : Cond.constantLong own idx v ∈ lw_gd) (hd : decode cc pc = .ok (.ldc2_w idx, 3)) (hp : pc + 3 = pc') (k : GF X cc D z Q F pc' lv (.long v :: st) ws) : GF X cc D z Q F pc lv st ws := by
  subst hp
  intro o ho H locs ls hP hD hS hl
  exact lv_ldc2 hX.1 hX.2.1 hX.2.2.2.1 (hX.2.2.2.2.1 _ hm) hd (k o ho H locs ls hP hD hS hl)
theorem g_i2l {O : Type} {X : Cx} {cc : ByteArray} {own : String} {rm : Room} {ret : Option FieldType} {D : va_G} {y : ClassId × ClassId × ClassId} {z : Nat × Nat} {Q : O → State → Prop} {F : Option O} {pc pc' : Nat} {lv : List (Option Value)} {st : List Value} {ws : va_W} (hX : OKX X cc own rm ret D y) {a : Int} (hd : decode cc pc = .ok (.i2l, 1)) (hp : pc + 1 = pc') (k : GF X cc D z Q F pc' lv (.long (iz a).toInt64 :: st) ws) : GF X cc D z Q F pc lv (.int (iz a) :: st) ws := by
  subst hp
  intro o ho H locs ls hP hD hS hl
  exact lv_i2l hX.1 hX.2.1 hd rfl (k o ho H locs ls hP hD hS hl)
theorem g_l2i {O : Type} {X : Cx} {cc : ByteArray} {own : String} {rm : Room} {ret : Option FieldType} {D : va_G} {y : ClassId × ClassId × ClassId} {z : Nat × Nat} {Q : O → State → Prop} {F : Option O} {pc pc' : Nat} {lv : List (Option Value)} {st : List Value} {ws : va_W} (hX : OKX X cc own rm ret D y) {x : Int64} (hd : decode cc pc = .ok (.l2i, 1)) (hp : pc + 1 = pc') (k : GF X cc D z Q F pc' lv (.int (iz (l2iI x)) :: st) ws) : GF X cc D z Q F pc lv (.long x :: st) ws := by
  subst hp
  intro o ho H locs ls hP hD hS hl
  have k := k o ho H locs ls hP hD hS hl
  rw [l2iI, iz_toInt] at k
  exact lv_l2i hX.1 hX.2.1 hd rfl k
theorem g_lshl {O : Type} {X : Cx} {cc : ByteArray} {own : String} {rm : Room} {ret : Option FieldType} {D : va_G} {y : ClassId × ClassId × ClassId} {z : Nat × Nat} {Q : O → State → Prop} {F : Option O} {pc pc' : Nat} {lv : List (Option Value)} {st : List Value} {ws : va_W} (hX : OKX X cc own rm ret D y) {x : Int64} {a : Int} (hd : decode cc pc = .ok (.lshl, 1)) (hp : pc + 1 = pc') (k : GF X cc D z Q F pc' lv (.long (x <<< ((iz a).toInt64 &&& 63)) :: st) ws) : GF X cc D z Q F pc lv (.int (iz a) :: .long x :: st) ws := by
  subst hp
  intro o ho H locs ls hP hD hS hl
  exact lv_lshl hX.1 hX.2.1 hd rfl (k o ho H locs ls hP hD hS hl)
theorem g_lshr {O : Type} {X : Cx} {cc : ByteArray} {own : String} {rm : Room} {ret : Option FieldType} {D : va_G} {y : ClassId × ClassId × ClassId} {z : Nat × Nat} {Q : O → State → Prop} {F : Option O} {pc pc' : Nat} {lv : List (Option Value)} {st : List Value} {ws : va_W} (hX : OKX X cc own rm ret D y) {x : Int64} {a : Int} (hd : decode cc pc = .ok (.lshr, 1)) (hp : pc + 1 = pc') (k : GF X cc D z Q F pc' lv (.long (x >>> ((iz a).toInt64 &&& 63)) :: st) ws) : GF X cc D z Q F pc lv (.int (iz a) :: .long x :: st) ws := by
  subst hp
  intro o ho H locs ls hP hD hS hl
  exact lv_lshr hX.1 hX.2.1 hd rfl (k o ho H locs ls hP hD hS hl)
theorem g_land {O : Type} {X : Cx} {cc : ByteArray} {own : String} {rm : Room} {ret : Option FieldType} {D : va_G} {y : ClassId × ClassId × ClassId} {z : Nat × Nat} {Q : O → State → Prop} {F : Option O} {pc pc' : Nat} {lv : List (Option Value)} {st : List Value} {ws : va_W} (hX : OKX X cc own rm ret D y) {x x' : Int64} (hd : decode cc pc = .ok (.land, 1)) (hp : pc + 1 = pc') (k : GF X cc D z Q F pc' lv (.long (x &&& x') :: st) ws) : GF X cc D z Q F pc lv (.long x' :: .long x :: st) ws := by
  subst hp
  intro o ho H locs ls hP hD hS hl
  exact lv_land hX.1 hX.2.1 hd (k o ho H locs ls hP hD hS hl)
theorem g_lor {O : Type} {X : Cx} {cc : ByteArray} {own : String} {rm : Room} {ret : Option FieldType} {D : va_G} {y : ClassId × ClassId × ClassId} {z : Nat × Nat} {Q : O → State → Prop} {F : Option O} {pc pc' : Nat} {lv : List (Option Value)} {st : List Value} {ws : va_W} (hX : OKX X cc own rm ret D y) {x x' : Int64} (hd : decode cc pc = .ok (.lor, 1)) (hp : pc + 1 = pc') (k : GF X cc D z Q F pc' lv (.long (x ||| x') :: st) ws) : GF X cc D z Q F pc lv (.long x' :: .long x :: st) ws := by
  subst hp
  intro o ho H locs ls hP hD hS hl
  exact lv_lor hX.1 hX.2.1 hd (k o ho H locs ls hP hD hS hl)
theorem g_lxor {O : Type} {X : Cx} {cc : ByteArray} {own : String} {rm : Room} {ret : Option FieldType} {D : va_G} {y : ClassId × ClassId × ClassId} {z : Nat × Nat} {Q : O → State → Prop} {F : Option O} {pc pc' : Nat} {lv : List (Option Value)} {st : List Value} {ws : va_W} (hX : OKX X cc own rm ret D y) {x x' : Int64} (hd : decode cc pc = .ok (.lxor, 1)) (hp : pc + 1 = pc') (k : GF X cc D z Q F pc' lv (.long (x ^^^ x') :: st) ws) : GF X cc D z Q F pc lv (.long x' :: .long x :: st) ws := by
  subst hp
  intro o ho H locs ls hP hD hS hl
  exact lv_lxor hX.1 hX.2.1 hd (k o ho H locs ls hP hD hS hl)
theorem g_i2f {O : Type} {X : Cx} {cc : ByteArray} {own : String} {rm : Room} {ret : Option FieldType} {D : va_G} {y : ClassId × ClassId × ClassId} {z : Nat × Nat} {Q : O → State → Prop} {F : Option O} {pc pc' : Nat} {lv : List (Option Value)} {st : List Value} {ws : va_W} (hX : OKX X cc own rm ret D y) {a : Int} (hd : decode cc pc = .ok (.i2f, 1)) (hp : pc + 1 = pc') (k : GF X cc D z Q F pc' lv (.float (FP.i2f (iz a)) :: st) ws) : GF X cc D z Q F pc lv (.int (iz a) :: st) ws := by
  subst hp
  intro o ho H locs ls hP hD hS hl
  exact lv_i2f hX.1 hX.2.1 hd (k o ho H locs ls hP hD hS hl)
theorem g_f2i {O : Type} {X : Cx} {cc : ByteArray} {own : String} {rm : Room} {ret : Option FieldType} {D : va_G} {y : ClassId × ClassId × ClassId} {z : Nat × Nat} {Q : O → State → Prop} {F : Option O} {pc pc' : Nat} {lv : List (Option Value)} {st : List Value} {ws : va_W} (hX : OKX X cc own rm ret D y) {x : UInt32} (hd : decode cc pc = .ok (.f2i, 1)) (hp : pc + 1 = pc') (k : GF X cc D z Q F pc' lv (.int (iz (f2iI x)) :: st) ws) : GF X cc D z Q F pc lv (.float x :: st) ws := by
  subst hp
  intro o ho H locs ls hP hD hS hl
  have k := k o ho H locs ls hP hD hS hl
  rw [f2iI, iz_toInt] at k
  exact lv_f2i hX.1 hX.2.1 hd k
theorem g_fdiv {O : Type} {X : Cx} {cc : ByteArray} {own : String} {rm : Room} {ret : Option FieldType} {D : va_G} {y : ClassId × ClassId × ClassId} {z : Nat × Nat} {Q : O → State → Prop} {F : Option O} {pc pc' : Nat} {lv : List (Option Value)} {st : List Value} {ws : va_W} (hX : OKX X cc own rm ret D y) {x x' : UInt32} (hd : decode cc pc = .ok (.fdiv, 1)) (hp : pc + 1 = pc') (k : GF X cc D z Q F pc' lv (.float (FP.fdiv x x') :: st) ws) : GF X cc D z Q (cf (FP.fdiv x x') F) pc lv (.float x' :: .float x :: st) ws := by
  subst hp
  intro o ho H locs ls hP hD hS hl
  unfold cf at ho
  split at ho
  · next h => exact lv_fdiv hX.1 hX.2.1 hd h (k o ho H locs ls hP hD hS hl)
  · cases ho
theorem g_fmul {O : Type} {X : Cx} {cc : ByteArray} {own : String} {rm : Room} {ret : Option FieldType} {D : va_G} {y : ClassId × ClassId × ClassId} {z : Nat × Nat} {Q : O → State → Prop} {F : Option O} {pc pc' : Nat} {lv : List (Option Value)} {st : List Value} {ws : va_W} (hX : OKX X cc own rm ret D y) {x x' : UInt32} (hd : decode cc pc = .ok (.fmul, 1)) (hp : pc + 1 = pc') (k : GF X cc D z Q F pc' lv (.float (FP.fmul x x') :: st) ws) : GF X cc D z Q (cf (FP.fmul x x') F) pc lv (.float x' :: .float x :: st) ws := by
  subst hp
  intro o ho H locs ls hP hD hS hl
  unfold cf at ho
  split at ho
  · next h => exact lv_fmul hX.1 hX.2.1 hd h (k o ho H locs ls hP hD hS hl)
  · cases ho
theorem g_dup {O : Type} {X : Cx} {cc : ByteArray} {own : String} {rm : Room} {ret : Option FieldType} {D : va_G} {y : ClassId × ClassId × ClassId} {z : Nat × Nat} {Q : O → State → Prop} {F : Option O} {pc pc' : Nat} {lv : List (Option Value)} {st : List Value} {ws : va_W} (hX : OKX X cc own rm ret D y) {v : Value} (hd : decode cc pc = .ok (.dup, 1)) (hv : v.category = 1) (hp : pc + 1 = pc') (k : GF X cc D z Q F pc' lv (v :: v :: st) ws) : GF X cc D z Q F pc lv (v :: st) ws := by
  subst hp
  intro o ho H locs ls hP hD hS hl
  exact lv_dup hX.1 hX.2.1 hd hv (k o ho H locs ls hP hD hS hl)
theorem g_dup2 {O : Type} {X : Cx} {cc : ByteArray} {own : String} {rm : Room} {ret : Option FieldType} {D : va_G} {y : ClassId × ClassId × ClassId} {z : Nat × Nat} {Q : O → State → Prop} {F : Option O} {pc pc' : Nat} {lv : List (Option Value)} {st : List Value} {ws : va_W} (hX : OKX X cc own rm ret D y) {v u : Value} (hd : decode cc pc = .ok (.dup2, 1)) (hv : v.category = 1) (hu : u.category = 1) (hp : pc + 1 = pc') (k : GF X cc D z Q F pc' lv (v :: u :: v :: u :: st) ws) : GF X cc D z Q F pc lv (v :: u :: st) ws := by
  subst hp
  intro o ho H locs ls hP hD hS hl
  exact lv_dup2_11 hX.1 hX.2.1 hd hv hu (k o ho H locs ls hP hD hS hl)
theorem g_pop {O : Type} {X : Cx} {cc : ByteArray} {own : String} {rm : Room} {ret : Option FieldType} {D : va_G} {y : ClassId × ClassId × ClassId} {z : Nat × Nat} {Q : O → State → Prop} {F : Option O} {pc pc' : Nat} {lv : List (Option Value)} {st : List Value} {ws : va_W} (hX : OKX X cc own rm ret D y) {v : Value} (hd : decode cc pc = .ok (.pop, 1)) (hv : v.category = 1) (hp : pc + 1 = pc') (k : GF X cc D z Q F pc' lv st ws) : GF X cc D z Q F pc lv (v :: st) ws := by
  subst hp
  intro o ho H locs ls hP hD hS hl
  exact lv_pop hX.1 hX.2.1 hd hv (k o ho H locs ls hP hD hS hl)
theorem g_goto {O : Type} {X : Cx} {cc : ByteArray} {own : String} {rm : Room} {ret : Option FieldType} {D : va_G} {y : ClassId × ClassId × ClassId} {z : Nat × Nat} {Q : O → State → Prop} {F : Option O} {pc pc' : Nat} {lv : List (Option Value)} {st : List Value} {ws : va_W} (hX : OKX X cc own rm ret D y) {off : Int} (hd : decode cc pc = .ok (.goto off, 3)) (hp : (pc : Int) + off = (pc' : Int)) (k : GF X cc D z Q F pc' lv st ws) : GF X cc D z Q F pc lv st ws := by
  intro o ho H locs ls hP hD hS hl
  exact lv_goto hX.1 hX.2.1 hd hp (k o ho H locs ls hP hD hS hl)
theorem g_iload {O : Type} {X : Cx} {cc : ByteArray} {own : String} {rm : Room} {ret : Option FieldType} {D : va_G} {y : ClassId × ClassId × ClassId} {z : Nat × Nat} {Q : O → State → Prop} {F : Option O} {pc pc' : Nat} {lv : List (Option Value)} {st : List Value} {ws : va_W} (hX : OKX X cc own rm ret D y) {i : Nat} {a : Int} (hd : decode cc pc = .ok (.iload i, 2)) (hp : pc + 2 = pc') (hi : lv[i]? = some (some (.int (iz a)))) (k : GF X cc D z Q F pc' lv (.int (iz a) :: st) ws) : GF X cc D z Q F pc lv st ws := by
  subst hp
  intro o ho H locs ls hP hD hS hl
  exact lv_iload hX.1 hX.2.1 hd (hl.2.2.2 _ _ hi).1 (k o ho H locs ls hP hD hS hl)
theorem g_aload {O : Type} {X : Cx} {cc : ByteArray} {own : String} {rm : Room} {ret : Option FieldType} {D : va_G} {y : ClassId × ClassId × ClassId} {z : Nat × Nat} {Q : O → State → Prop} {F : Option O} {pc pc' : Nat} {lv : List (Option Value)} {st : List Value} {ws : va_W} (hX : OKX X cc own rm ret D y) {i : Nat} {a : Nat} (hd : decode cc pc = .ok (.aload i, 2)) (hp : pc + 2 = pc') (hi : lv[i]? = some (some (.ref a))) (k : GF X cc D z Q F pc' lv (.ref a :: st) ws) : GF X cc D z Q F pc lv st ws := by
  subst hp
  intro o ho H locs ls hP hD hS hl
  exact lv_aload hX.1 hX.2.1 hd (hl.2.2.2 _ _ hi).1 (k o ho H locs ls hP hD hS hl)
theorem g_iload_n {O : Type} {X : Cx} {cc : ByteArray} {own : String} {rm : Room} {ret : Option FieldType} {D : va_G} {y : ClassId × ClassId × ClassId} {z : Nat × Nat} {Q : O → State → Prop} {F : Option O} {pc pc' : Nat} {lv : List (Option Value)} {st : List Value} {ws : va_W} (hX : OKX X cc own rm ret D y) {i : Fin 4} {a : Int} (hd : decode cc pc = .ok (.iload_n i, 1)) (hp : pc + 1 = pc') (hi : lv[(i : Nat)]? = some (some (.int (iz a)))) (k : GF X cc D z Q F pc' lv (.int (iz a) :: st) ws) : GF X cc D z Q F pc lv st ws := by
  subst hp
  intro o ho H locs ls hP hD hS hl
  exact lv_iload_n hX.1 hX.2.1 hd rfl (hl.2.2.2 _ _ hi).1 (k o ho H locs ls hP hD hS hl)
theorem g_aload_n {O : Type} {X : Cx} {cc : ByteArray} {own : String} {rm : Room} {ret : Option FieldType} {D : va_G} {y : ClassId × ClassId × ClassId} {z : Nat × Nat} {Q : O → State → Prop} {F : Option O} {pc pc' : Nat} {lv : List (Option Value)} {st : List Value} {ws : va_W} (hX : OKX X cc own rm ret D y) {i : Fin 4} {a : Nat} (hd : decode cc pc = .ok (.aload_n i, 1)) (hp : pc + 1 = pc') (hi : lv[(i : Nat)]? = some (some (.ref a))) (k : GF X cc D z Q F pc' lv (.ref a :: st) ws) : GF X cc D z Q F pc lv st ws := by
  subst hp
  intro o ho H locs ls hP hD hS hl
  exact lv_aload_n hX.1 hX.2.1 hd rfl (hl.2.2.2 _ _ hi).1 (k o ho H locs ls hP hD hS hl)
theorem g_fload_n {O : Type} {X : Cx} {cc : ByteArray} {own : String} {rm : Room} {ret : Option FieldType} {D : va_G} {y : ClassId × ClassId × ClassId} {z : Nat × Nat} {Q : O → State → Prop} {F : Option O} {pc pc' : Nat} {lv : List (Option Value)} {st : List Value} {ws : va_W} (hX : OKX X cc own rm ret D y) {i : Fin 4} {a : UInt32} (hd : decode cc pc = .ok (.fload_n i, 1)) (hp : pc + 1 = pc') (hi : lv[(i : Nat)]? = some (some (.float a))) (k : GF X cc D z Q F pc' lv (.float a :: st) ws) : GF X cc D z Q F pc lv st ws := by
  subst hp
  intro o ho H locs ls hP hD hS hl
  exact lv_fload_n hX.1 hX.2.1 hd rfl (hl.2.2.2 _ _ hi).1 (k o ho H locs ls hP hD hS hl)
theorem g_istore {O : Type} {X : Cx} {cc : ByteArray} {own : String} {rm : Room} {ret : Option FieldType} {D : va_G} {y : ClassId × ClassId × ClassId} {z : Nat × Nat} {Q : O → State → Prop} {F : Int → Option O} {pc pc' : Nat} {lv : List (Option Value)} {st : List Value} {ws : va_W} (hX : OKX X cc own rm ret D y) {i : Nat} {a : Int} (hd : decode cc pc = .ok (.istore i, 2)) (hp : pc + 2 = pc') {lv' : Int → List (Option Value)} (hi : Nat.ble (i + 1) lv.length = true) (hs : ∀ x, lv.set i (some (.int (iz x))) = lv' x) (k : ∀ x, GF X cc D z Q (F x) pc' (lv' x) st ws) : GF X cc D z Q (nm a F) pc lv (.int (iz a) :: st) ws := by
  subst hp
  intro o ho H locs ls hP hD hS hl
  exact lv_istore hX.1 hX.2.1 hd hl.has (hl.2.1 ▸ Nat.le_of_ble_eq_true hi) rfl (fun ls' h' => k a o ho H locs ls' hP hD hS (hs a ▸ hl.store rfl h'))
theorem g_istore_n {O : Type} {X : Cx} {cc : ByteArray} {own : String} {rm : Room} {ret : Option FieldType} {D : va_G} {y : ClassId × ClassId × ClassId} {z : Nat × Nat} {Q : O → State → Prop} {F : Int → Option O} {pc pc' : Nat} {lv : List (Option Value)} {st : List Value} {ws : va_W} (hX : OKX X cc own rm ret D y) {i : Fin 4} {a : Int} (hd : decode cc pc = .ok (.istore_n i, 1)) (hp : pc + 1 = pc') {lv' : Int → List (Option Value)} (hi : Nat.ble ((i : Nat) + 1) lv.length = true) (hs : ∀ x, lv.set (i : Nat) (some (.int (iz x))) = lv' x) (k : ∀ x, GF X cc D z Q (F x) pc' (lv' x) st ws) : GF X cc D z Q (nm a F) pc lv (.int (iz a) :: st) ws := by
  subst hp
  intro o ho H locs ls hP hD hS hl
  exact lv_istore_n hX.1 hX.2.1 hd rfl hl.has (hl.2.1 ▸ Nat.le_of_ble_eq_true hi) rfl (fun ls' h' => k a o ho H locs ls' hP hD hS (hs a ▸ hl.store rfl h'))
theorem g_fstore_n {O : Type} {X : Cx} {cc : ByteArray} {own : String} {rm : Room} {ret : Option FieldType} {D : va_G} {y : ClassId × ClassId × ClassId} {z : Nat × Nat} {Q : O → State → Prop} {F : Option O} {pc pc' : Nat} {lv : List (Option Value)} {st : List Value} {ws : va_W} (hX : OKX X cc own rm ret D y) {i : Fin 4} {a : UInt32} (hd : decode cc pc = .ok (.fstore_n i, 1)) (hp : pc + 1 = pc') {lv' : List (Option Value)} (hi : Nat.ble ((i : Nat) + 1) lv.length = true) (hs : lv.set (i : Nat) (some (.float a)) = lv') (k : GF X cc D z Q F pc' lv' st ws) : GF X cc D z Q F pc lv (.float a :: st) ws := by
  subst hp
  intro o ho H locs ls hP hD hS hl
  exact lv_fstore_n hX.1 hX.2.1 hd rfl hl.has (hl.2.1 ▸ Nat.le_of_ble_eq_true hi) rfl (fun ls' h' => k o ho H locs ls' hP hD hS (hs ▸ hl.store rfl h'))
theorem g_astore_n {O : Type} {X : Cx} {cc : ByteArray} {own : String} {rm : Room} {ret : Option FieldType} {D : va_G} {y : ClassId × ClassId × ClassId} {z : Nat × Nat} {Q : O → State → Prop} {F : Option O} {pc pc' : Nat} {lv : List (Option Value)} {st : List Value} {ws : va_W} (hX : OKX X cc own rm ret D y) {i : Fin 4} {a : Nat} (hd : decode cc pc = .ok (.astore_n i, 1)) (hp : pc + 1 = pc') {lv' : List (Option Value)} (hi : Nat.ble ((i : Nat) + 1) lv.length = true) (hs : lv.set (i : Nat) (some (.ref a)) = lv') (k : GF X cc D z Q F pc' lv' st ws) : GF X cc D z Q F pc lv (.ref a :: st) ws := by
  subst hp
  intro o ho H locs ls hP hD hS hl
  exact lv_astore_n hX.1 hX.2.1 hd rfl hl.has (hl.2.1 ▸ Nat.le_of_ble_eq_true hi) rfl (fun ls' h' => k o ho H locs ls' hP hD hS (hs ▸ hl.store rfl h'))
theorem g_iinc {O : Type} {X : Cx} {cc : ByteArray} {own : String} {rm : Room} {ret : Option FieldType} {D : va_G} {y : ClassId × ClassId × ClassId} {z : Nat × Nat} {Q : O → State → Prop} {F : Int → Option O} {pc pc' : Nat} {lv : List (Option Value)} {st : List Value} {ws : va_W} (hX : OKX X cc own rm ret D y) {i : Nat} {n a : Int} (hd : decode cc pc = .ok (.iinc i n, 3)) (hp : pc + 3 = pc') {lv' : Int → List (Option Value)} (hi : lv[i]? = some (some (.int (iz a)))) (hs : ∀ x, lv.set i (some (.int (iz x))) = lv' x) (k : ∀ x, GF X cc D z Q (F x) pc' (lv' x) st ws) : GF X cc D z Q (nm (a + n) F) pc lv st ws := by
  subst hp
  intro o ho H locs ls hP hD hS hl
  obtain ⟨j, hj⟩ := List.getElem?_of_mem (mem_lvl hi)
  exact lv_iinc hX.1 hX.2.1 hd hl.has hj rfl (hl.2.1 ▸ (List.getElem?_eq_some_iff.mp hi).1) rfl (fun ls' h' => by
    rw [show iz a + Int32.ofInt n = iz (a + n) from (iz_add a n).symm] at h'
    exact k (a + n) o ho H locs ls' hP hD hS (hs (a + n) ▸ hl.store rfl h'))
theorem g_drop {O : Type} {X : Cx} {cc : ByteArray} {D : va_G} {z : Nat × Nat} {Q : O → State → Prop} {F : Option O} {pc : Nat} {lv : List (Option Value)} {st : List Value} {ws : va_W} {lv' : List (Option Value)} (i : Nat) (hs : lv.set i none = lv') (k : GF X cc D z Q F pc lv' st ws) : GF X cc D z Q F pc lv st ws := by
  subst hs
  intro o ho H locs ls hP hD hS hl
  refine k o ho H locs ls hP hD hS ⟨hl.1, by rw [List.length_set]; exact hl.2.1, hl.2.2.1, fun j w hw => hl.2.2.2 j w ?_⟩
  by_cases hj : i = j
  · subst hj
    by_cases hl2 : i < lv.length
    · rw [List.getElem?_set_self hl2] at hw; cases hw
    · rw [List.getElem?_eq_none (by rw [List.length_set]; omega)] at hw; cases hw
  · rw [List.getElem?_set_ne hj] at hw; exact hw
theorem g_icmp_eq {O : Type} {X : Cx} {cc : ByteArray} {own : String} {rm : Room} {ret : Option FieldType} {D : va_G} {y : ClassId × ClassId × ClassId} {z : Nat × Nat} {Q : O → State → Prop} {F1 F2 : Option O} {pc pc' tgt : Nat} {lv : List (Option Value)} {st : List Value} {ws : va_W} (hX : OKX X cc own rm ret D y) {a b off : Int} (hd : decode cc pc = .ok (.if_icmp .eq off, 3)) (ht : (pc : Int) + off = (tgt : Int)) (hp : pc + 3 = pc') (k1 : GF X cc D z Q F1 tgt lv st ws) (k2 : GF X cc D z Q F2 pc' lv st ws) : GF X cc D z Q (if wr a = wr b then F1 else F2) pc lv (.int (iz b) :: .int (iz a) :: st) ws := by
  subst hp
  intro o ho H locs ls hP hD hS hl
  refine lv_icmp_eq hX.1 hX.2.1 hd ht (fun h => ?_) (fun h => ?_)
  · rw [if_pos ((iz_eq a b).mp h)] at ho; exact k1 o ho H locs ls hP hD hS hl
  · rw [if_neg (fun q => h ((iz_eq a b).mpr q))] at ho; exact k2 o ho H locs ls hP hD hS hl
theorem g_icmp_lt {O : Type} {X : Cx} {cc : ByteArray} {own : String} {rm : Room} {ret : Option FieldType} {D : va_G} {y : ClassId × ClassId × ClassId} {z : Nat × Nat} {Q : O → State → Prop} {F1 F2 : Option O} {pc pc' tgt : Nat} {lv : List (Option Value)} {st : List Value} {ws : va_W} (hX : OKX X cc own rm ret D y) {a b off : Int} (hd : decode cc pc = .ok (.if_icmp .lt off, 3)) (ht : (pc : Int) + off = (tgt : Int)) (hp : pc + 3 = pc') (k1 : GF X cc D z Q F1 tgt lv st ws) (k2 : GF X cc D z Q F2 pc' lv st ws) : GF X cc D z Q (if wr a < wr b then F1 else F2) pc lv (.int (iz b) :: .int (iz a) :: st) ws := by
  subst hp
  intro o ho H locs ls hP hD hS hl
  refine lv_icmp_lt hX.1 hX.2.1 hd ht (fun h => ?_) (fun h => ?_)
  · rw [if_pos ((iz_lt a b).mp h)] at ho; exact k1 o ho H locs ls hP hD hS hl
  · rw [if_neg (fun q => h ((iz_lt a b).mpr q))] at ho; exact k2 o ho H locs ls hP hD hS hl
theorem g_icmp_ge {O : Type} {X : Cx} {cc : ByteArray} {own : String} {rm : Room} {ret : Option FieldType} {D : va_G} {y : ClassId × ClassId × ClassId} {z : Nat × Nat} {Q : O → State → Prop} {F1 F2 : Option O} {pc pc' tgt : Nat} {lv : List (Option Value)} {st : List Value} {ws : va_W} (hX : OKX X cc own rm ret D y) {a b off : Int} (hd : decode cc pc = .ok (.if_icmp .ge off, 3)) (ht : (pc : Int) + off = (tgt : Int)) (hp : pc + 3 = pc') (k1 : GF X cc D z Q F1 tgt lv st ws) (k2 : GF X cc D z Q F2 pc' lv st ws) : GF X cc D z Q (if wr b ≤ wr a then F1 else F2) pc lv (.int (iz b) :: .int (iz a) :: st) ws := by
  subst hp
  intro o ho H locs ls hP hD hS hl
  refine lv_icmp_ge hX.1 hX.2.1 hd ht (fun h => ?_) (fun h => ?_)
  · rw [if_pos ((iz_le b a).mp h)] at ho; exact k1 o ho H locs ls hP hD hS hl
  · rw [if_neg (fun q => h ((iz_le b a).mpr q))] at ho; exact k2 o ho H locs ls hP hD hS hl
theorem g_icmp_gt {O : Type} {X : Cx} {cc : ByteArray} {own : String} {rm : Room} {ret : Option FieldType} {D : va_G} {y : ClassId × ClassId × ClassId} {z : Nat × Nat} {Q : O → State → Prop} {F1 F2 : Option O} {pc pc' tgt : Nat} {lv : List (Option Value)} {st : List Value} {ws : va_W} (hX : OKX X cc own rm ret D y) {a b off : Int} (hd : decode cc pc = .ok (.if_icmp .gt off, 3)) (ht : (pc : Int) + off = (tgt : Int)) (hp : pc + 3 = pc') (k1 : GF X cc D z Q F1 tgt lv st ws) (k2 : GF X cc D z Q F2 pc' lv st ws) : GF X cc D z Q (if wr b < wr a then F1 else F2) pc lv (.int (iz b) :: .int (iz a) :: st) ws := by
  subst hp
  intro o ho H locs ls hP hD hS hl
  refine lv_icmp_gt hX.1 hX.2.1 hd ht (fun h => ?_) (fun h => ?_)
  · rw [if_pos ((iz_lt b a).mp h)] at ho; exact k1 o ho H locs ls hP hD hS hl
  · rw [if_neg (fun q => h ((iz_lt b a).mpr q))] at ho; exact k2 o ho H locs ls hP hD hS hl
theorem g_icmp_le {O : Type} {X : Cx} {cc : ByteArray} {own : String} {rm : Room} {ret : Option FieldType} {D : va_G} {y : ClassId × ClassId × ClassId} {z : Nat × Nat} {Q : O → State → Prop} {F1 F2 : Option O} {pc pc' tgt : Nat} {lv : List (Option Value)} {st : List Value} {ws : va_W} (hX : OKX X cc own rm ret D y) {a b off : Int} (hd : decode cc pc = .ok (.if_icmp .le off, 3)) (ht : (pc : Int) + off = (tgt : Int)) (hp : pc + 3 = pc') (k1 : GF X cc D z Q F1 tgt lv st ws) (k2 : GF X cc D z Q F2 pc' lv st ws) : GF X cc D z Q (if wr a ≤ wr b then F1 else F2) pc lv (.int (iz b) :: .int (iz a) :: st) ws := by
  subst hp
  intro o ho H locs ls hP hD hS hl
  refine lv_icmp_le hX.1 hX.2.1 hd ht (fun h => ?_) (fun h => ?_)
  · rw [if_pos ((iz_le a b).mp h)] at ho; exact k1 o ho H locs ls hP hD hS hl
  · rw [if_neg (fun q => h ((iz_le a b).mpr q))] at ho; exact k2 o ho H locs ls hP hD hS hl
theorem g_icmp_ne {O : Type} {X : Cx} {cc : ByteArray} {own : String} {rm : Room} {ret : Option FieldType} {D : va_G} {y : ClassId × ClassId × ClassId} {z : Nat × Nat} {Q : O → State → Prop} {F1 F2 : Option O} {pc pc' tgt : Nat} {lv : List (Option Value)} {st : List Value} {ws : va_W} (hX : OKX X cc own rm ret D y) {a b off : Int} (hd : decode cc pc = .ok (.if_icmp .ne off, 3)) (ht : (pc : Int) + off = (tgt : Int)) (hp : pc + 3 = pc') (k1 : GF X cc D z Q F1 tgt lv st ws) (k2 : GF X cc D z Q F2 pc' lv st ws) : GF X cc D z Q (if wr a = wr b then F2 else F1) pc lv (.int (iz b) :: .int (iz a) :: st) ws := by
  subst hp
  intro o ho H locs ls hP hD hS hl
  refine lv_icmp_ne hX.1 hX.2.1 hd ht (fun h => ?_) (fun h => ?_)
  · rw [if_neg (fun q => h ((iz_eq a b).mpr q))] at ho; exact k1 o ho H locs ls hP hD hS hl
  · rw [if_pos ((iz_eq a b).mp (h))] at ho; exact k2 o ho H locs ls hP hD hS hl
theorem g_if_eq {O : Type} {X : Cx} {cc : ByteArray} {own : String} {rm : Room} {ret : Option FieldType} {D : va_G} {y : ClassId × ClassId × ClassId} {z : Nat × Nat} {Q : O → State → Prop} {F1 F2 : Option O} {pc pc' tgt : Nat} {lv : List (Option Value)} {st : List Value} {ws : va_W} (hX : OKX X cc own rm ret D y) {a off : Int} (hd : decode cc pc = .ok (.ifCond .eq off, 3)) (ht : (pc : Int) + off = (tgt : Int)) (hp : pc + 3 = pc') (k1 : GF X cc D z Q F1 tgt lv st ws) (k2 : GF X cc D z Q F2 pc' lv st ws) : GF X cc D z Q (if wr a = 0 then F1 else F2) pc lv (.int (iz a) :: st) ws := by
  subst hp
  intro o ho H locs ls hP hD hS hl
  have hq := iz_eq a 0
  rw [wr_0] at hq
  refine lv_if_eq hX.1 hX.2.1 hd ht (fun h => ?_) (fun h => ?_)
  · rw [if_pos (hq.mp (by rw [← iz_0]; exact h))] at ho; exact k1 o ho H locs ls hP hD hS hl
  · rw [if_neg (fun q => h (by rw [iz_0]; exact hq.mpr q))] at ho; exact k2 o ho H locs ls hP hD hS hl
theorem g_if_lt {O : Type} {X : Cx} {cc : ByteArray} {own : String} {rm : Room} {ret : Option FieldType} {D : va_G} {y : ClassId × ClassId × ClassId} {z : Nat × Nat} {Q : O → State → Prop} {F1 F2 : Option O} {pc pc' tgt : Nat} {lv : List (Option Value)} {st : List Value} {ws : va_W} (hX : OKX X cc own rm ret D y) {a off : Int} (hd : decode cc pc = .ok (.ifCond .lt off, 3)) (ht : (pc : Int) + off = (tgt : Int)) (hp : pc + 3 = pc') (k1 : GF X cc D z Q F1 tgt lv st ws) (k2 : GF X cc D z Q F2 pc' lv st ws) : GF X cc D z Q (if wr a < 0 then F1 else F2) pc lv (.int (iz a) :: st) ws := by
  subst hp
  intro o ho H locs ls hP hD hS hl
  have hq := iz_lt a 0
  rw [wr_0] at hq
  refine lv_if_lt hX.1 hX.2.1 hd ht (fun h => ?_) (fun h => ?_)
  · rw [if_pos (hq.mp (by rw [← iz_0]; exact h))] at ho; exact k1 o ho H locs ls hP hD hS hl
  · rw [if_neg (fun q => h (by rw [iz_0]; exact hq.mpr q))] at ho; exact k2 o ho H locs ls hP hD hS hl
theorem g_if_ge {O : Type} {X : Cx} {cc : ByteArray} {own : String} {rm : Room} {ret : Option FieldType} {D : va_G} {y : ClassId × ClassId × ClassId} {z : Nat × Nat} {Q : O → State → Prop} {F1 F2 : Option O} {pc pc' tgt : Nat} {lv : List (Option Value)} {st : List Value} {ws : va_W} (hX : OKX X cc own rm ret D y) {a off : Int} (hd : decode cc pc = .ok (.ifCond .ge off, 3)) (ht : (pc : Int) + off = (tgt : Int)) (hp : pc + 3 = pc') (k1 : GF X cc D z Q F1 tgt lv st ws) (k2 : GF X cc D z Q F2 pc' lv st ws) : GF X cc D z Q (if 0 ≤ wr a then F1 else F2) pc lv (.int (iz a) :: st) ws := by
  subst hp
  intro o ho H locs ls hP hD hS hl
  have hq := iz_le 0 a
  rw [wr_0] at hq
  refine lv_if_ge hX.1 hX.2.1 hd ht (fun h => ?_) (fun h => ?_)
  · rw [if_pos (hq.mp (by rw [← iz_0]; exact h))] at ho; exact k1 o ho H locs ls hP hD hS hl
  · rw [if_neg (fun q => h (by rw [iz_0]; exact hq.mpr q))] at ho; exact k2 o ho H locs ls hP hD hS hl
theorem g_if_gt {O : Type} {X : Cx} {cc : ByteArray} {own : String} {rm : Room} {ret : Option FieldType} {D : va_G} {y : ClassId × ClassId × ClassId} {z : Nat × Nat} {Q : O → State → Prop} {F1 F2 : Option O} {pc pc' tgt : Nat} {lv : List (Option Value)} {st : List Value} {ws : va_W} (hX : OKX X cc own rm ret D y) {a off : Int} (hd : decode cc pc = .ok (.ifCond .gt off, 3)) (ht : (pc : Int) + off = (tgt : Int)) (hp : pc + 3 = pc') (k1 : GF X cc D z Q F1 tgt lv st ws) (k2 : GF X cc D z Q F2 pc' lv st ws) : GF X cc D z Q (if 0 < wr a then F1 else F2) pc lv (.int (iz a) :: st) ws := by
  subst hp
  intro o ho H locs ls hP hD hS hl
  have hq := iz_lt 0 a
  rw [wr_0] at hq
  refine lv_if_gt hX.1 hX.2.1 hd ht (fun h => ?_) (fun h => ?_)
  · rw [if_pos (hq.mp (by rw [← iz_0]; exact h))] at ho; exact k1 o ho H locs ls hP hD hS hl
  · rw [if_neg (fun q => h (by rw [iz_0]; exact hq.mpr q))] at ho; exact k2 o ho H locs ls hP hD hS hl
theorem g_if_le {O : Type} {X : Cx} {cc : ByteArray} {own : String} {rm : Room} {ret : Option FieldType} {D : va_G} {y : ClassId × ClassId × ClassId} {z : Nat × Nat} {Q : O → State → Prop} {F1 F2 : Option O} {pc pc' tgt : Nat} {lv : List (Option Value)} {st : List Value} {ws : va_W} (hX : OKX X cc own rm ret D y) {a off : Int} (hd : decode cc pc = .ok (.ifCond .le off, 3)) (ht : (pc : Int) + off = (tgt : Int)) (hp : pc + 3 = pc') (k1 : GF X cc D z Q F1 tgt lv st ws) (k2 : GF X cc D z Q F2 pc' lv st ws) : GF X cc D z Q (if wr a ≤ 0 then F1 else F2) pc lv (.int (iz a) :: st) ws := by
  subst hp
  intro o ho H locs ls hP hD hS hl
  have hq := iz_le a 0
  rw [wr_0] at hq
  refine lv_if_le hX.1 hX.2.1 hd ht (fun h => ?_) (fun h => ?_)
  · rw [if_pos (hq.mp (by rw [← iz_0]; exact h))] at ho; exact k1 o ho H locs ls hP hD hS hl
  · rw [if_neg (fun q => h (by rw [iz_0]; exact hq.mpr q))] at ho; exact k2 o ho H locs ls hP hD hS hl
theorem g_if_ne {O : Type} {X : Cx} {cc : ByteArray} {own : String} {rm : Room} {ret : Option FieldType} {D : va_G} {y : ClassId × ClassId × ClassId} {z : Nat × Nat} {Q : O → State → Prop} {F1 F2 : Option O} {pc pc' tgt : Nat} {lv : List (Option Value)} {st : List Value} {ws : va_W} (hX : OKX X cc own rm ret D y) {a off : Int} (hd : decode cc pc = .ok (.ifCond .ne off, 3)) (ht : (pc : Int) + off = (tgt : Int)) (hp : pc + 3 = pc') (k1 : GF X cc D z Q F1 tgt lv st ws) (k2 : GF X cc D z Q F2 pc' lv st ws) : GF X cc D z Q (if wr a = 0 then F2 else F1) pc lv (.int (iz a) :: st) ws := by
  subst hp
  intro o ho H locs ls hP hD hS hl
  have hq := iz_eq a 0
  rw [wr_0] at hq
  refine lv_if_ne hX.1 hX.2.1 hd ht (fun h => ?_) (fun h => ?_)
  · rw [if_neg (fun q => h (by rw [iz_0]; exact hq.mpr q))] at ho; exact k1 o ho H locs ls hP hD hS hl
  · rw [if_pos (hq.mp (by rw [← iz_0]; exact h))] at ho; exact k2 o ho H locs ls hP hD hS hl
theorem g_ite {O : Type} {X : Cx} {cc : ByteArray} {D : va_G} {z : Nat × Nat} {Q : O → State → Prop} {F1 F2 : Option O} {pc : Nat} {lv : List (Option Value)} {st : List Value} {ws : va_W} {C : Prop} [Decidable C] (k1 : C → GF X cc D z Q F1 pc lv st ws) (k2 : ¬ C → GF X cc D z Q F2 pc lv st ws) : GF X cc D z Q (if C then F1 else F2) pc lv st ws := by
  intro o ho H locs ls hP hD hS hl
  by_cases h : C
  · rw [if_pos h] at ho; exact k1 h o ho H locs ls hP hD hS hl
  · rw [if_neg h] at ho; exact k2 h o ho H locs ls hP hD hS hl
theorem g_tab {O : Type} {X : Cx} {cc : ByteArray} {own : String} {rm : Room} {ret : Option FieldType} {D : va_G} {y : ClassId × ClassId × ClassId} {z : Nat × Nat} {Q : O → State → Prop} {F : Option O} {pc : Nat} {lv : List (Option Value)} {st : List Value} {ws : va_W} (hX : OKX X cc own rm ret D y) {a v dflt lo hi off : Int} {offs : Array Int} {len tgt : Nat} (hv : wr a = v) (hd : decode cc pc = .ok (.tableswitch dflt lo hi offs, len)) (h1 : ¬ v < lo) (h2 : ¬ hi < v) (ho : offs[(v - lo).toNat]? = some off) (ht : (pc : Int) + off = (tgt : Int)) (k : GF X cc D z Q F tgt lv st ws) : GF X cc D z Q F pc lv (.int (iz a) :: st) ws := by
  intro o hF H locs ls hP hD hS hl
  subst hv
  exact lv_tableIn hX.1 hX.2.1 hd h1 h2 ho ht (k o hF H locs ls hP hD hS hl)
theorem g_tabD {O : Type} {X : Cx} {cc : ByteArray} {own : String} {rm : Room} {ret : Option FieldType} {D : va_G} {y : ClassId × ClassId × ClassId} {z : Nat × Nat} {Q : O → State → Prop} {F : Option O} {pc : Nat} {lv : List (Option Value)} {st : List Value} {ws : va_W} (hX : OKX X cc own rm ret D y) {a dflt lo hi : Int} {offs : Array Int} {len tgt : Nat} (hd : decode cc pc = .ok (.tableswitch dflt lo hi offs, len)) (h : wr a < lo ∨ hi < wr a) (ht : (pc : Int) + dflt = (tgt : Int)) (k : GF X cc D z Q F tgt lv st ws) : GF X cc D z Q F pc lv (.int (iz a) :: st) ws := by
  intro o hF H locs ls hP hD hS hl
  exact lv_tableOut hX.1 hX.2.1 hd h ht (k o hF H locs ls hP hD hS hl)
theorem g_none {O : Type} {X : Cx} {cc : ByteArray} {D : va_G} {z : Nat × Nat} {Q : O → State → Prop} {pc : Nat} {lv : List (Option Value)} {st : List Value} {ws : va_W} : GF X cc D z Q none pc lv st ws := fun _ ho => by cases ho
