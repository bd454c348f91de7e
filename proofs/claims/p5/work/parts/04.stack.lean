noncomputable section
-- ===== stack functions, each with the row that it is right =====
def q_int (v : Int32) (st : List Value) : Option (List Value) := some (.int v :: st)
def q_long (v : Int64) (st : List Value) : Option (List Value) := some (.long v :: st)
theorem s_iconst {cc : ByteArray} {pc : Nat} {n : Int} {v : Int32} (hd : decode cc pc = .ok (.iconst n, 1)) (hv : Int32.ofInt n = v) : stkOk cc pc (pc + 1) (q_int v) := by
  intro p l e R s m args below meth c H locs cells slots Q ls ρ st st' hx hb h k
  cases h
  exact lv_iconst hx hb hd hv k
theorem s_bipush {cc : ByteArray} {pc : Nat} {n : Int} {v : Int32} (hd : decode cc pc = .ok (.bipush n, 2)) (hv : (Int8.ofInt n).toInt32 = v) : stkOk cc pc (pc + 2) (q_int v) := by
  intro p l e R s m args below meth c H locs cells slots Q ls ρ st st' hx hb h k
  cases h
  exact lv_bipush hx hb hd hv k
theorem s_sipush {cc : ByteArray} {pc : Nat} {n : Int} {v : Int32} (hd : decode cc pc = .ok (.sipush n, 3)) (hv : (Int16.ofInt n).toInt32 = v) : stkOk cc pc (pc + 3) (q_int v) := by
  intro p l e R s m args below meth c H locs cells slots Q ls ρ st st' hx hb h k
  cases h
  exact lv_sipush hx hb hd hv k
theorem s_lconst {cc : ByteArray} {pc : Nat} {n : Fin 2} {v : Int64} (hd : decode cc pc = .ok (.lconst n, 1)) (hv : Int64.ofNat (n : Nat) = v) : stkOk cc pc (pc + 1) (q_long v) := by
  intro p l e R s m args below meth c H locs cells slots Q ls ρ st st' hx hb h k
  cases h
  exact lv_lconst hx hb hd hv k
def q_iadd (st : List Value) : Option (List Value) := match st with
  | .int y :: .int x :: r => some (.int (x + y) :: r)
  | _ => none
theorem s_iadd {cc : ByteArray} {pc : Nat} (hd : decode cc pc = .ok (.iadd, 1)) : stkOk cc pc (pc + 1) q_iadd := by
  intro p l e R s m args below meth c H locs cells slots Q ls ρ st st' hx hb h k
  unfold q_iadd at h
  split at h
  · cases h
    exact lv_iadd hx hb hd k
  · cases h
def q_isub (st : List Value) : Option (List Value) := match st with
  | .int y :: .int x :: r => some (.int (x - y) :: r)
  | _ => none
theorem s_isub {cc : ByteArray} {pc : Nat} (hd : decode cc pc = .ok (.isub, 1)) : stkOk cc pc (pc + 1) q_isub := by
  intro p l e R s m args below meth c H locs cells slots Q ls ρ st st' hx hb h k
  unfold q_isub at h
  split at h
  · cases h
    exact lv_isub hx hb hd k
  · cases h
def q_imul (st : List Value) : Option (List Value) := match st with
  | .int y :: .int x :: r => some (.int (x * y) :: r)
  | _ => none
theorem s_imul {cc : ByteArray} {pc : Nat} (hd : decode cc pc = .ok (.imul, 1)) : stkOk cc pc (pc + 1) q_imul := by
  intro p l e R s m args below meth c H locs cells slots Q ls ρ st st' hx hb h k
  unfold q_imul at h
  split at h
  · cases h
    exact lv_imul hx hb hd k
  · cases h
def q_iand (st : List Value) : Option (List Value) := match st with
  | .int y :: .int x :: r => some (.int (x &&& y) :: r)
  | _ => none
theorem s_iand {cc : ByteArray} {pc : Nat} (hd : decode cc pc = .ok (.iand, 1)) : stkOk cc pc (pc + 1) q_iand := by
  intro p l e R s m args below meth c H locs cells slots Q ls ρ st st' hx hb h k
  unfold q_iand at h
  split at h
  · cases h
    exact lv_iand hx hb hd k
  · cases h
def q_ior (st : List Value) : Option (List Value) := match st with
  | .int y :: .int x :: r => some (.int (x ||| y) :: r)
  | _ => none
theorem s_ior {cc : ByteArray} {pc : Nat} (hd : decode cc pc = .ok (.ior, 1)) : stkOk cc pc (pc + 1) q_ior := by
  intro p l e R s m args below meth c H locs cells slots Q ls ρ st st' hx hb h k
  unfold q_ior at h
  split at h
  · cases h
    exact lv_ior hx hb hd k
  · cases h
def q_ixor (st : List Value) : Option (List Value) := match st with
  | .int y :: .int x :: r => some (.int (x ^^^ y) :: r)
  | _ => none
theorem s_ixor {cc : ByteArray} {pc : Nat} (hd : decode cc pc = .ok (.ixor, 1)) : stkOk cc pc (pc + 1) q_ixor := by
  intro p l e R s m args below meth c H locs cells slots Q ls ρ st st' hx hb h k
  unfold q_ixor at h
  split at h
  · cases h
    exact lv_ixor hx hb hd k
  · cases h
def q_ishl (st : List Value) : Option (List Value) := match st with
  | .int y :: .int x :: r => some (.int (x <<< (y &&& 31)) :: r)
  | _ => none
theorem s_ishl {cc : ByteArray} {pc : Nat} (hd : decode cc pc = .ok (.ishl, 1)) : stkOk cc pc (pc + 1) q_ishl := by
  intro p l e R s m args below meth c H locs cells slots Q ls ρ st st' hx hb h k
  unfold q_ishl at h
  split at h
  · cases h
    exact lv_ishl hx hb hd k
  · cases h
def q_ishr (st : List Value) : Option (List Value) := match st with
  | .int y :: .int x :: r => some (.int (x >>> (y &&& 31)) :: r)
  | _ => none
theorem s_ishr {cc : ByteArray} {pc : Nat} (hd : decode cc pc = .ok (.ishr, 1)) : stkOk cc pc (pc + 1) q_ishr := by
  intro p l e R s m args below meth c H locs cells slots Q ls ρ st st' hx hb h k
  unfold q_ishr at h
  split at h
  · cases h
    exact lv_ishr hx hb hd k
  · cases h
def q_iushr (st : List Value) : Option (List Value) := match st with
  | .int y :: .int x :: r => some (.int ((x.toUInt32 >>> (y.toUInt32 &&& Int32.toUInt32 31)).toInt32) :: r)
  | _ => none
theorem s_iushr {cc : ByteArray} {pc : Nat} (hd : decode cc pc = .ok (.iushr, 1)) : stkOk cc pc (pc + 1) q_iushr := by
  intro p l e R s m args below meth c H locs cells slots Q ls ρ st st' hx hb h k
  unfold q_iushr at h
  split at h
  · cases h
    exact lv_iushr hx hb hd rfl k
  · cases h
def q_lushr (st : List Value) : Option (List Value) := match st with
  | .int y :: .long x :: r => some (.long ((x.toUInt64 >>> (y.toInt64.toUInt64 &&& Int64.toUInt64 63)).toInt64) :: r)
  | _ => none
theorem s_lushr {cc : ByteArray} {pc : Nat} (hd : decode cc pc = .ok (.lushr, 1)) : stkOk cc pc (pc + 1) q_lushr := by
  intro p l e R s m args below meth c H locs cells slots Q ls ρ st st' hx hb h k
  unfold q_lushr at h
  split at h
  · cases h
    exact lv_lushr hx hb hd rfl k
  · cases h
def q_ladd (st : List Value) : Option (List Value) := match st with
  | .long y :: .long x :: r => some (.long (x + y) :: r)
  | _ => none
theorem s_ladd {cc : ByteArray} {pc : Nat} (hd : decode cc pc = .ok (.ladd, 1)) : stkOk cc pc (pc + 1) q_ladd := by
  intro p l e R s m args below meth c H locs cells slots Q ls ρ st st' hx hb h k
  unfold q_ladd at h
  split at h
  · cases h
    exact lv_ladd hx hb hd k
  · cases h
def q_lsub (st : List Value) : Option (List Value) := match st with
  | .long y :: .long x :: r => some (.long (x - y) :: r)
  | _ => none
theorem s_lsub {cc : ByteArray} {pc : Nat} (hd : decode cc pc = .ok (.lsub, 1)) : stkOk cc pc (pc + 1) q_lsub := by
  intro p l e R s m args below meth c H locs cells slots Q ls ρ st st' hx hb h k
  unfold q_lsub at h
  split at h
  · cases h
    exact lv_lsub hx hb hd k
  · cases h
def q_lmul (st : List Value) : Option (List Value) := match st with
  | .long y :: .long x :: r => some (.long (x * y) :: r)
  | _ => none
theorem s_lmul {cc : ByteArray} {pc : Nat} (hd : decode cc pc = .ok (.lmul, 1)) : stkOk cc pc (pc + 1) q_lmul := by
  intro p l e R s m args below meth c H locs cells slots Q ls ρ st st' hx hb h k
  unfold q_lmul at h
  split at h
  · cases h
    exact lv_lmul hx hb hd k
  · cases h
def q_land (st : List Value) : Option (List Value) := match st with
  | .long y :: .long x :: r => some (.long (x &&& y) :: r)
  | _ => none
theorem s_land {cc : ByteArray} {pc : Nat} (hd : decode cc pc = .ok (.land, 1)) : stkOk cc pc (pc + 1) q_land := by
  intro p l e R s m args below meth c H locs cells slots Q ls ρ st st' hx hb h k
  unfold q_land at h
  split at h
  · cases h
    exact lv_land hx hb hd k
  · cases h
def q_idiv (st : List Value) : Option (List Value) := match st with
  | .int y :: .int x :: r => if y = 0 then none else some (.int (x / y) :: r)
  | _ => none
theorem s_idiv {cc : ByteArray} {pc : Nat} (hd : decode cc pc = .ok (.idiv, 1)) : stkOk cc pc (pc + 1) q_idiv := by
  intro p l e R s m args below meth c H locs cells slots Q ls ρ st st' hx hb h k
  unfold q_idiv at h
  split at h
  · split at h
    · cases h
    · rename_i hne
      cases h
      exact lv_idiv hx hb hd hne k
  · cases h
def q_irem (st : List Value) : Option (List Value) := match st with
  | .int y :: .int x :: r => if y = 0 then none else some (.int (x - x / y * y) :: r)
  | _ => none
theorem s_irem {cc : ByteArray} {pc : Nat} (hd : decode cc pc = .ok (.irem, 1)) : stkOk cc pc (pc + 1) q_irem := by
  intro p l e R s m args below meth c H locs cells slots Q ls ρ st st' hx hb h k
  unfold q_irem at h
  split at h
  · split at h
    · cases h
    · rename_i hne
      cases h
      exact lv_irem hx hb hd hne k
  · cases h
def q_ldiv (st : List Value) : Option (List Value) := match st with
  | .long y :: .long x :: r => if y = 0 then none else some (.long (x / y) :: r)
  | _ => none
theorem s_ldiv {cc : ByteArray} {pc : Nat} (hd : decode cc pc = .ok (.ldiv, 1)) : stkOk cc pc (pc + 1) q_ldiv := by
  intro p l e R s m args below meth c H locs cells slots Q ls ρ st st' hx hb h k
  unfold q_ldiv at h
  split at h
  · split at h
    · cases h
    · rename_i hne
      cases h
      exact lv_ldiv hx hb hd hne k
  · cases h
def q_lrem (st : List Value) : Option (List Value) := match st with
  | .long y :: .long x :: r => if y = 0 then none else some (.long (x - x / y * y) :: r)
  | _ => none
theorem s_lrem {cc : ByteArray} {pc : Nat} (hd : decode cc pc = .ok (.lrem, 1)) : stkOk cc pc (pc + 1) q_lrem := by
  intro p l e R s m args below meth c H locs cells slots Q ls ρ st st' hx hb h k
  unfold q_lrem at h
  split at h
  · split at h
    · cases h
    · rename_i hne
      cases h
      exact lv_lrem hx hb hd hne k
  · cases h
def q_ineg (st : List Value) : Option (List Value) := match st with
  | .int x :: r => some (.int (-x) :: r)
  | _ => none
theorem s_ineg {cc : ByteArray} {pc : Nat} (hd : decode cc pc = .ok (.ineg, 1)) : stkOk cc pc (pc + 1) q_ineg := by
  intro p l e R s m args below meth c H locs cells slots Q ls ρ st st' hx hb h k
  unfold q_ineg at h
  split at h
  · cases h
    exact lv_ineg hx hb hd k
  · cases h
def q_i2l (st : List Value) : Option (List Value) := match st with
  | .int x :: r => some (.long x.toInt64 :: r)
  | _ => none
theorem s_i2l {cc : ByteArray} {pc : Nat} (hd : decode cc pc = .ok (.i2l, 1)) : stkOk cc pc (pc + 1) q_i2l := by
  intro p l e R s m args below meth c H locs cells slots Q ls ρ st st' hx hb h k
  unfold q_i2l at h
  split at h
  · cases h
    exact lv_i2l hx hb hd rfl k
  · cases h
def q_l2i (st : List Value) : Option (List Value) := match st with
  | .long x :: r => some (.int x.toInt32 :: r)
  | _ => none
theorem s_l2i {cc : ByteArray} {pc : Nat} (hd : decode cc pc = .ok (.l2i, 1)) : stkOk cc pc (pc + 1) q_l2i := by
  intro p l e R s m args below meth c H locs cells slots Q ls ρ st st' hx hb h k
  unfold q_l2i at h
  split at h
  · cases h
    exact lv_l2i hx hb hd rfl k
  · cases h
def q_i2b (st : List Value) : Option (List Value) := match st with
  | .int x :: r => some (.int x.toInt8.toInt32 :: r)
  | _ => none
theorem s_i2b {cc : ByteArray} {pc : Nat} (hd : decode cc pc = .ok (.i2b, 1)) : stkOk cc pc (pc + 1) q_i2b := by
  intro p l e R s m args below meth c H locs cells slots Q ls ρ st st' hx hb h k
  unfold q_i2b at h
  split at h
  · cases h
    exact lv_i2b hx hb hd rfl k
  · cases h
def q_i2c (st : List Value) : Option (List Value) := match st with
  | .int x :: r => some (.int (x.toUInt32 % 65536).toInt32 :: r)
  | _ => none
theorem s_i2c {cc : ByteArray} {pc : Nat} (hd : decode cc pc = .ok (.i2c, 1)) : stkOk cc pc (pc + 1) q_i2c := by
  intro p l e R s m args below meth c H locs cells slots Q ls ρ st st' hx hb h k
  unfold q_i2c at h
  split at h
  · cases h
    exact lv_i2c hx hb hd rfl k
  · cases h
def q_lcmp (st : List Value) : Option (List Value) := match st with
  | .long y :: .long x :: r => some (.int (lg_cmp x y) :: r)
  | _ => none
theorem s_lcmp {cc : ByteArray} {pc : Nat} (hd : decode cc pc = .ok (.lcmp, 1)) : stkOk cc pc (pc + 1) q_lcmp := by
  intro p l e R s m args below meth c H locs cells slots Q ls ρ st st' hx hb h k
  unfold q_lcmp at h
  split at h
  · cases h
    exact W.lcmp hx hb hd k
  · cases h
def q_dup (st : List Value) : Option (List Value) := match st with
  | a :: r => if a.category = 1 then some (a :: a :: r) else none
  | _ => none
theorem s_dup {cc : ByteArray} {pc : Nat} (hd : decode cc pc = .ok (.dup, 1)) : stkOk cc pc (pc + 1) q_dup := by
  intro p l e R s m args below meth c H locs cells slots Q ls ρ st st' hx hb h k
  unfold q_dup at h
  split at h
  · split at h
    · rename_i hc
      cases h
      exact lv_dup hx hb hd (by rw [dv_cat]; exact hc) k
    · cases h
  · cases h
def q_pop (st : List Value) : Option (List Value) := match st with
  | a :: r => if a.category = 1 then some r else none
  | _ => none
theorem s_pop {cc : ByteArray} {pc : Nat} (hd : decode cc pc = .ok (.pop, 1)) : stkOk cc pc (pc + 1) q_pop := by
  intro p l e R s m args below meth c H locs cells slots Q ls ρ st st' hx hb h k
  unfold q_pop at h
  split at h
  · split at h
    · rename_i hc
      cases h
      exact lv_pop hx hb hd (by rw [dv_cat]; exact hc) k
    · cases h
  · cases h
def q_dup_x1 (st : List Value) : Option (List Value) := match st with
  | a :: b :: r => if a.category = 1 ∧ b.category = 1 then some (a :: b :: a :: r) else none
  | _ => none
theorem s_dup_x1 {cc : ByteArray} {pc : Nat} (hd : decode cc pc = .ok (.dup_x1, 1)) : stkOk cc pc (pc + 1) q_dup_x1 := by
  intro p l e R s m args below meth c H locs cells slots Q ls ρ st st' hx hb h k
  unfold q_dup_x1 at h
  split at h
  · split at h
    · rename_i hc
      cases h
      exact lv_dup_x1 hx hb hd (by rw [dv_cat]; exact hc.1) (by rw [dv_cat]; exact hc.2) k
    · cases h
  · cases h
def q_dup2 (st : List Value) : Option (List Value) := match st with
  | a :: b :: r => if a.category = 1 ∧ b.category = 1 then some (a :: b :: a :: b :: r) else none
  | _ => none
theorem s_dup2 {cc : ByteArray} {pc : Nat} (hd : decode cc pc = .ok (.dup2, 1)) : stkOk cc pc (pc + 1) q_dup2 := by
  intro p l e R s m args below meth c H locs cells slots Q ls ρ st st' hx hb h k
  unfold q_dup2 at h
  split at h
  · split at h
    · rename_i hc
      cases h
      exact lv_dup2_11 hx hb hd (by rw [dv_cat]; exact hc.1) (by rw [dv_cat]; exact hc.2) k
    · cases h
  · cases h
end
