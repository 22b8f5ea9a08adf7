/-! ===== THE PURE MACHINE, part 1: instructions that touch locals and operands alone. A reference is the number of a cell; 'ad' says where that cell lies. ===== -/
def am_v (ad : Nat → Nat) (v : Value) : Value := match v with
  | .ref k => .ref (ad k)
  | .int x => .int x
  | .long x => .long x
  | .float x => .float x
  | .double x => .double x
  | .null => .null
  | .retAddr x => .retAddr x
def am_L (ad : Nat → Nat) (lv : List (Nat × Value)) : List (Nat × Value) := lv.map (fun q => (q.1, am_v ad q.2))
def am_st1 (i : Nat) (v : Value) (lv : List (Nat × Value)) : List (Nat × Value) := (i, v) :: lv.filter (fun q => !(q.1 == i) && !(q.1 + 1 == i && q.2.category == 2))
def am_st2 (i : Nat) (v : Value) (lv : List (Nat × Value)) : List (Nat × Value) := (i, v) :: lv.filter (fun q => !(q.1 == i) && (!(q.1 == i + 1) && !(q.1 + 1 == i && q.2.category == 2)))
def am_get (lv : List (Nat × Value)) (i : Nat) : Option Value := match lv with
  | [] => none
  | q :: r => if q.1 = i then some q.2 else am_get r i
theorem am_v_cat (ad : Nat → Nat) (v : Value) : (am_v ad v).category = v.category := by cases v <;> rfl
theorem am_L_st1 (ad : Nat → Nat) (i : Nat) (v : Value) (lv : List (Nat × Value)) : (i, am_v ad v) :: (am_L ad lv).filter (fun q => !(q.1 == i) && !(q.1 + 1 == i && q.2.category == 2)) = am_L ad (am_st1 i v lv) := by
  simp [am_L, am_st1, List.filter_map, Function.comp_def, am_v_cat]
theorem am_L_st2 (ad : Nat → Nat) (i : Nat) (v : Value) (lv : List (Nat × Value)) : (i, am_v ad v) :: (am_L ad lv).filter (fun q => !(q.1 == i) && (!(q.1 == i + 1) && !(q.1 + 1 == i && q.2.category == 2))) = am_L ad (am_st2 i v lv) := by
  simp [am_L, am_st2, List.filter_map, Function.comp_def, am_v_cat]
theorem am_get_mem {lv : List (Nat × Value)} {i : Nat} {v : Value} (h : am_get lv i = some v) : (i, v) ∈ lv := by
  induction lv with
  | nil => cases h
  | cons q r ih =>
    unfold am_get at h
    by_cases hq : q.1 = i
    · rw [if_pos hq] at h
      cases h
      subst hq
      exact List.mem_cons_self
    · rw [if_neg hq] at h
      exact List.mem_cons_of_mem _ (ih h)
theorem am_get_at {ad : Nat → Nat} {ls : Array Slot} {nL : Nat} {lv : List (Nat × Value)} {i : Nat} {v : Value} (hl : lv_has ls nL (am_L ad lv)) (h : am_get lv i = some v) : ls[i]? = some (.val (am_v ad v)) :=
  hl.2.2 (i, am_v ad v) (List.mem_map.mpr ⟨(i, v), am_get_mem h, rfl⟩)
/-- what an instruction does: room for locals, pc, locals, operands -/
abbrev am_R : Type := Option (Nat × List (Nat × Value) × List Value)
abbrev am_F : Type := Nat → Nat → List (Nat × Value) → List Value → am_R
def am_no : am_F := fun _ _ _ _ => none
def am_push (v : Value) (len : Nat) : am_F := fun _ pc lv st => some (pc + len, lv, v :: st)
def am_iload (i len : Nat) : am_F := fun _ pc lv st => match am_get lv i with
  | some (.int x) => some (pc + len, lv, .int x :: st)
  | _ => none
def am_lload (i len : Nat) : am_F := fun _ pc lv st => match am_get lv i with
  | some (.long x) => some (pc + len, lv, .long x :: st)
  | _ => none
def am_aload (i len : Nat) : am_F := fun _ pc lv st => match am_get lv i with
  | some (.ref x) => some (pc + len, lv, .ref x :: st)
  | some .null => some (pc + len, lv, .null :: st)
  | _ => none
def am_istore (i len : Nat) : am_F := fun nL pc lv st => match st with
  | .int x :: r => if i < nL then some (pc + len, am_st1 i (.int x) lv, r) else none
  | _ => none
def am_lstore (i len : Nat) : am_F := fun nL pc lv st => match st with
  | .long x :: r => if i + 1 < nL then some (pc + len, am_st2 i (.long x) lv, r) else none
  | _ => none
def am_astore (i len : Nat) : am_F := fun nL pc lv st => match st with
  | .ref x :: r => if i < nL then some (pc + len, am_st1 i (.ref x) lv, r) else none
  | .null :: r => if i < nL then some (pc + len, am_st1 i .null lv, r) else none
  | _ => none
def am_iinc (i : Nat) (n : Int) : am_F := fun nL pc lv st => match am_get lv i with
  | some (.int x) => if i < nL then some (pc + 3, am_st1 i (.int (x + Int32.ofInt n)) lv, st) else none
  | _ => none
def am_bini (f : Int32 → Int32 → Int32) : am_F := fun _ pc lv st => match st with
  | .int y :: .int x :: r => some (pc + 1, lv, .int (f x y) :: r)
  | _ => none
def am_binl (f : Int64 → Int64 → Int64) : am_F := fun _ pc lv st => match st with
  | .long y :: .long x :: r => some (pc + 1, lv, .long (f x y) :: r)
  | _ => none
def am_shl (f : Int64 → Int32 → Int64) : am_F := fun _ pc lv st => match st with
  | .int y :: .long x :: r => some (pc + 1, lv, .long (f x y) :: r)
  | _ => none
def am_divi (f : Int32 → Int32 → Int32) : am_F := fun _ pc lv st => match st with
  | .int y :: .int x :: r => if y = 0 then none else some (pc + 1, lv, .int (f x y) :: r)
  | _ => none
def am_divl (f : Int64 → Int64 → Int64) : am_F := fun _ pc lv st => match st with
  | .long y :: .long x :: r => if y = 0 then none else some (pc + 1, lv, .long (f x y) :: r)
  | _ => none
def am_uni (f : Int32 → Int32) : am_F := fun _ pc lv st => match st with
  | .int x :: r => some (pc + 1, lv, .int (f x) :: r)
  | _ => none
def am_i2l : am_F := fun _ pc lv st => match st with
  | .int x :: r => some (pc + 1, lv, .long x.toInt64 :: r)
  | _ => none
def am_l2i : am_F := fun _ pc lv st => match st with
  | .long x :: r => some (pc + 1, lv, .int x.toInt32 :: r)
  | _ => none
def am_lneg : am_F := fun _ pc lv st => match st with
  | .long x :: r => some (pc + 1, lv, .long (-x) :: r)
  | _ => none
def am_lcmp : am_F := fun _ pc lv st => match st with
  | .long y :: .long x :: r => some (pc + 1, lv, .int (lg_cmp x y) :: r)
  | _ => none
def am_dup : am_F := fun _ pc lv st => match st with
  | v :: r => if v.category = 1 then some (pc + 1, lv, v :: v :: r) else none
  | _ => none
def am_pop : am_F := fun _ pc lv st => match st with
  | v :: r => if v.category = 1 then some (pc + 1, lv, r) else none
  | _ => none
def am_dup2 : am_F := fun _ pc lv st => match st with
  | v :: w :: r => if v.category = 1 ∧ w.category = 1 then some (pc + 1, lv, v :: w :: v :: w :: r) else if v.category = 2 then some (pc + 1, lv, v :: v :: w :: r) else none
  | [v] => if v.category = 2 then some (pc + 1, lv, [v, v]) else none
  | _ => none
def am_to (pc : Nat) (off : Int) : Option Nat := match (pc : Int) + off with
  | .ofNat n => some n
  | .negSucc _ => none
theorem am_to_ok {pc n : Nat} {off : Int} (h : am_to pc off = some n) : (pc : Int) + off = (n : Int) := by
  unfold am_to at h
  split at h
  · rename_i k hk
    cases h
    exact hk
  · cases h
def am_jump (t : Option Nat) (lv : List (Nat × Value)) (st : List Value) : am_R := match t with
  | some n => some (n, lv, st)
  | none => none
def am_c0 (c : ClassFile.Cond) (x : Int32) : Bool := match c with
  | .eq => decide (x = 0)
  | .ne => decide (¬ x = 0)
  | .lt => decide (x < 0)
  | .ge => decide (0 ≤ x)
  | .gt => decide (0 < x)
  | .le => decide (x ≤ 0)
def am_c2 (c : ClassFile.Cond) (x y : Int32) : Bool := match c with
  | .eq => decide (x = y)
  | .ne => decide (¬ x = y)
  | .lt => decide (x < y)
  | .ge => decide (y ≤ x)
  | .gt => decide (y < x)
  | .le => decide (x ≤ y)
def am_br (b : Bool) (pc : Nat) (off : Int) (lv : List (Nat × Value)) (st : List Value) : am_R := match am_to pc off with
  | some n => match b with
    | true => some (n, lv, st)
    | false => some (pc + 3, lv, st)
  | none => none
def am_if (c : ClassFile.Cond) (off : Int) : am_F := fun _ pc lv st => match st with
  | .int x :: r => am_br (am_c0 c x) pc off lv r
  | _ => none
def am_icmp (c : ClassFile.Cond) (off : Int) : am_F := fun _ pc lv st => match st with
  | .int y :: .int x :: r => am_br (am_c2 c x y) pc off lv r
  | _ => none
def am_goto (off : Int) : am_F := fun _ pc lv st => am_jump (am_to pc off) lv st
def am_ifnull (off : Int) : am_F := fun _ pc lv st => match st with
  | .null :: r => am_jump (am_to pc off) lv r
  | .ref _ :: r => some (pc + 3, lv, r)
  | _ => none
def am_ifnonnull (off : Int) : am_F := fun _ pc lv st => match st with
  | .ref _ :: r => am_jump (am_to pc off) lv r
  | .null :: r => some (pc + 3, lv, r)
  | _ => none
def am_lookup (dflt : Int) (ps : Array (Int × Int)) : am_F := fun _ pc lv st => match st with
  | .int x :: r => am_jump (am_to pc (Op.lookupswitch.offset ps.toList dflt x.toInt)) lv r
  | _ => none
def am_table (dflt lo hi : Int) (offs : Array Int) : am_F := fun _ pc lv st => match st with
  | .int x :: r => if x.toInt < lo ∨ hi < x.toInt then am_jump (am_to pc dflt) lv r else match offs[(x.toInt - lo).toNat]? with
    | some off => am_jump (am_to pc off) lv r
    | none => none
  | _ => none
/-- the pure instructions -/
def am_pure (i : Instr) (len : Nat) : am_F := match i with
  | .iconst n => am_push (.int (Int32.ofInt n)) 1
  | .bipush n => am_push (.int (Int8.ofInt n).toInt32) 2
  | .sipush n => am_push (.int (Int16.ofInt n).toInt32) 3
  | .lconst n => am_push (.long (Int64.ofNat (n : Nat))) 1
  | .aconst_null => am_push .null 1
  | .iload_n k => am_iload (k : Nat) 1
  | .iload k => am_iload k 2
  | .lload_n k => am_lload (k : Nat) 1
  | .lload k => am_lload k 2
  | .aload_n k => am_aload (k : Nat) 1
  | .aload k => am_aload k 2
  | .istore_n k => am_istore (k : Nat) 1
  | .istore k => am_istore k 2
  | .lstore_n k => am_lstore (k : Nat) 1
  | .lstore k => am_lstore k 2
  | .astore_n k => am_astore (k : Nat) 1
  | .astore k => am_astore k 2
  | .iinc k n => am_iinc k n
  | .iadd => am_bini (fun x y => x + y)
  | .isub => am_bini (fun x y => x - y)
  | .imul => am_bini (fun x y => x * y)
  | .iand => am_bini (fun x y => x &&& y)
  | .ior => am_bini (fun x y => x ||| y)
  | .ixor => am_bini (fun x y => x ^^^ y)
  | .ishl => am_bini (fun x y => x <<< (y &&& 31))
  | .ishr => am_bini (fun x y => x >>> (y &&& 31))
  | .iushr => am_bini (fun x y => (x.toUInt32 >>> (y.toUInt32 &&& Int32.toUInt32 31)).toInt32)
  | .idiv => am_divi (fun x y => x / y)
  | .irem => am_divi (fun x y => x - x / y * y)
  | .ladd => am_binl (fun x y => x + y)
  | .lsub => am_binl (fun x y => x - y)
  | .lmul => am_binl (fun x y => x * y)
  | .land => am_binl (fun x y => x &&& y)
  | .lor => am_binl (fun x y => x ||| y)
  | .lxor => am_binl (fun x y => x ^^^ y)
  | .ldiv => am_divl (fun x y => x / y)
  | .lrem => am_divl (fun x y => x - x / y * y)
  | .lshl => am_shl (fun x y => x <<< (y.toInt64 &&& 63))
  | .lshr => am_shl (fun x y => x >>> (y.toInt64 &&& 63))
  | .lushr => am_shl (fun x y => (x.toUInt64 >>> (y.toInt64.toUInt64 &&& Int64.toUInt64 63)).toInt64)
  | .ineg => am_uni (fun x => -x)
  | .i2b => am_uni (fun x => x.toInt8.toInt32)
  | .i2s => am_uni (fun x => x.toInt16.toInt32)
  | .i2c => am_uni (fun x => (x.toUInt32 % 65536).toInt32)
  | .i2l => am_i2l
  | .l2i => am_l2i
  | .lneg => am_lneg
  | .lcmp => am_lcmp
  | .dup => am_dup
  | .pop => am_pop
  | .dup2 => am_dup2
  | .ifCond c off => am_if c off
  | .if_icmp c off => am_icmp c off
  | .goto off => am_goto off
  | .ifnull off => am_ifnull off
  | .ifnonnull off => am_ifnonnull off
  | .lookupswitch d ps => am_lookup d ps
  | .tableswitch d lo hi offs => am_table d lo hi offs
  | _ => am_no
/-- an instruction's length is the usual one, a switch's keys go up -/
def am_len (i : Instr) (len : Nat) : Bool := match i with
  | .bipush _ | .iload _ | .lload _ | .aload _ | .istore _ | .lstore _ | .astore _ | .newarray _ | .ldc _ => len == 2
  | .sipush _ | .iinc _ _ | .ifCond _ _ | .if_icmp _ _ | .goto _ | .ifnull _ | .ifnonnull _ | .getfield _ | .putfield _ | .getstatic _ | .new _ | .anewarray _ | .invokevirtual _ | .invokespecial _ | .invokestatic _ | .ldc_w _ | .ldc2_w _ | .checkcast _ => len == 3
  | .lookupswitch _ ps => (ps.toList.zip (ps.toList.drop 1)).all (fun (a, next) => a.1 < next.1)
  | .tableswitch _ _ _ _ => true
  | _ => len == 1
