section
/-! ===== THE PURE MACHINE, part 1: instructions that touch locals and operands alone. A reference is the number of a cell; 'ad' says where that cell lies. ===== -/
def am_v (ad : Nat → Nat) (v : Value) : Value := match v with
  | .ref k => .ref (ad k)
  | .int x => .int x
  | .long x => .long x
  | .float x => .float x
  | .double x => .double x
  | .null => .null
  | .retAddr x => .retAddr x
def am_L (ad : Nat → Nat) (lv : List (Nat × Value)) : List (Nat × Value) := lv.map (fun q => (q.1, am_v ad q.2))
def am_st1 (i : Nat) (v : Value) (lv : List (Nat × Value)) : List (Nat × Value) := (i, v) :: lv.filter (fun q => !(q.1 == i) && !(q.1 + 1 == i && q.2.category == 2))
def am_st2 (i : Nat) (v : Value) (lv : List (Nat × Value)) : List (Nat × Value) := (i, v) :: lv.filter (fun q => !(q.1 == i) && (!(q.1 == i + 1) && !(q.1 + 1 == i && q.2.category == 2)))
def am_get (lv : List (Nat × Value)) (i : Nat) : Option Value := match lv with
  | [] => none
  | q :: r => if q.1 = i then some q.2 else am_get r i
theorem am_v_cat (ad : Nat → Nat) (v : Value) : (am_v ad v).category = v.category := by cases v <;> rfl
theorem am_L_st1 (ad : Nat → Nat) (i : Nat) (v : Value) (lv : List (Nat × Value)) : (i, am_v ad v) :: (am_L ad lv).filter (fun q => !(q.1 == i) && !(q.1 + 1 == i && q.2.category == 2)) = am_L ad (am_st1 i v lv) := by
  simp [am_L, am_st1, List.filter_map, Function.comp_def, am_v_cat]
theorem am_L_st2 (ad : Nat → Nat) (i : Nat) (v : Value) (lv : List (Nat × Value)) : (i, am_v ad v) :: (am_L ad lv).filter (fun q => !(q.1 == i) && (!(q.1 == i + 1) && !(q.1 + 1 == i && q.2.category == 2))) = am_L ad (am_st2 i v lv) := by
  simp [am_L, am_st2, List.filter_map, Function.comp_def, am_v_cat]
theorem am_get_mem {lv : List (Nat × Value)} {i : Nat} {v : Value} (h : am_get lv i = some v) : (i, v) ∈ lv := by
  induction lv with
  | nil => cases h
  | cons q r ih =>
    unfold am_get at h
    by_cases hq : q.1 = i
    · rw [if_pos hq] at h
      cases h
      subst hq
      exact List.mem_cons_self
    · rw [if_neg hq] at h
      exact List.mem_cons_of_mem _ (ih h)
theorem am_get_at {ad : Nat → Nat} {ls : Array Slot} {nL : Nat} {lv : List (Nat × Value)} {i : Nat} {v : Value} (hl : lv_has ls nL (am_L ad lv)) (h : am_get lv i = some v) : ls[i]? = some (.val (am_v ad v)) :=
  hl.2.2 (i, am_v ad v) (List.mem_map.mpr ⟨(i, v), am_get_mem h, rfl⟩)
/-- what an instruction does: room for locals, pc, locals, operands -/
abbrev am_R : Type := Option (Nat × List (Nat × Value) × List Value)
abbrev am_F : Type := Nat → Nat → List (Nat × Value) → List Value → am_R
def am_no : am_F := fun _ _ _ _ => none
def am_push (v : Value) (len : Nat) : am_F := fun _ pc lv st => some (pc + len, lv, v :: st)
def am_iload (i len : Nat) : am_F := fun _ pc lv st => match am_get lv i with
  | some (.int x) => some (pc + len, lv, .int x :: st)
  | _ => none
def am_lload (i len : Nat) : am_F := fun _ pc lv st => match am_get lv i with
  | some (.long x) => some (pc + len, lv, .long x :: st)
  | _ => none
def am_aload (i len : Nat) : am_F := fun _ pc lv st => match am_get lv i with
  | some (.ref x) => some (pc + len, lv, .ref x :: st)
  | some .null => some (pc + len, lv, .null :: st)
  | _ => none
def am_istore (i len : Nat) : am_F := fun nL pc lv st => match st with
  | .int x :: r => if i < nL then some (pc + len, am_st1 i (.int x) lv, r) else none
  | _ => none
def am_lstore (i len : Nat) : am_F := fun nL pc lv st => match st with
  | .long x :: r => if i + 1 < nL then some (pc + len, am_st2 i (.long x) lv, r) else none
  | _ => none
def am_astore (i len : Nat) : am_F := fun nL pc lv st => match st with
  | .ref x :: r => if i < nL then some (pc + len, am_st1 i (.ref x) lv, r) else none
  | .null :: r => if i < nL then some (pc + len, am_st1 i .null lv, r) else none
  | _ => none
def am_iinc (i : Nat) (n : Int) : am_F := fun nL pc lv st => match am_get lv i with
  | some (.int x) => if i < nL then some (pc + 3, am_st1 i (.int (x + Int32.ofInt n)) lv, st) else none
  | _ => none
def am_bini (f : Int32 → Int32 → Int32) : am_F := fun _ pc lv st => match st with
  | .int y :: .int x :: r => some (pc + 1, lv, .int (f x y) :: r)
  | _ => none
def am_binl (f : Int64 → Int64 → Int64) : am_F := fun _ pc lv st => match st with
  | .long y :: .long x :: r => some (pc + 1, lv, .long (f x y) :: r)
  | _ => none
def am_shl (f : Int64 → Int32 → Int64) : am_F := fun _ pc lv st => match st with
  | .int y :: .long x :: r => some (pc + 1, lv, .long (f x y) :: r)
  | _ => none
def am_divi (f : Int32 → Int32 → Int32) : am_F := fun _ pc lv st => match st with
  | .int y :: .int x :: r => if y = 0 then none else some (pc + 1, lv, .int (f x y) :: r)
  | _ => none
def am_divl (f : Int64 → Int64 → Int64) : am_F := fun _ pc lv st => match st with
  | .long y :: .long x :: r => if y = 0 then none else some (pc + 1, lv, .long (f x y) :: r)
  | _ => none
def am_uni (f : Int32 → Int32) : am_F := fun _ pc lv st => match st with
  | .int x :: r => some (pc + 1, lv, .int (f x) :: r)
  | _ => none
def am_i2l : am_F := fun _ pc lv st => match st with
  | .int x :: r => some (pc + 1, lv, .long x.toInt64 :: r)
  | _ => none
def am_l2i : am_F := fun _ pc lv st => match st with
  | .long x :: r => some (pc + 1, lv, .int x.toInt32 :: r)
  | _ => none
def am_lneg : am_F := fun _ pc lv st => match st with
  | .long x :: r => some (pc + 1, lv, .long (-x) :: r)
  | _ => none
def am_lcmp : am_F := fun _ pc lv st => match st with
  | .long y :: .long x :: r => some (pc + 1, lv, .int (lg_cmp x y) :: r)
  | _ => none
def am_dup : am_F := fun _ pc lv st => match st with
  | v :: r => if v.category = 1 then some (pc + 1, lv, v :: v :: r) else none
  | _ => none
def am_pop : am_F := fun _ pc lv st => match st with
  | v :: r => if v.category = 1 then some (pc + 1, lv, r) else none
  | _ => none
def am_dup2 : am_F := fun _ pc lv st => match st with
  | v :: w :: r => if v.category = 1 ∧ w.category = 1 then some (pc + 1, lv, v :: w :: v :: w :: r) else if v.category = 2 then some (pc + 1, lv, v :: v :: w :: r) else none
  | [v] => if v.category = 2 then some (pc + 1, lv, [v, v]) else none
  | _ => none
def am_to (pc : Nat) (off : Int) : Option Nat := match (pc : Int) + off with
  | .ofNat n => some n
  | .negSucc _ => none
theorem am_to_ok {pc n : Nat} {off : Int} (h : am_to pc off = some n) : (pc : Int) + off = (n : Int) := by
  unfold am_to at h
  split at h
  · rename_i k hk
    cases h
    exact hk
  · cases h
def am_jump (t : Option Nat) (lv : List (Nat × Value)) (st : List Value) : am_R := match t with
  | some n => some (n, lv, st)
  | none => none
def am_c0 (c : ClassFile.Cond) (x : Int32) : Bool := match c with
  | .eq => decide (x = 0)
  | .ne => decide (¬ x = 0)
  | .lt => decide (x < 0)
  | .ge => decide (0 ≤ x)
  | .gt => decide (0 < x)
  | .le => decide (x ≤ 0)
def am_c2 (c : ClassFile.Cond) (x y : Int32) : Bool := match c with
  | .eq => decide (x = y)
  | .ne => decide (¬ x = y)
  | .lt => decide (x < y)
  | .ge => decide (y ≤ x)
  | .gt => decide (y < x)
  | .le => decide (x ≤ y)
def am_br (b : Bool) (pc : Nat) (off : Int) (lv : List (Nat × Value)) (st : List Value) : am_R := match am_to pc off with
  | some n => match b with
    | true => some (n, lv, st)
    | false => some (pc + 3, lv, st)
  | none => none
def am_if (c : ClassFile.Cond) (off : Int) : am_F := fun _ pc lv st => match st with
  | .int x :: r => am_br (am_c0 c x) pc off lv r
  | _ => none
def am_icmp (c : ClassFile.Cond) (off : Int) : am_F := fun _ pc lv st => match st with
  | .int y :: .int x :: r => am_br (am_c2 c x y) pc off lv r
  | _ => none
def am_goto (off : Int) : am_F := fun _ pc lv st => am_jump (am_to pc off) lv st
def am_ifnull (off : Int) : am_F := fun _ pc lv st => match st with
  | .null :: r => am_jump (am_to pc off) lv r
  | .ref _ :: r => some (pc + 3, lv, r)
  | _ => none
def am_ifnonnull (off : Int) : am_F := fun _ pc lv st => match st with
  | .ref _ :: r => am_jump (am_to pc off) lv r
  | .null :: r => some (pc + 3, lv, r)
  | _ => none
def am_lookup (dflt : Int) (ps : Array (Int × Int)) : am_F := fun _ pc lv st => match st with
  | .int x :: r => am_jump (am_to pc (Op.lookupswitch.offset ps.toList dflt x.toInt)) lv r
  | _ => none
def am_table (dflt lo hi : Int) (offs : Array Int) : am_F := fun _ pc lv st => match st with
  | .int x :: r => if x.toInt < lo ∨ hi < x.toInt then am_jump (am_to pc dflt) lv r else match offs[(x.toInt - lo).toNat]? with
    | some off => am_jump (am_to pc off) lv r
    | none => none
  | _ => none
/-- the pure instructions -/
def am_pure (i : Instr) (len : Nat) : am_F := match i with
  | .iconst n => am_push (.int (Int32.ofInt n)) 1
  | .bipush n => am_push (.int (Int8.ofInt n).toInt32) 2
  | .sipush n => am_push (.int (Int16.ofInt n).toInt32) 3
  | .lconst n => am_push (.long (Int64.ofNat (n : Nat))) 1
  | .aconst_null => am_push .null 1
  | .iload_n k => am_iload (k : Nat) 1
  | .iload k => am_iload k 2
  | .lload_n k => am_lload (k : Nat) 1
  | .lload k => am_lload k 2
  | .aload_n k => am_aload (k : Nat) 1
  | .aload k => am_aload k 2
  | .istore_n k => am_istore (k : Nat) 1
  | .istore k => am_istore k 2
  | .lstore_n k => am_lstore (k : Nat) 1
  | .lstore k => am_lstore k 2
  | .astore_n k => am_astore (k : Nat) 1
  | .astore k => am_astore k 2
  | .iinc k n => am_iinc k n
  | .iadd => am_bini (fun x y => x + y)
  | .isub => am_bini (fun x y => x - y)
  | .imul => am_bini (fun x y => x * y)
  | .iand => am_bini (fun x y => x &&& y)
  | .ior => am_bini (fun x y => x ||| y)
  | .ixor => am_bini (fun x y => x ^^^ y)
  | .ishl => am_bini (fun x y => x <<< (y &&& 31))
  | .ishr => am_bini (fun x y => x >>> (y &&& 31))
  | .iushr => am_bini (fun x y => (x.toUInt32 >>> (y.toUInt32 &&& Int32.toUInt32 31)).toInt32)
  | .idiv => am_divi (fun x y => x / y)
  | .irem => am_divi (fun x y => x - x / y * y)
  | .ladd => am_binl (fun x y => x + y)
  | .lsub => am_binl (fun x y => x - y)
  | .lmul => am_binl (fun x y => x * y)
  | .land => am_binl (fun x y => x &&& y)
  | .lor => am_binl (fun x y => x ||| y)
  | .lxor => am_binl (fun x y => x ^^^ y)
  | .ldiv => am_divl (fun x y => x / y)
  | .lrem => am_divl (fun x y => x - x / y * y)
  | .lshl => am_shl (fun x y => x <<< (y.toInt64 &&& 63))
  | .lshr => am_shl (fun x y => x >>> (y.toInt64 &&& 63))
  | .lushr => am_shl (fun x y => (x.toUInt64 >>> (y.toInt64.toUInt64 &&& Int64.toUInt64 63)).toInt64)
  | .ineg => am_uni (fun x => -x)
  | .i2b => am_uni (fun x => x.toInt8.toInt32)
  | .i2s => am_uni (fun x => x.toInt16.toInt32)
  | .i2c => am_uni (fun x => (x.toUInt32 % 65536).toInt32)
  | .i2l => am_i2l
  | .l2i => am_l2i
  | .lneg => am_lneg
  | .lcmp => am_lcmp
  | .dup => am_dup
  | .pop => am_pop
  | .dup2 => am_dup2
  | .ifCond c off => am_if c off
  | .if_icmp c off => am_icmp c off
  | .goto off => am_goto off
  | .ifnull off => am_ifnull off
  | .ifnonnull off => am_ifnonnull off
  | .lookupswitch d ps => am_lookup d ps
  | .tableswitch d lo hi offs => am_table d lo hi offs
  | _ => am_no
/-- an instruction's length is the usual one, a switch's keys go up -/
def am_len (i : Instr) (len : Nat) : Bool := match i with
  | .bipush _ | .iload _ | .lload _ | .aload _ | .istore _ | .lstore _ | .astore _ | .newarray _ | .ldc _ => len == 2
  | .sipush _ | .iinc _ _ | .ifCond _ _ | .if_icmp _ _ | .goto _ | .ifnull _ | .ifnonnull _ | .getfield _ | .putfield _ | .getstatic _ | .new _ | .anewarray _ | .invokevirtual _ | .invokespecial _ | .invokestatic _ | .ldc_w _ | .ldc2_w _ | .checkcast _ => len == 3
  | .lookupswitch _ ps => (ps.toList.zip (ps.toList.drop 1)).all (fun (a, next) => a.1 < next.1)
  | .tableswitch _ _ _ _ => true
  | _ => len == 1
end
section
/-! ===== THE PURE MACHINE, part 2: its instructions are the machine's ===== -/
section AMP
variable {p : Program} {l : Launch} {e : Env} {R : Room} {s : State} {m : MethodId} {args : Array Value} {below : List Frame} {meth : Method} {c : Code} {H : Heap} {locs : List Loc} {cells slots : Nat} {Q : State → Prop}
variable {cc : ByteArray} {pc pc' nL : Nat} {ls : Array Slot} {lv lv' : List (Nat × Value)} {st st' : List Value} {ad : Nat → Nat}
theorem am_push_ok {v : Value} {len : Nat} (row : W p l e R s m args below meth c H locs cells slots Q (F0 m (pc + len) ls (am_v ad v :: st.map (am_v ad))) → W p l e R s m args below meth c H locs cells slots Q (F0 m pc ls (st.map (am_v ad))))
    (hl : lv_has ls nL (am_L ad lv)) (h : am_push v len nL pc lv st = some (pc', lv', st')) (k : ∀ ls' : Array Slot, lv_has ls' nL (am_L ad lv') → W p l e R s m args below meth c H locs cells slots Q (F0 m pc' ls' (st'.map (am_v ad)))) : W p l e R s m args below meth c H locs cells slots Q (F0 m pc ls (st.map (am_v ad))) := by
  cases h
  exact row (k ls hl)
theorem am_iload_ok {i len : Nat} (row : ∀ x : Int32, ls[i]? = some (.val (.int x)) → W p l e R s m args below meth c H locs cells slots Q (F0 m (pc + len) ls (.int x :: st.map (am_v ad))) → W p l e R s m args below meth c H locs cells slots Q (F0 m pc ls (st.map (am_v ad))))
    (hl : lv_has ls nL (am_L ad lv)) (h : am_iload i len nL pc lv st = some (pc', lv', st')) (k : ∀ ls' : Array Slot, lv_has ls' nL (am_L ad lv') → W p l e R s m args below meth c H locs cells slots Q (F0 m pc' ls' (st'.map (am_v ad)))) : W p l e R s m args below meth c H locs cells slots Q (F0 m pc ls (st.map (am_v ad))) := by
  unfold am_iload at h
  split at h
  · rename_i x hx
    cases h
    exact row x (am_get_at hl hx) (k ls hl)
  · cases h
theorem am_lload_ok {i len : Nat} (row : ∀ x : Int64, ls[i]? = some (.val (.long x)) → W p l e R s m args below meth c H locs cells slots Q (F0 m (pc + len) ls (.long x :: st.map (am_v ad))) → W p l e R s m args below meth c H locs cells slots Q (F0 m pc ls (st.map (am_v ad))))
    (hl : lv_has ls nL (am_L ad lv)) (h : am_lload i len nL pc lv st = some (pc', lv', st')) (k : ∀ ls' : Array Slot, lv_has ls' nL (am_L ad lv') → W p l e R s m args below meth c H locs cells slots Q (F0 m pc' ls' (st'.map (am_v ad)))) : W p l e R s m args below meth c H locs cells slots Q (F0 m pc ls (st.map (am_v ad))) := by
  unfold am_lload at h
  split at h
  · rename_i x hx
    cases h
    exact row x (am_get_at hl hx) (k ls hl)
  · cases h
theorem am_aload_ok {i len : Nat} (row : ∀ x : Nat, ls[i]? = some (.val (.ref x)) → W p l e R s m args below meth c H locs cells slots Q (F0 m (pc + len) ls (.ref x :: st.map (am_v ad))) → W p l e R s m args below meth c H locs cells slots Q (F0 m pc ls (st.map (am_v ad))))
    (rowN : ls[i]? = some (.val .null) → W p l e R s m args below meth c H locs cells slots Q (F0 m (pc + len) ls (.null :: st.map (am_v ad))) → W p l e R s m args below meth c H locs cells slots Q (F0 m pc ls (st.map (am_v ad))))
    (hl : lv_has ls nL (am_L ad lv)) (h : am_aload i len nL pc lv st = some (pc', lv', st')) (k : ∀ ls' : Array Slot, lv_has ls' nL (am_L ad lv') → W p l e R s m args below meth c H locs cells slots Q (F0 m pc' ls' (st'.map (am_v ad)))) : W p l e R s m args below meth c H locs cells slots Q (F0 m pc ls (st.map (am_v ad))) := by
  unfold am_aload at h
  split at h
  · rename_i x hx
    cases h
    exact row (ad x) (am_get_at hl hx) (k ls hl)
  · rename_i hx
    cases h
    exact rowN (am_get_at hl hx) (k ls hl)
  · cases h
theorem am_istore_ok {i len : Nat} (row : ∀ (x : Int32) (r : List Value) (lw : List (Nat × Value)), i < nL → (i, Value.int x) :: (am_L ad lv).filter (fun q => !(q.1 == i) && !(q.1 + 1 == i && q.2.category == 2)) = lw → (∀ ls' : Array Slot, lv_has ls' nL lw → W p l e R s m args below meth c H locs cells slots Q (F0 m (pc + len) ls' r)) → W p l e R s m args below meth c H locs cells slots Q (F0 m pc ls (.int x :: r)))
    (h : am_istore i len nL pc lv st = some (pc', lv', st')) (k : ∀ ls' : Array Slot, lv_has ls' nL (am_L ad lv') → W p l e R s m args below meth c H locs cells slots Q (F0 m pc' ls' (st'.map (am_v ad)))) : W p l e R s m args below meth c H locs cells slots Q (F0 m pc ls (st.map (am_v ad))) := by
  unfold am_istore at h
  split at h
  · split at h
    · rename_i hi
      cases h
      exact row _ _ _ hi (am_L_st1 ad i (.int _) lv) k
    · cases h
  · cases h
theorem am_lstore_ok {i len : Nat} (row : ∀ (x : Int64) (r : List Value) (lw : List (Nat × Value)), i + 1 < nL → (i, Value.long x) :: (am_L ad lv).filter (fun q => !(q.1 == i) && (!(q.1 == i + 1) && !(q.1 + 1 == i && q.2.category == 2))) = lw → (∀ ls' : Array Slot, lv_has ls' nL lw → W p l e R s m args below meth c H locs cells slots Q (F0 m (pc + len) ls' r)) → W p l e R s m args below meth c H locs cells slots Q (F0 m pc ls (.long x :: r)))
    (h : am_lstore i len nL pc lv st = some (pc', lv', st')) (k : ∀ ls' : Array Slot, lv_has ls' nL (am_L ad lv') → W p l e R s m args below meth c H locs cells slots Q (F0 m pc' ls' (st'.map (am_v ad)))) : W p l e R s m args below meth c H locs cells slots Q (F0 m pc ls (st.map (am_v ad))) := by
  unfold am_lstore at h
  split at h
  · split at h
    · rename_i hi
      cases h
      exact row _ _ _ hi (am_L_st2 ad i (.long _) lv) k
    · cases h
  · cases h
theorem am_astore_ok {i len : Nat} (row : ∀ (x : Nat) (r : List Value) (lw : List (Nat × Value)), i < nL → (i, Value.ref x) :: (am_L ad lv).filter (fun q => !(q.1 == i) && !(q.1 + 1 == i && q.2.category == 2)) = lw → (∀ ls' : Array Slot, lv_has ls' nL lw → W p l e R s m args below meth c H locs cells slots Q (F0 m (pc + len) ls' r)) → W p l e R s m args below meth c H locs cells slots Q (F0 m pc ls (.ref x :: r)))
    (rowN : ∀ (r : List Value) (lw : List (Nat × Value)), i < nL → (i, Value.null) :: (am_L ad lv).filter (fun q => !(q.1 == i) && !(q.1 + 1 == i && q.2.category == 2)) = lw → (∀ ls' : Array Slot, lv_has ls' nL lw → W p l e R s m args below meth c H locs cells slots Q (F0 m (pc + len) ls' r)) → W p l e R s m args below meth c H locs cells slots Q (F0 m pc ls (.null :: r)))
    (h : am_astore i len nL pc lv st = some (pc', lv', st')) (k : ∀ ls' : Array Slot, lv_has ls' nL (am_L ad lv') → W p l e R s m args below meth c H locs cells slots Q (F0 m pc' ls' (st'.map (am_v ad)))) : W p l e R s m args below meth c H locs cells slots Q (F0 m pc ls (st.map (am_v ad))) := by
  unfold am_astore at h
  split at h
  · split at h
    · rename_i hi
      cases h
      exact row _ _ _ hi (am_L_st1 ad i (.ref _) lv) k
    · cases h
  · split at h
    · rename_i hi
      cases h
      exact rowN _ _ hi (am_L_st1 ad i .null lv) k
    · cases h
  · cases h
theorem am_iinc_ok {i : Nat} {n : Int} (hx : p.tables.exec = Jvm.exec) (hb : c.code = cc) (hd : decode cc pc = .ok (.iinc i n, 3))
    (hl : lv_has ls nL (am_L ad lv)) (h : am_iinc i n nL pc lv st = some (pc', lv', st')) (k : ∀ ls' : Array Slot, lv_has ls' nL (am_L ad lv') → W p l e R s m args below meth c H locs cells slots Q (F0 m pc' ls' (st'.map (am_v ad)))) : W p l e R s m args below meth c H locs cells slots Q (F0 m pc ls (st.map (am_v ad))) := by
  unfold am_iinc at h
  split at h
  · rename_i x hg
    split at h
    · rename_i hi
      cases h
      have hm : (i, Value.int x) ∈ am_L ad lv := List.mem_map.mpr ⟨(i, .int x), am_get_mem hg, rfl⟩
      obtain ⟨j, hj⟩ := List.getElem?_of_mem hm
      exact lv_iinc hx hb hd hl hj rfl hi (am_L_st1 ad i (.int (x + Int32.ofInt n)) lv) k
    · cases h
  · cases h
theorem am_bini_ok {f : Int32 → Int32 → Int32} (row : ∀ (x y : Int32) (r : List Value), W p l e R s m args below meth c H locs cells slots Q (F0 m (pc + 1) ls (.int (f x y) :: r)) → W p l e R s m args below meth c H locs cells slots Q (F0 m pc ls (.int y :: .int x :: r)))
    (hl : lv_has ls nL (am_L ad lv)) (h : am_bini f nL pc lv st = some (pc', lv', st')) (k : ∀ ls' : Array Slot, lv_has ls' nL (am_L ad lv') → W p l e R s m args below meth c H locs cells slots Q (F0 m pc' ls' (st'.map (am_v ad)))) : W p l e R s m args below meth c H locs cells slots Q (F0 m pc ls (st.map (am_v ad))) := by
  unfold am_bini at h
  split at h
  · cases h
    exact row _ _ _ (k ls hl)
  · cases h
theorem am_binl_ok {f : Int64 → Int64 → Int64} (row : ∀ (x y : Int64) (r : List Value), W p l e R s m args below meth c H locs cells slots Q (F0 m (pc + 1) ls (.long (f x y) :: r)) → W p l e R s m args below meth c H locs cells slots Q (F0 m pc ls (.long y :: .long x :: r)))
    (hl : lv_has ls nL (am_L ad lv)) (h : am_binl f nL pc lv st = some (pc', lv', st')) (k : ∀ ls' : Array Slot, lv_has ls' nL (am_L ad lv') → W p l e R s m args below meth c H locs cells slots Q (F0 m pc' ls' (st'.map (am_v ad)))) : W p l e R s m args below meth c H locs cells slots Q (F0 m pc ls (st.map (am_v ad))) := by
  unfold am_binl at h
  split at h
  · cases h
    exact row _ _ _ (k ls hl)
  · cases h
theorem am_shl_ok {f : Int64 → Int32 → Int64} (row : ∀ (x : Int64) (y : Int32) (r : List Value), W p l e R s m args below meth c H locs cells slots Q (F0 m (pc + 1) ls (.long (f x y) :: r)) → W p l e R s m args below meth c H locs cells slots Q (F0 m pc ls (.int y :: .long x :: r)))
    (hl : lv_has ls nL (am_L ad lv)) (h : am_shl f nL pc lv st = some (pc', lv', st')) (k : ∀ ls' : Array Slot, lv_has ls' nL (am_L ad lv') → W p l e R s m args below meth c H locs cells slots Q (F0 m pc' ls' (st'.map (am_v ad)))) : W p l e R s m args below meth c H locs cells slots Q (F0 m pc ls (st.map (am_v ad))) := by
  unfold am_shl at h
  split at h
  · cases h
    exact row _ _ _ (k ls hl)
  · cases h
theorem am_divi_ok {f : Int32 → Int32 → Int32} (row : ∀ (x y : Int32) (r : List Value), ¬ y = 0 → W p l e R s m args below meth c H locs cells slots Q (F0 m (pc + 1) ls (.int (f x y) :: r)) → W p l e R s m args below meth c H locs cells slots Q (F0 m pc ls (.int y :: .int x :: r)))
    (hl : lv_has ls nL (am_L ad lv)) (h : am_divi f nL pc lv st = some (pc', lv', st')) (k : ∀ ls' : Array Slot, lv_has ls' nL (am_L ad lv') → W p l e R s m args below meth c H locs cells slots Q (F0 m pc' ls' (st'.map (am_v ad)))) : W p l e R s m args below meth c H locs cells slots Q (F0 m pc ls (st.map (am_v ad))) := by
  unfold am_divi at h
  split at h
  · split at h
    · cases h
    · rename_i hy
      cases h
      exact row _ _ _ hy (k ls hl)
  · cases h
theorem am_divl_ok {f : Int64 → Int64 → Int64} (row : ∀ (x y : Int64) (r : List Value), ¬ y = 0 → W p l e R s m args below meth c H locs cells slots Q (F0 m (pc + 1) ls (.long (f x y) :: r)) → W p l e R s m args below meth c H locs cells slots Q (F0 m pc ls (.long y :: .long x :: r)))
    (hl : lv_has ls nL (am_L ad lv)) (h : am_divl f nL pc lv st = some (pc', lv', st')) (k : ∀ ls' : Array Slot, lv_has ls' nL (am_L ad lv') → W p l e R s m args below meth c H locs cells slots Q (F0 m pc' ls' (st'.map (am_v ad)))) : W p l e R s m args below meth c H locs cells slots Q (F0 m pc ls (st.map (am_v ad))) := by
  unfold am_divl at h
  split at h
  · split at h
    · cases h
    · rename_i hy
      cases h
      exact row _ _ _ hy (k ls hl)
  · cases h
theorem am_uni_ok {f : Int32 → Int32} (row : ∀ (x : Int32) (r : List Value), W p l e R s m args below meth c H locs cells slots Q (F0 m (pc + 1) ls (.int (f x) :: r)) → W p l e R s m args below meth c H locs cells slots Q (F0 m pc ls (.int x :: r)))
    (hl : lv_has ls nL (am_L ad lv)) (h : am_uni f nL pc lv st = some (pc', lv', st')) (k : ∀ ls' : Array Slot, lv_has ls' nL (am_L ad lv') → W p l e R s m args below meth c H locs cells slots Q (F0 m pc' ls' (st'.map (am_v ad)))) : W p l e R s m args below meth c H locs cells slots Q (F0 m pc ls (st.map (am_v ad))) := by
  unfold am_uni at h
  split at h
  · cases h
    exact row _ _ (k ls hl)
  · cases h
theorem am_i2l_ok (hx : p.tables.exec = Jvm.exec) (hb : c.code = cc) (hd : decode cc pc = .ok (.i2l, 1))
    (hl : lv_has ls nL (am_L ad lv)) (h : am_i2l nL pc lv st = some (pc', lv', st')) (k : ∀ ls' : Array Slot, lv_has ls' nL (am_L ad lv') → W p l e R s m args below meth c H locs cells slots Q (F0 m pc' ls' (st'.map (am_v ad)))) : W p l e R s m args below meth c H locs cells slots Q (F0 m pc ls (st.map (am_v ad))) := by
  unfold am_i2l at h
  split at h
  · cases h
    exact lv_i2l hx hb hd rfl (k ls hl)
  · cases h
theorem am_l2i_ok (hx : p.tables.exec = Jvm.exec) (hb : c.code = cc) (hd : decode cc pc = .ok (.l2i, 1))
    (hl : lv_has ls nL (am_L ad lv)) (h : am_l2i nL pc lv st = some (pc', lv', st')) (k : ∀ ls' : Array Slot, lv_has ls' nL (am_L ad lv') → W p l e R s m args below meth c H locs cells slots Q (F0 m pc' ls' (st'.map (am_v ad)))) : W p l e R s m args below meth c H locs cells slots Q (F0 m pc ls (st.map (am_v ad))) := by
  unfold am_l2i at h
  split at h
  · cases h
    exact lv_l2i hx hb hd rfl (k ls hl)
  · cases h
theorem am_lneg_ok (hx : p.tables.exec = Jvm.exec) (hb : c.code = cc) (hd : decode cc pc = .ok (.lneg, 1))
    (hl : lv_has ls nL (am_L ad lv)) (h : am_lneg nL pc lv st = some (pc', lv', st')) (k : ∀ ls' : Array Slot, lv_has ls' nL (am_L ad lv') → W p l e R s m args below meth c H locs cells slots Q (F0 m pc' ls' (st'.map (am_v ad)))) : W p l e R s m args below meth c H locs cells slots Q (F0 m pc ls (st.map (am_v ad))) := by
  unfold am_lneg at h
  split at h
  · cases h
    exact lv_lneg hx hb hd (k ls hl)
  · cases h
theorem am_lcmp_ok (hx : p.tables.exec = Jvm.exec) (hb : c.code = cc) (hd : decode cc pc = .ok (.lcmp, 1))
    (hl : lv_has ls nL (am_L ad lv)) (h : am_lcmp nL pc lv st = some (pc', lv', st')) (k : ∀ ls' : Array Slot, lv_has ls' nL (am_L ad lv') → W p l e R s m args below meth c H locs cells slots Q (F0 m pc' ls' (st'.map (am_v ad)))) : W p l e R s m args below meth c H locs cells slots Q (F0 m pc ls (st.map (am_v ad))) := by
  unfold am_lcmp at h
  split at h
  · cases h
    exact W.lcmp hx hb hd (k ls hl)
  · cases h
theorem am_dup_ok (hx : p.tables.exec = Jvm.exec) (hb : c.code = cc) (hd : decode cc pc = .ok (.dup, 1))
    (hl : lv_has ls nL (am_L ad lv)) (h : am_dup nL pc lv st = some (pc', lv', st')) (k : ∀ ls' : Array Slot, lv_has ls' nL (am_L ad lv') → W p l e R s m args below meth c H locs cells slots Q (F0 m pc' ls' (st'.map (am_v ad)))) : W p l e R s m args below meth c H locs cells slots Q (F0 m pc ls (st.map (am_v ad))) := by
  unfold am_dup at h
  split at h
  · split at h
    · rename_i hc
      cases h
      exact lv_dup hx hb hd ((am_v_cat ad _).trans hc) (k ls hl)
    · cases h
  · cases h
theorem am_pop_ok (hx : p.tables.exec = Jvm.exec) (hb : c.code = cc) (hd : decode cc pc = .ok (.pop, 1))
    (hl : lv_has ls nL (am_L ad lv)) (h : am_pop nL pc lv st = some (pc', lv', st')) (k : ∀ ls' : Array Slot, lv_has ls' nL (am_L ad lv') → W p l e R s m args below meth c H locs cells slots Q (F0 m pc' ls' (st'.map (am_v ad)))) : W p l e R s m args below meth c H locs cells slots Q (F0 m pc ls (st.map (am_v ad))) := by
  unfold am_pop at h
  split at h
  · split at h
    · rename_i hc
      cases h
      exact lv_pop hx hb hd ((am_v_cat ad _).trans hc) (k ls hl)
    · cases h
  · cases h
theorem am_dup2_ok (hx : p.tables.exec = Jvm.exec) (hb : c.code = cc) (hd : decode cc pc = .ok (.dup2, 1))
    (hl : lv_has ls nL (am_L ad lv)) (h : am_dup2 nL pc lv st = some (pc', lv', st')) (k : ∀ ls' : Array Slot, lv_has ls' nL (am_L ad lv') → W p l e R s m args below meth c H locs cells slots Q (F0 m pc' ls' (st'.map (am_v ad)))) : W p l e R s m args below meth c H locs cells slots Q (F0 m pc ls (st.map (am_v ad))) := by
  unfold am_dup2 at h
  split at h
  · split at h
    · rename_i hc
      cases h
      exact lv_dup2_11 hx hb hd ((am_v_cat ad _).trans hc.1) ((am_v_cat ad _).trans hc.2) (k ls hl)
    · split at h
      · rename_i hc
        cases h
        exact lv_dup2_2 hx hb hd ((am_v_cat ad _).trans hc) (k ls hl)
      · cases h
  · split at h
    · rename_i hc
      cases h
      exact lv_dup2_2 hx hb hd ((am_v_cat ad _).trans hc) (k ls hl)
    · cases h
  · cases h
theorem am_jump_inv {t : Option Nat} {n : Nat} {lw lw' : List (Nat × Value)} {sw sw' : List Value} (h : am_jump t lw sw = some (n, lw', sw')) : t = some n ∧ lw = lw' ∧ sw = sw' := by
  unfold am_jump at h
  split at h
  · cases h
    exact ⟨rfl, rfl, rfl⟩
  · cases h
theorem am_goto_ok {off : Int} (hx : p.tables.exec = Jvm.exec) (hb : c.code = cc) (hd : decode cc pc = .ok (.goto off, 3))
    (hl : lv_has ls nL (am_L ad lv)) (h : am_goto off nL pc lv st = some (pc', lv', st')) (k : ∀ ls' : Array Slot, lv_has ls' nL (am_L ad lv') → W p l e R s m args below meth c H locs cells slots Q (F0 m pc' ls' (st'.map (am_v ad)))) : W p l e R s m args below meth c H locs cells slots Q (F0 m pc ls (st.map (am_v ad))) := by
  obtain ⟨h1, rfl, rfl⟩ := am_jump_inv h
  exact lv_goto hx hb hd (am_to_ok h1) (k ls hl)
theorem am_br_inv {b : Bool} {off : Int} {n : Nat} {lw lw' : List (Nat × Value)} {sw sw' : List Value} (h : am_br b pc off lw sw = some (n, lw', sw')) : lw = lw' ∧ sw = sw' ∧ ∃ t : Nat, (pc : Int) + off = (t : Int) ∧ ((b = true ∧ n = t) ∨ (b = false ∧ n = pc + 3)) := by
  unfold am_br at h
  split at h
  · rename_i t ht
    split at h
    · cases h
      exact ⟨rfl, rfl, _, am_to_ok ht, Or.inl ⟨rfl, rfl⟩⟩
    · cases h
      exact ⟨rfl, rfl, _, am_to_ok ht, Or.inr ⟨rfl, rfl⟩⟩
  · cases h
theorem am_if_ok {o : ClassFile.Cond} {off : Int} (hx : p.tables.exec = Jvm.exec) (hb : c.code = cc) (hd : decode cc pc = .ok (.ifCond o off, 3))
    (hl : lv_has ls nL (am_L ad lv)) (h : am_if o off nL pc lv st = some (pc', lv', st')) (k : ∀ ls' : Array Slot, lv_has ls' nL (am_L ad lv') → W p l e R s m args below meth c H locs cells slots Q (F0 m pc' ls' (st'.map (am_v ad)))) : W p l e R s m args below meth c H locs cells slots Q (F0 m pc ls (st.map (am_v ad))) := by
  unfold am_if at h
  split at h
  · obtain ⟨rfl, rfl, t, ht, h3⟩ := am_br_inv h
    have go := k ls hl
    rcases h3 with ⟨hb1, rfl⟩ | ⟨hb1, rfl⟩
    · cases o <;> simp only [am_c0, am_c2, decide_eq_true_eq] at hb1
      · exact lv_if_eq hx hb hd ht (fun _ => go) (fun z => absurd hb1 z)
      · exact lv_if_ne hx hb hd ht (fun _ => go) (fun z => absurd z hb1)
      · exact lv_if_lt hx hb hd ht (fun _ => go) (fun z => absurd hb1 z)
      · exact lv_if_ge hx hb hd ht (fun _ => go) (fun z => absurd hb1 z)
      · exact lv_if_gt hx hb hd ht (fun _ => go) (fun z => absurd hb1 z)
      · exact lv_if_le hx hb hd ht (fun _ => go) (fun z => absurd hb1 z)
    · cases o <;> simp only [am_c0, am_c2, decide_eq_false_iff_not, Classical.not_not] at hb1
      · exact lv_if_eq hx hb hd ht (fun z => absurd z hb1) (fun _ => go)
      · exact lv_if_ne hx hb hd ht (fun z => absurd hb1 z) (fun _ => go)
      · exact lv_if_lt hx hb hd ht (fun z => absurd z hb1) (fun _ => go)
      · exact lv_if_ge hx hb hd ht (fun z => absurd z hb1) (fun _ => go)
      · exact lv_if_gt hx hb hd ht (fun z => absurd z hb1) (fun _ => go)
      · exact lv_if_le hx hb hd ht (fun z => absurd z hb1) (fun _ => go)
  · cases h
theorem am_icmp_ok {o : ClassFile.Cond} {off : Int} (hx : p.tables.exec = Jvm.exec) (hb : c.code = cc) (hd : decode cc pc = .ok (.if_icmp o off, 3))
    (hl : lv_has ls nL (am_L ad lv)) (h : am_icmp o off nL pc lv st = some (pc', lv', st')) (k : ∀ ls' : Array Slot, lv_has ls' nL (am_L ad lv') → W p l e R s m args below meth c H locs cells slots Q (F0 m pc' ls' (st'.map (am_v ad)))) : W p l e R s m args below meth c H locs cells slots Q (F0 m pc ls (st.map (am_v ad))) := by
  unfold am_icmp at h
  split at h
  · obtain ⟨rfl, rfl, t, ht, h3⟩ := am_br_inv h
    have go := k ls hl
    rcases h3 with ⟨hb1, rfl⟩ | ⟨hb1, rfl⟩
    · cases o <;> simp only [am_c0, am_c2, decide_eq_true_eq] at hb1
      · exact lv_icmp_eq hx hb hd ht (fun _ => go) (fun z => absurd hb1 z)
      · exact lv_icmp_ne hx hb hd ht (fun _ => go) (fun z => absurd z hb1)
      · exact lv_icmp_lt hx hb hd ht (fun _ => go) (fun z => absurd hb1 z)
      · exact lv_icmp_ge hx hb hd ht (fun _ => go) (fun z => absurd hb1 z)
      · exact lv_icmp_gt hx hb hd ht (fun _ => go) (fun z => absurd hb1 z)
      · exact lv_icmp_le hx hb hd ht (fun _ => go) (fun z => absurd hb1 z)
    · cases o <;> simp only [am_c0, am_c2, decide_eq_false_iff_not, Classical.not_not] at hb1
      · exact lv_icmp_eq hx hb hd ht (fun z => absurd z hb1) (fun _ => go)
      · exact lv_icmp_ne hx hb hd ht (fun z => absurd hb1 z) (fun _ => go)
      · exact lv_icmp_lt hx hb hd ht (fun z => absurd z hb1) (fun _ => go)
      · exact lv_icmp_ge hx hb hd ht (fun z => absurd z hb1) (fun _ => go)
      · exact lv_icmp_gt hx hb hd ht (fun z => absurd z hb1) (fun _ => go)
      · exact lv_icmp_le hx hb hd ht (fun z => absurd z hb1) (fun _ => go)
  · cases h
theorem am_ifnull_ok {off : Int} (hx : p.tables.exec = Jvm.exec) (hb : c.code = cc) (hd : decode cc pc = .ok (.ifnull off, 3))
    (hl : lv_has ls nL (am_L ad lv)) (h : am_ifnull off nL pc lv st = some (pc', lv', st')) (k : ∀ ls' : Array Slot, lv_has ls' nL (am_L ad lv') → W p l e R s m args below meth c H locs cells slots Q (F0 m pc' ls' (st'.map (am_v ad)))) : W p l e R s m args below meth c H locs cells slots Q (F0 m pc ls (st.map (am_v ad))) := by
  unfold am_ifnull at h
  split at h
  · obtain ⟨h1, rfl, rfl⟩ := am_jump_inv h
    exact lv_ifnullN hx hb hd (am_to_ok h1) (k ls hl)
  · cases h
    exact lv_ifnull hx hb hd (k ls hl)
  · cases h
theorem am_ifnonnull_ok {off : Int} (hx : p.tables.exec = Jvm.exec) (hb : c.code = cc) (hd : decode cc pc = .ok (.ifnonnull off, 3))
    (hl : lv_has ls nL (am_L ad lv)) (h : am_ifnonnull off nL pc lv st = some (pc', lv', st')) (k : ∀ ls' : Array Slot, lv_has ls' nL (am_L ad lv') → W p l e R s m args below meth c H locs cells slots Q (F0 m pc' ls' (st'.map (am_v ad)))) : W p l e R s m args below meth c H locs cells slots Q (F0 m pc ls (st.map (am_v ad))) := by
  unfold am_ifnonnull at h
  split at h
  · obtain ⟨h1, rfl, rfl⟩ := am_jump_inv h
    exact lv_ifnonnull hx hb hd (am_to_ok h1) (k ls hl)
  · cases h
    exact lv_ifnonnullN hx hb hd (k ls hl)
  · cases h
theorem am_lookup_ok {dflt : Int} {ps : Array (Int × Int)} {len : Nat} (hp : (ps.toList.zip (ps.toList.drop 1)).all (fun (a, next) => a.1 < next.1) = true) (hx : p.tables.exec = Jvm.exec) (hb : c.code = cc) (hd : decode cc pc = .ok (.lookupswitch dflt ps, len))
    (hl : lv_has ls nL (am_L ad lv)) (h : am_lookup dflt ps nL pc lv st = some (pc', lv', st')) (k : ∀ ls' : Array Slot, lv_has ls' nL (am_L ad lv') → W p l e R s m args below meth c H locs cells slots Q (F0 m pc' ls' (st'.map (am_v ad)))) : W p l e R s m args below meth c H locs cells slots Q (F0 m pc ls (st.map (am_v ad))) := by
  unfold am_lookup at h
  split at h
  · obtain ⟨h1, rfl, rfl⟩ := am_jump_inv h
    exact lv_lookup hx hb hd hp rfl (am_to_ok h1) (k ls hl)
  · cases h
theorem am_table_ok {dflt lo hi : Int} {offs : Array Int} {len : Nat} (hx : p.tables.exec = Jvm.exec) (hb : c.code = cc) (hd : decode cc pc = .ok (.tableswitch dflt lo hi offs, len))
    (hl : lv_has ls nL (am_L ad lv)) (h : am_table dflt lo hi offs nL pc lv st = some (pc', lv', st')) (k : ∀ ls' : Array Slot, lv_has ls' nL (am_L ad lv') → W p l e R s m args below meth c H locs cells slots Q (F0 m pc' ls' (st'.map (am_v ad)))) : W p l e R s m args below meth c H locs cells slots Q (F0 m pc ls (st.map (am_v ad))) := by
  unfold am_table at h
  split at h
  · split at h
    · rename_i hc
      obtain ⟨h1, rfl, rfl⟩ := am_jump_inv h
      exact lv_tableOut hx hb hd hc (am_to_ok h1) (k ls hl)
    · rename_i hc
      split at h
      · rename_i off ho
        obtain ⟨h1, rfl, rfl⟩ := am_jump_inv h
        exact lv_tableIn hx hb hd (fun z => hc (Or.inl z)) (fun z => hc (Or.inr z)) ho (am_to_ok h1) (k ls hl)
      · cases h
  · cases h
theorem am_pure_ok {i : Instr} {len : Nat} (hx : p.tables.exec = Jvm.exec) (hb : c.code = cc) (hd : decode cc pc = .ok (i, len)) (hn : am_len i len = true)
    (hl : lv_has ls nL (am_L ad lv)) (h : am_pure i len nL pc lv st = some (pc', lv', st')) (k : ∀ ls' : Array Slot, lv_has ls' nL (am_L ad lv') → W p l e R s m args below meth c H locs cells slots Q (F0 m pc' ls' (st'.map (am_v ad)))) : W p l e R s m args below meth c H locs cells slots Q (F0 m pc ls (st.map (am_v ad))) := by
  cases i with
  | iconst n =>
    have hn := eq_of_beq hn
    subst hn
    exact am_push_ok (lv_iconst hx hb hd rfl) hl h k
  | bipush n =>
    have hn := eq_of_beq hn
    subst hn
    exact am_push_ok (lv_bipush hx hb hd rfl) hl h k
  | sipush n =>
    have hn := eq_of_beq hn
    subst hn
    exact am_push_ok (lv_sipush hx hb hd rfl) hl h k
  | lconst n =>
    have hn := eq_of_beq hn
    subst hn
    exact am_push_ok (lv_lconst hx hb hd rfl) hl h k
  | aconst_null =>
    have hn := eq_of_beq hn
    subst hn
    exact am_push_ok (lv_null hx hb hd) hl h k
  | iload_n j =>
    have hn := eq_of_beq hn
    subst hn
    exact am_iload_ok (fun _ hg z => lv_iload_n hx hb hd rfl hg z) hl h k
  | iload j =>
    have hn := eq_of_beq hn
    subst hn
    exact am_iload_ok (fun _ hg z => lv_iload hx hb hd hg z) hl h k
  | lload_n j =>
    have hn := eq_of_beq hn
    subst hn
    exact am_lload_ok (fun _ hg z => lv_lload_n hx hb hd rfl hg z) hl h k
  | lload j =>
    have hn := eq_of_beq hn
    subst hn
    exact am_lload_ok (fun _ hg z => lv_lload hx hb hd hg z) hl h k
  | aload_n j =>
    have hn := eq_of_beq hn
    subst hn
    exact am_aload_ok (fun _ hg z => lv_aload_n hx hb hd rfl hg z) (fun hg z => lv_aload_nN hx hb hd rfl hg z) hl h k
  | aload j =>
    have hn := eq_of_beq hn
    subst hn
    exact am_aload_ok (fun _ hg z => lv_aload hx hb hd hg z) (fun hg z => lv_aloadN hx hb hd hg z) hl h k
  | istore_n j =>
    have hn := eq_of_beq hn
    subst hn
    exact am_istore_ok (fun _ _ _ hi e z => lv_istore_n hx hb hd rfl hl hi e z) h k
  | istore j =>
    have hn := eq_of_beq hn
    subst hn
    exact am_istore_ok (fun _ _ _ hi e z => lv_istore hx hb hd hl hi e z) h k
  | lstore_n j =>
    have hn := eq_of_beq hn
    subst hn
    exact am_lstore_ok (fun _ _ _ hi e z => lv_lstore_n hx hb hd rfl hl hi e z) h k
  | lstore j =>
    have hn := eq_of_beq hn
    subst hn
    exact am_lstore_ok (fun _ _ _ hi e z => lv_lstore hx hb hd hl hi e z) h k
  | astore_n j =>
    have hn := eq_of_beq hn
    subst hn
    exact am_astore_ok (fun _ _ _ hi e z => lv_astore_n hx hb hd rfl hl hi e z) (fun _ _ hi e z => lv_astore_nN hx hb hd rfl hl hi e z) h k
  | astore j =>
    have hn := eq_of_beq hn
    subst hn
    exact am_astore_ok (fun _ _ _ hi e z => lv_astore hx hb hd hl hi e z) (fun _ _ hi e z => lv_astoreN hx hb hd hl hi e z) h k
  | iinc j n =>
    have hn := eq_of_beq hn
    subst hn
    exact am_iinc_ok hx hb hd hl h k
  | iadd =>
    have hn := eq_of_beq hn
    subst hn
    exact am_bini_ok (fun _ _ _ z => lv_iadd hx hb hd z) hl h k
  | isub =>
    have hn := eq_of_beq hn
    subst hn
    exact am_bini_ok (fun _ _ _ z => lv_isub hx hb hd z) hl h k
  | imul =>
    have hn := eq_of_beq hn
    subst hn
    exact am_bini_ok (fun _ _ _ z => lv_imul hx hb hd z) hl h k
  | iand =>
    have hn := eq_of_beq hn
    subst hn
    exact am_bini_ok (fun _ _ _ z => lv_iand hx hb hd z) hl h k
  | ior =>
    have hn := eq_of_beq hn
    subst hn
    exact am_bini_ok (fun _ _ _ z => lv_ior hx hb hd z) hl h k
  | ixor =>
    have hn := eq_of_beq hn
    subst hn
    exact am_bini_ok (fun _ _ _ z => lv_ixor hx hb hd z) hl h k
  | ishl =>
    have hn := eq_of_beq hn
    subst hn
    exact am_bini_ok (fun _ _ _ z => lv_ishl hx hb hd z) hl h k
  | ishr =>
    have hn := eq_of_beq hn
    subst hn
    exact am_bini_ok (fun _ _ _ z => lv_ishr hx hb hd z) hl h k
  | iushr =>
    have hn := eq_of_beq hn
    subst hn
    exact am_bini_ok (fun _ _ _ z => lv_iushr hx hb hd rfl z) hl h k
  | idiv =>
    have hn := eq_of_beq hn
    subst hn
    exact am_divi_ok (fun _ _ _ hy z => lv_idiv hx hb hd hy z) hl h k
  | irem =>
    have hn := eq_of_beq hn
    subst hn
    exact am_divi_ok (fun _ _ _ hy z => lv_irem hx hb hd hy z) hl h k
  | ladd =>
    have hn := eq_of_beq hn
    subst hn
    exact am_binl_ok (fun _ _ _ z => lv_ladd hx hb hd z) hl h k
  | lsub =>
    have hn := eq_of_beq hn
    subst hn
    exact am_binl_ok (fun _ _ _ z => lv_lsub hx hb hd z) hl h k
  | lmul =>
    have hn := eq_of_beq hn
    subst hn
    exact am_binl_ok (fun _ _ _ z => lv_lmul hx hb hd z) hl h k
  | land =>
    have hn := eq_of_beq hn
    subst hn
    exact am_binl_ok (fun _ _ _ z => lv_land hx hb hd z) hl h k
  | lor =>
    have hn := eq_of_beq hn
    subst hn
    exact am_binl_ok (fun _ _ _ z => lv_lor hx hb hd z) hl h k
  | lxor =>
    have hn := eq_of_beq hn
    subst hn
    exact am_binl_ok (fun _ _ _ z => lv_lxor hx hb hd z) hl h k
  | ldiv =>
    have hn := eq_of_beq hn
    subst hn
    exact am_divl_ok (fun _ _ _ hy z => lv_ldiv hx hb hd hy z) hl h k
  | lrem =>
    have hn := eq_of_beq hn
    subst hn
    exact am_divl_ok (fun _ _ _ hy z => lv_lrem hx hb hd hy z) hl h k
  | lshl =>
    have hn := eq_of_beq hn
    subst hn
    exact am_shl_ok (fun _ _ _ z => lv_lshl hx hb hd rfl z) hl h k
  | lshr =>
    have hn := eq_of_beq hn
    subst hn
    exact am_shl_ok (fun _ _ _ z => lv_lshr hx hb hd rfl z) hl h k
  | lushr =>
    have hn := eq_of_beq hn
    subst hn
    exact am_shl_ok (fun _ _ _ z => lv_lushr hx hb hd rfl z) hl h k
  | ineg =>
    have hn := eq_of_beq hn
    subst hn
    exact am_uni_ok (fun _ _ z => lv_ineg hx hb hd z) hl h k
  | i2b =>
    have hn := eq_of_beq hn
    subst hn
    exact am_uni_ok (fun _ _ z => lv_i2b hx hb hd rfl z) hl h k
  | i2s =>
    have hn := eq_of_beq hn
    subst hn
    exact am_uni_ok (fun _ _ z => lv_i2s hx hb hd rfl z) hl h k
  | i2c =>
    have hn := eq_of_beq hn
    subst hn
    exact am_uni_ok (fun _ _ z => lv_i2c hx hb hd rfl z) hl h k
  | i2l =>
    have hn := eq_of_beq hn
    subst hn
    exact am_i2l_ok hx hb hd hl h k
  | l2i =>
    have hn := eq_of_beq hn
    subst hn
    exact am_l2i_ok hx hb hd hl h k
  | lneg =>
    have hn := eq_of_beq hn
    subst hn
    exact am_lneg_ok hx hb hd hl h k
  | lcmp =>
    have hn := eq_of_beq hn
    subst hn
    exact am_lcmp_ok hx hb hd hl h k
  | dup =>
    have hn := eq_of_beq hn
    subst hn
    exact am_dup_ok hx hb hd hl h k
  | pop =>
    have hn := eq_of_beq hn
    subst hn
    exact am_pop_ok hx hb hd hl h k
  | dup2 =>
    have hn := eq_of_beq hn
    subst hn
    exact am_dup2_ok hx hb hd hl h k
  | ifCond o off =>
    have hn := eq_of_beq hn
    subst hn
    exact am_if_ok hx hb hd hl h k
  | if_icmp o off =>
    have hn := eq_of_beq hn
    subst hn
    exact am_icmp_ok hx hb hd hl h k
  | goto off =>
    have hn := eq_of_beq hn
    subst hn
    exact am_goto_ok hx hb hd hl h k
  | ifnull off =>
    have hn := eq_of_beq hn
    subst hn
    exact am_ifnull_ok hx hb hd hl h k
  | ifnonnull off =>
    have hn := eq_of_beq hn
    subst hn
    exact am_ifnonnull_ok hx hb hd hl h k
  | lookupswitch d ps => exact am_lookup_ok hn hx hb hd hl h k
  | tableswitch d lo hi offs => exact am_table_ok hx hb hd hl h k
  | _ => cases h
end AMP
end
section
/-! ===== THE PURE MACHINE, part 3: cells. An array is .inl (number of its element type, length and contents), an object .inr (number of its class, fields). ===== -/
abbrev am_C : Type := (Nat × vp_A) ⊕ (Nat × List Value)
def am_A (ad : Nat → Nat) (a : vp_A) : vp_A := match a with
  | (n, .inl f) => (n, .inl f)
  | (n, .inr (.inl f)) => (n, .inr (.inl f))
  | (n, .inr (.inr (.inl f))) => (n, .inr (.inr (.inl f)))
  | (n, .inr (.inr (.inr (.inl f)))) => (n, .inr (.inr (.inr (.inl f))))
  | (n, .inr (.inr (.inr (.inr f)))) => (n, .inr (.inr (.inr (.inr (fun j => (f j).map ad)))))
def am_E (cA : Nat → ClassId) (ad : Nat → Nat) (q : am_C) : va_E := match q with
  | .inl (t, a) => .inl (cA t, am_A ad a)
  | .inr (ci, fs) => .inr (ci, fs.map (am_v ad))
def am_W (cA : Nat → ClassId) (ad : Nat → Nat) (h : List am_C) : va_W := h.mapIdx (fun k q => (ad k, am_E cA ad q))
theorem am_W_at {cA : Nat → ClassId} {ad : Nat → Nat} {h : List am_C} {k : Nat} {q : am_C} (hk : h[k]? = some q) : (am_W cA ad h)[k]? = some (ad k, am_E cA ad q) := by
  unfold am_W
  rw [List.getElem?_mapIdx, hk]
  rfl
theorem am_W_set (cA : Nat → ClassId) (ad : Nat → Nat) (h : List am_C) (k : Nat) (q : am_C) : (am_W cA ad h).set k (ad k, am_E cA ad q) = am_W cA ad (h.set k q) := by
  unfold am_W
  rw [List.mapIdx_set]
theorem am_W_push (cA : Nat → ClassId) (ad : Nat → Nat) (h : List am_C) (q : am_C) : am_W cA ad h ++ [(ad h.length, am_E cA ad q)] = am_W cA ad (h ++ [q]) := by
  unfold am_W
  rw [List.mapIdx_concat]
/-- the element types -/
def am_ty (t : Nat) : FieldType := match t with
  | 0 => .int
  | 1 => .long
  | 2 => .byte
  | 3 => .boolean
  | 4 => .object "PacketWorks$Table"
  | _ => .object "PacketWorks$Operation"
def am_tys (cA : Nat → ClassId) : List (ClassId × FieldType) := [(cA 0, am_ty 0), (cA 1, am_ty 1), (cA 2, am_ty 2), (cA 3, am_ty 3), (cA 4, am_ty 4), (cA 5, am_ty 5)]
theorem am_tys_at (cA : Nat → ClassId) {t : Nat} (ht : t < 6) : (am_tys cA)[t]? = some (cA t, am_ty t) := by
  match t, ht with
  | 0, _ => rfl
  | 1, _ => rfl
  | 2, _ => rfl
  | 3, _ => rfl
  | 4, _ => rfl
  | 5, _ => rfl
/-- what an instruction on cells does: pc, locals, operands, cells -/
abbrev am_RH : Type := Option (Nat × List (Nat × Value) × List Value × List am_C)
abbrev am_FH : Type := Nat → List (Nat × Value) → List Value → List am_C → am_RH
def am_getf (ci k : Nat) : am_FH := fun pc lv st h => match st with
  | .ref q :: r => match h[q]? with
    | some (.inr (cj, fs)) => if cj = ci then match fs[k]? with
      | some v => some (pc + 3, lv, v :: r, h)
      | none => none
      else none
    | _ => none
  | _ => none
/-- what a field of a type takes -/
def am_fit (ty : FieldType) (v : Value) : Bool := match ty, v with
  | .int, .int _ => true
  | .long, .long _ => true
  | .boolean, .int x => decide (x = 0) || decide (x = 1)
  | .object _, .ref _ => true
  | .object _, .null => true
  | .array _, .ref _ => true
  | .array _, .null => true
  | _, _ => false
theorem am_fit_ok {ty : FieldType} {v : Value} (ad : Nat → Nat) (h : am_fit ty v = true) : narrow ty (am_v ad v) = am_v ad v ∧ fits ty (am_v ad v) = true := by
  unfold am_fit at h
  split at h <;> first | (cases h; done) | skip
  · exact ⟨rfl, rfl⟩
  · exact ⟨rfl, rfl⟩
  · rename_i x
    rw [Bool.or_eq_true, decide_eq_true_eq, decide_eq_true_eq] at h
    rcases h with rfl | rfl
    · exact ⟨(by decide : narrow .boolean (.int 0) = .int 0), (by decide : fits .boolean (.int 0) = true)⟩
    · exact ⟨(by decide : narrow .boolean (.int 1) = .int 1), (by decide : fits .boolean (.int 1) = true)⟩
  · exact ⟨rfl, rfl⟩
  · exact ⟨rfl, rfl⟩
  · exact ⟨rfl, rfl⟩
  · exact ⟨rfl, rfl⟩
def am_putf (ci k : Nat) (ty : FieldType) : am_FH := fun pc lv st h => match st with
  | v :: .ref q :: r => match h[q]? with
    | some (.inr (cj, fs)) => if cj = ci ∧ k < fs.length ∧ am_fit ty v = true then some (pc + 3, lv, r, h.set q (.inr (ci, fs.set k v))) else none
    | _ => none
  | _ => none
def am_iald (t : Nat) : am_FH := fun pc lv st h => match st with
  | .int i :: .ref q :: r => match h[q]? with
    | some (.inl (u, n, .inl f)) => if u = t ∧ ¬ (i < 0 ∨ n ≤ i.toNatClampNeg) then some (pc + 1, lv, .int (f i.toNatClampNeg) :: r, h) else none
    | _ => none
  | _ => none
/-- baload serves bytes and truth values -/
def am_bald : am_FH := fun pc lv st h => match st with
  | .int i :: .ref q :: r => match h[q]? with
    | some (.inl (u, n, .inl f)) => if (u = 2 ∨ u = 3) ∧ ¬ (i < 0 ∨ n ≤ i.toNatClampNeg) then some (pc + 1, lv, .int (f i.toNatClampNeg) :: r, h) else none
    | _ => none
  | _ => none
def am_lald : am_FH := fun pc lv st h => match st with
  | .int i :: .ref q :: r => match h[q]? with
    | some (.inl (u, n, .inr (.inl f))) => if u = 1 ∧ ¬ (i < 0 ∨ n ≤ i.toNatClampNeg) then some (pc + 1, lv, .long (f i.toNatClampNeg) :: r, h) else none
    | _ => none
  | _ => none
def am_aald : am_FH := fun pc lv st h => match st with
  | .int i :: .ref q :: r => match h[q]? with
    | some (.inl (u, n, .inr (.inr (.inr (.inr f))))) => if (u = 4 ∨ u = 5) ∧ ¬ (i < 0 ∨ n ≤ i.toNatClampNeg) then some (pc + 1, lv, va_rf (f i.toNatClampNeg) :: r, h) else none
    | _ => none
  | _ => none
def am_iast : am_FH := fun pc lv st h => match st with
  | .int x :: .int i :: .ref q :: r => match h[q]? with
    | some (.inl (u, n, .inl f)) => if u = 0 ∧ ¬ (i < 0 ∨ n ≤ i.toNatClampNeg) then some (pc + 1, lv, r, h.set q (.inl (u, n, .inl (upd f i.toNatClampNeg x)))) else none
    | _ => none
  | _ => none
def am_bast : am_FH := fun pc lv st h => match st with
  | .int x :: .int i :: .ref q :: r => match h[q]? with
    | some (.inl (u, n, .inl f)) => if (u = 2 ∨ u = 3) ∧ ¬ (i < 0 ∨ n ≤ i.toNatClampNeg) then some (pc + 1, lv, r, h.set q (.inl (u, n, .inl (upd f i.toNatClampNeg (vp_nar (am_ty u) x))))) else none
    | _ => none
  | _ => none
def am_last : am_FH := fun pc lv st h => match st with
  | .long x :: .int i :: .ref q :: r => match h[q]? with
    | some (.inl (u, n, .inr (.inl f))) => if u = 1 ∧ ¬ (i < 0 ∨ n ≤ i.toNatClampNeg) then some (pc + 1, lv, r, h.set q (.inl (u, n, .inr (.inl (vp_updL f i.toNatClampNeg x))))) else none
    | _ => none
  | _ => none
/-- an object is put into an array of its class: 4 holds tables, 5 operations -/
def am_aast (tb op : Nat) : am_FH := fun pc lv st h => match st with
  | .ref x :: .int i :: .ref q :: r => match h[q]?, h[x]? with
    | some (.inl (u, n, .inr (.inr (.inr (.inr f))))), some (.inr (cj, _)) => if ((u = 4 ∧ cj = tb) ∨ (u = 5 ∧ cj = op)) ∧ ¬ (i < 0 ∨ n ≤ i.toNatClampNeg) then some (pc + 1, lv, r, h.set q (.inl (u, n, .inr (.inr (.inr (.inr (va_up f i.toNatClampNeg (some x)))))))) else none
    | _, _ => none
  | _ => none
def am_alen : am_FH := fun pc lv st h => match st with
  | .ref q :: r => match h[q]? with
    | some (.inl (u, a)) => if u < 6 then some (pc + 1, lv, .int (Int32.ofNat a.1) :: r, h) else none
    | _ => none
  | _ => none
def am_ad (ad : Nat → Nat) (k q : Nat) : Nat → Nat := fun j => if j = k then q else ad j
/-- cells that come: the numbers of cells and of slots that are made stand behind -/
abbrev am_RN : Type := Option (Nat × List (Nat × Value) × List Value × List am_C × Nat)
abbrev am_FN : Type := Nat → List (Nat × Value) → List Value → List am_C → am_RN
def am_zero (t n : Nat) : vp_A := match t with
  | 1 => (n, .inr (.inl (fun _ => 0)))
  | 4 => (n, .inr (.inr (.inr (.inr (fun _ => none)))))
  | 5 => (n, .inr (.inr (.inr (.inr (fun _ => none)))))
  | _ => (n, .inl (fun _ => 0))
def am_newa (t : Nat) : am_FN := fun pc lv st h => match st with
  | .int n :: r => if t < 4 ∧ ¬ n < 0 ∧ n.toNatClampNeg ≤ 1000000 ∧ h.length < 1000000 then some (pc + 2, lv, .ref h.length :: r, h ++ [.inl (t, am_zero t n.toNatClampNeg)], n.toNatClampNeg) else none
  | _ => none
def am_newq (t : Nat) : am_FN := fun pc lv st h => match st with
  | .int n :: r => if (t = 4 ∨ t = 5) ∧ ¬ n < 0 ∧ n.toNatClampNeg ≤ 1000000 ∧ h.length < 1000000 then some (pc + 3, lv, .ref h.length :: r, h ++ [.inl (t, am_zero t n.toNatClampNeg)], n.toNatClampNeg) else none
  | _ => none
def am_new (ci : Nat) (fs : List Value) : am_FN := fun pc lv st h => if h.length < 1000000 then some (pc + 3, lv, .ref h.length :: st, h ++ [.inr (ci, fs)], fs.length) else none
/-- references name cells that are there, or what stands outside -/
def am_okv (n : Nat) (v : Value) : Prop := match v with
  | .ref k => k < n ∨ 1000000 ≤ k
  | _ => True
def am_okC (n : Nat) (q : am_C) : Prop := match q with
  | .inl (_, _, .inr (.inr (.inr (.inr f)))) => ∀ j k, f j = some k → k < n ∨ 1000000 ≤ k
  | .inl _ => True
  | .inr (_, fs) => ∀ v ∈ fs, am_okv n v
def am_okL (n : Nat) (lv : List (Nat × Value)) : Prop := ∀ q ∈ lv, am_okv n q.2
def am_okS (n : Nat) (st : List Value) : Prop := ∀ v ∈ st, am_okv n v
def am_okH (n : Nat) (h : List am_C) : Prop := ∀ q ∈ h, am_okC n q
end
section
/-! ===== THE PURE MACHINE, part 4: its instructions on cells are the machine's ===== -/
section AMH
variable {p : Program} {l : Launch} {e : Env} {R : Room} {s : State} {m : MethodId} {args : Array Value} {below : List Frame} {meth : Method} {c : Code} {H : Heap} {locs : List Loc} {cells slots : Nat} {Q : State → Prop}
variable {cc : ByteArray} {pc pc' : Nat} {ls : Array Slot} {lv lv' : List (Nat × Value)} {st st' : List Value} {ad : Nat → Nat} {cA : Nat → ClassId} {h h' : List am_C}
variable {D : va_G} {cl : List vw_C} {A : Nat → Prop} {H0 : Heap} {Ts : List Cond}
theorem am_getf_ok {own C : String} {T : u_T} {N ci k idx : Nat} (hx : p.tables.exec = Jvm.exec) (hb : c.code = cc) (hd : decode cc pc = .ok (.getfield idx, 3)) (hts : ∀ w ∈ Ts, w.before args s = true) (hin : ∀ w ∈ u_ws C T N, w ∈ Ts) (hown : s.vm.findClass own = some m.cls) (hK : va_K D cl (am_tys cA) s) (hP : va_P D cl (am_W cA ad h) H) (hc : cl[ci]? = some (C, T, N)) (hk : k < N) (hlink : (Cond.fieldLink own idx (T k).1 (T k).2.1 (T k).2.2.1).before args s = true)
    (hr : am_getf ci k pc lv st h = some (pc', lv', st', h')) (kk : lv = lv' → h = h' → W p l e R s m args below meth c H locs cells slots Q (F0 m pc' ls (st'.map (am_v ad)))) : W p l e R s m args below meth c H locs cells slots Q (F0 m pc ls (st.map (am_v ad))) := by
  unfold am_getf at hr
  split at hr
  · rename_i q r
    split at hr
    · rename_i cj fs hq
      split at hr
      · rename_i hcj
        subst hcj
        split at hr
        · rename_i v hv
          cases hr
          exact va_get hx hb hts hin hown hK hP q (am_W_at hq) hc k hk hlink (fun _ z => z) (v := am_v ad v) (by rw [List.getElem?_map, hv]; rfl) hd (kk rfl rfl)
        · cases hr
      · cases hr
    · cases hr
  · cases hr
theorem am_putf_ok {own C : String} {T : u_T} {N ci k idx : Nat} {ty : FieldType} (hx : p.tables.exec = Jvm.exec) (hb : c.code = cc) (hd : decode cc pc = .ok (.putfield idx, 3)) (hts : ∀ w ∈ Ts, w.before args s = true) (hin : ∀ w ∈ u_ws C T N, w ∈ Ts) (ty0 : Nat → FieldType) (hty : ∀ k, k < N → parseFieldDescriptor (T k).2.2.1 = some (ty0 k)) (hnm : ∀ a, a < N → ∀ b, b < N → a ≠ b → (T a).2.1 ≠ (T b).2.1) (hown : s.vm.findClass own = some m.cls) (hK : va_K D cl (am_tys cA) s) (hP : va_P D cl (am_W cA ad h) H) (hD : va_D A (am_W cA ad h)) (hS : va_S A H0 H locs) (hc : cl[ci]? = some (C, T, N)) (hk : k < N) (hlink : (Cond.fieldLink own idx (T k).1 (T k).2.1 (T k).2.2.1).before args s = true)
    (hfin : (T k).2.2.2 = false ∨ ((T k).2.2.2 = true ∧ meth.name = "<init>" ∧ (T k).1 = own)) (hpd : parseFieldDescriptor (T k).2.2.1 = some ty)
    (hr : am_putf ci k ty pc lv st h = some (pc', lv', st', h')) (kk : ∀ (H1 : Heap) (locs1 : List Loc), lv = lv' → va_P D cl (am_W cA ad h') H1 → va_D A (am_W cA ad h') → va_S A H0 H1 locs1 → W p l e R s m args below meth c H1 locs1 cells slots Q (F0 m pc' ls (st'.map (am_v ad)))) : W p l e R s m args below meth c H locs cells slots Q (F0 m pc ls (st.map (am_v ad))) := by
  unfold am_putf at hr
  split at hr
  · rename_i v q r
    split at hr
    · rename_i cj fs hq
      split at hr
      · rename_i hz
        obtain ⟨hcj, hlen, hfit⟩ := hz
        subst hcj
        cases hr
        obtain ⟨f1, f2⟩ := am_fit_ok ad hfit
        have hset : (am_W cA ad h).set q (ad q, .inr (cj, (fs.map (am_v ad)).set k (am_v ad v))) = am_W cA ad (h.set q (.inr (cj, fs.set k v))) := by
          rw [← am_W_set]
          show _ = (am_W cA ad h).set q (ad q, .inr (cj, (fs.set k v).map (am_v ad)))
          rw [List.map_set]
        have go : ∀ (H1 : Heap) (locs1 : List Loc), va_P D cl ((am_W cA ad h).set q (ad q, .inr (cj, (fs.map (am_v ad)).set k (am_v ad v)))) H1 → va_D A ((am_W cA ad h).set q (ad q, .inr (cj, (fs.map (am_v ad)).set k (am_v ad v)))) → va_S A H0 H1 locs1 → W p l e R s m args below meth c H1 locs1 cells slots Q (F0 m (pc + 3) ls (st'.map (am_v ad))) := fun H1 locs1 a1 a2 a3 => kk H1 locs1 rfl (by rw [← hset]; exact a1) (by rw [← hset]; exact a2) a3
        rcases hfin with hf | ⟨hf, hmn, hdecl⟩
        · exact va_put hx hb hts hin ty0 hty hnm hown hK hP hD hS q (am_W_at hq) hc k hk hlink (fun _ z => z) hf hpd f1 f2 (by rw [List.length_map]; exact hlen) hd go
        · exact va_putF hx hb hts hin ty0 hty hnm hown hK hP hD hS q (am_W_at hq) hc k hk hlink (fun _ z => z) hf hmn hdecl hpd f1 f2 (by rw [List.length_map]; exact hlen) hd go
      · cases hr
    · cases hr
  · cases hr
theorem am_iald_ok (hx : p.tables.exec = Jvm.exec) (hb : c.code = cc) (hd : decode cc pc = .ok (.iaload, 1)) (hK : va_K D cl (am_tys cA) s) (hP : va_P D cl (am_W cA ad h) H) 
    (hr : am_iald 0 pc lv st h = some (pc', lv', st', h')) (kk : lv = lv' → h = h' → W p l e R s m args below meth c H locs cells slots Q (F0 m pc' ls (st'.map (am_v ad)))) : W p l e R s m args below meth c H locs cells slots Q (F0 m pc ls (st.map (am_v ad))) := by
  unfold am_iald at hr
  split at hr
  · rename_i i q r
    split at hr
    · rename_i u n f hq
      split at hr
      · rename_i hz
        obtain ⟨hu, hi⟩ := hz
        cases hr
        subst hu
        exact va_iald hx hb hK hP q 0 (am_W_at hq) (am_tys_at cA (by decide)) hi hd (kk rfl rfl)
      · cases hr
    · cases hr
  · cases hr
theorem am_bald_ok (hx : p.tables.exec = Jvm.exec) (hb : c.code = cc) (hd : decode cc pc = .ok (.baload, 1)) (hK : va_K D cl (am_tys cA) s) (hP : va_P D cl (am_W cA ad h) H) 
    (hr : am_bald pc lv st h = some (pc', lv', st', h')) (kk : lv = lv' → h = h' → W p l e R s m args below meth c H locs cells slots Q (F0 m pc' ls (st'.map (am_v ad)))) : W p l e R s m args below meth c H locs cells slots Q (F0 m pc ls (st.map (am_v ad))) := by
  unfold am_bald at hr
  split at hr
  · rename_i i q r
    split at hr
    · rename_i u n f hq
      split at hr
      · rename_i hz
        obtain ⟨hu, hi⟩ := hz
        cases hr
        rcases hu with rfl | rfl
        · exact va_bald hx hb hK hP q 2 (am_W_at hq) (am_tys_at cA (by decide)) hi hd (kk rfl rfl)
        · exact va_zald hx hb hK hP q 3 (am_W_at hq) (am_tys_at cA (by decide)) hi hd (kk rfl rfl)
      · cases hr
    · cases hr
  · cases hr
theorem am_lald_ok (hx : p.tables.exec = Jvm.exec) (hb : c.code = cc) (hd : decode cc pc = .ok (.laload, 1)) (hK : va_K D cl (am_tys cA) s) (hP : va_P D cl (am_W cA ad h) H) 
    (hr : am_lald pc lv st h = some (pc', lv', st', h')) (kk : lv = lv' → h = h' → W p l e R s m args below meth c H locs cells slots Q (F0 m pc' ls (st'.map (am_v ad)))) : W p l e R s m args below meth c H locs cells slots Q (F0 m pc ls (st.map (am_v ad))) := by
  unfold am_lald at hr
  split at hr
  · rename_i i q r
    split at hr
    · rename_i u n f hq
      split at hr
      · rename_i hz
        obtain ⟨hu, hi⟩ := hz
        cases hr
        subst hu
        exact va_lald hx hb hK hP q 1 (am_W_at hq) (am_tys_at cA (by decide)) hi hd (kk rfl rfl)
      · cases hr
    · cases hr
  · cases hr
theorem am_rf (ad : Nat → Nat) (r : Option Nat) : va_rf (r.map ad) = am_v ad (va_rf r) := by cases r <;> rfl
theorem am_aald_ok (hx : p.tables.exec = Jvm.exec) (hb : c.code = cc) (hd : decode cc pc = .ok (.aaload, 1)) (hK : va_K D cl (am_tys cA) s) (hP : va_P D cl (am_W cA ad h) H) 
    (hr : am_aald pc lv st h = some (pc', lv', st', h')) (kk : lv = lv' → h = h' → W p l e R s m args below meth c H locs cells slots Q (F0 m pc' ls (st'.map (am_v ad)))) : W p l e R s m args below meth c H locs cells slots Q (F0 m pc ls (st.map (am_v ad))) := by
  unfold am_aald at hr
  split at hr
  · rename_i i q r
    split at hr
    · rename_i u n f hq
      split at hr
      · rename_i hz
        obtain ⟨hu, hi⟩ := hz
        cases hr
        have go := kk rfl rfl
        rw [List.map_cons, ← am_rf] at go
        rcases hu with rfl | rfl
        · exact va_aldq hx hb hK hP q 4 (am_W_at hq) (am_tys_at cA (by decide)) hi hd go
        · exact va_aldq hx hb hK hP q 5 (am_W_at hq) (am_tys_at cA (by decide)) hi hd go
      · cases hr
    · cases hr
  · cases hr
theorem am_iast_ok (hx : p.tables.exec = Jvm.exec) (hb : c.code = cc) (hd : decode cc pc = .ok (.iastore, 1)) (hK : va_K D cl (am_tys cA) s) (hP : va_P D cl (am_W cA ad h) H) (hD : va_D A (am_W cA ad h)) (hS : va_S A H0 H locs)
    (hr : am_iast pc lv st h = some (pc', lv', st', h')) (kk : ∀ (H1 : Heap) (locs1 : List Loc), lv = lv' → va_P D cl (am_W cA ad h') H1 → va_D A (am_W cA ad h') → va_S A H0 H1 locs1 → W p l e R s m args below meth c H1 locs1 cells slots Q (F0 m pc' ls (st'.map (am_v ad)))) : W p l e R s m args below meth c H locs cells slots Q (F0 m pc ls (st.map (am_v ad))) := by
  unfold am_iast at hr
  split at hr
  · rename_i x i q r
    split at hr
    · rename_i u n f hq
      split at hr
      · rename_i hz
        obtain ⟨hu, hi⟩ := hz
        cases hr
        subst hu
        exact va_iast hx hb hK hP hD hS q 0 (am_W_at hq) (am_tys_at cA (by decide)) hi hd (fun H1 locs1 a1 a2 a3 => kk H1 locs1 rfl (by rw [← am_W_set]; exact a1) (by rw [← am_W_set]; exact a2) a3)
      · cases hr
    · cases hr
  · cases hr
theorem am_bast_ok (hx : p.tables.exec = Jvm.exec) (hb : c.code = cc) (hd : decode cc pc = .ok (.bastore, 1)) (hK : va_K D cl (am_tys cA) s) (hP : va_P D cl (am_W cA ad h) H) (hD : va_D A (am_W cA ad h)) (hS : va_S A H0 H locs)
    (hr : am_bast pc lv st h = some (pc', lv', st', h')) (kk : ∀ (H1 : Heap) (locs1 : List Loc), lv = lv' → va_P D cl (am_W cA ad h') H1 → va_D A (am_W cA ad h') → va_S A H0 H1 locs1 → W p l e R s m args below meth c H1 locs1 cells slots Q (F0 m pc' ls (st'.map (am_v ad)))) : W p l e R s m args below meth c H locs cells slots Q (F0 m pc ls (st.map (am_v ad))) := by
  unfold am_bast at hr
  split at hr
  · rename_i x i q r
    split at hr
    · rename_i u n f hq
      split at hr
      · rename_i hz
        obtain ⟨hu, hi⟩ := hz
        cases hr
        rcases hu with rfl | rfl
        · exact va_bast hx hb hK hP hD hS q 2 (am_W_at hq) (am_tys_at cA (by decide)) hi hd (fun H1 locs1 a1 a2 a3 => kk H1 locs1 rfl (by rw [← am_W_set]; exact a1) (by rw [← am_W_set]; exact a2) a3)
        · exact va_zast hx hb hK hP hD hS q 3 (am_W_at hq) (am_tys_at cA (by decide)) hi hd (fun H1 locs1 a1 a2 a3 => kk H1 locs1 rfl (by rw [← am_W_set]; exact a1) (by rw [← am_W_set]; exact a2) a3)
      · cases hr
    · cases hr
  · cases hr
theorem am_last_ok (hx : p.tables.exec = Jvm.exec) (hb : c.code = cc) (hd : decode cc pc = .ok (.lastore, 1)) (hK : va_K D cl (am_tys cA) s) (hP : va_P D cl (am_W cA ad h) H) (hD : va_D A (am_W cA ad h)) (hS : va_S A H0 H locs)
    (hr : am_last pc lv st h = some (pc', lv', st', h')) (kk : ∀ (H1 : Heap) (locs1 : List Loc), lv = lv' → va_P D cl (am_W cA ad h') H1 → va_D A (am_W cA ad h') → va_S A H0 H1 locs1 → W p l e R s m args below meth c H1 locs1 cells slots Q (F0 m pc' ls (st'.map (am_v ad)))) : W p l e R s m args below meth c H locs cells slots Q (F0 m pc ls (st.map (am_v ad))) := by
  unfold am_last at hr
  split at hr
  · rename_i x i q r
    split at hr
    · rename_i u n f hq
      split at hr
      · rename_i hz
        obtain ⟨hu, hi⟩ := hz
        cases hr
        subst hu
        exact va_last hx hb hK hP hD hS q 1 (am_W_at hq) (am_tys_at cA (by decide)) hi hd (fun H1 locs1 a1 a2 a3 => kk H1 locs1 rfl (by rw [← am_W_set]; exact a1) (by rw [← am_W_set]; exact a2) a3)
      · cases hr
    · cases hr
  · cases hr
theorem am_aast_ok {tb op : Nat} {rt ro : vw_C} (ht : cl[tb]? = some rt) (ho : cl[op]? = some ro) (h4 : am_ty 4 = .object rt.1) (h5 : am_ty 5 = .object ro.1) (hx : p.tables.exec = Jvm.exec) (hb : c.code = cc) (hd : decode cc pc = .ok (.aastore, 1)) (hK : va_K D cl (am_tys cA) s) (hP : va_P D cl (am_W cA ad h) H) (hD : va_D A (am_W cA ad h)) (hS : va_S A H0 H locs)
    (hr : am_aast tb op pc lv st h = some (pc', lv', st', h')) (kk : ∀ (H1 : Heap) (locs1 : List Loc), lv = lv' → va_P D cl (am_W cA ad h') H1 → va_D A (am_W cA ad h') → va_S A H0 H1 locs1 → W p l e R s m args below meth c H1 locs1 cells slots Q (F0 m pc' ls (st'.map (am_v ad)))) : W p l e R s m args below meth c H locs cells slots Q (F0 m pc ls (st.map (am_v ad))) := by
  unfold am_aast at hr
  split at hr
  · rename_i x i q r
    split at hr
    · rename_i u n f cj vs hq hv
      split at hr
      · rename_i hz
        obtain ⟨hu, hi⟩ := hz
        cases hr
        have hup : (fun j => (va_up f i.toNatClampNeg (some x) j).map ad) = va_up (fun j => (f j).map ad) i.toNatClampNeg (some (ad x)) := by
          funext j
          by_cases hj : j = i.toNatClampNeg <;> simp [va_up, hj]
        have go : ∀ (H1 : Heap) (locs1 : List Loc), va_P D cl ((am_W cA ad h).set q (ad q, .inl (cA u, n, .inr (.inr (.inr (.inr (va_up (fun j => (f j).map ad) i.toNatClampNeg (some (ad x))))))))) H1 → va_D A ((am_W cA ad h).set q (ad q, .inl (cA u, n, .inr (.inr (.inr (.inr (va_up (fun j => (f j).map ad) i.toNatClampNeg (some (ad x))))))))) → va_S A H0 H1 locs1 → W p l e R s m args below meth c H1 locs1 cells slots Q (F0 m (pc + 1) ls (st'.map (am_v ad))) := fun H1 locs1 a1 a2 a3 => by
          rw [← hup] at a1 a2
          exact kk H1 locs1 rfl (by rw [← am_W_set]; exact a1) (by rw [← am_W_set]; exact a2) a3
        rcases hu with ⟨rfl, rfl⟩ | ⟨rfl, rfl⟩
        · exact va_astq hx hb hK hP hD hS q 4 x cj (am_W_at hq) (by rw [← h4]; exact am_tys_at cA (by decide)) (am_W_at hv) ht hi hd go
        · exact va_astq hx hb hK hP hD hS q 5 x cj (am_W_at hq) (by rw [← h5]; exact am_tys_at cA (by decide)) (am_W_at hv) ho hi hd go
      · cases hr
    · cases hr
  · cases hr
theorem am_A_len (ad : Nat → Nat) (a : vp_A) : (am_A ad a).1 = a.1 := by
  obtain ⟨n, f | f | f | f | f⟩ := a <;> rfl
theorem am_alen_ok (hx : p.tables.exec = Jvm.exec) (hb : c.code = cc) (hd : decode cc pc = .ok (.arraylength, 1)) (hK : va_K D cl (am_tys cA) s) (hP : va_P D cl (am_W cA ad h) H) 
    (hr : am_alen pc lv st h = some (pc', lv', st', h')) (kk : lv = lv' → h = h' → W p l e R s m args below meth c H locs cells slots Q (F0 m pc' ls (st'.map (am_v ad)))) : W p l e R s m args below meth c H locs cells slots Q (F0 m pc ls (st.map (am_v ad))) := by
  unfold am_alen at hr
  split at hr
  · rename_i q r
    split at hr
    · rename_i u a hq
      split at hr
      · rename_i hu
        cases hr
        exact va_alen hx hb hK hP q u (am_W_at hq) (am_tys_at cA hu) (v := Int32.ofNat a.1) (by rw [am_A_len]) hd (kk rfl rfl)
      · cases hr
    · cases hr
  · cases hr
end AMH
end
section
/-! ===== THE PURE MACHINE, part 5: cells that come ===== -/
theorem am_ad_ne {ad : Nat → Nat} {n q k : Nat} (hn : n < 1000000) (h : k < n ∨ 1000000 ≤ k) : am_ad ad n q k = ad k := if_neg (by omega)
theorem am_ad_self (ad : Nat → Nat) (n q : Nat) : am_ad ad n q n = q := if_pos rfl
theorem am_v_ad {ad : Nat → Nat} {n q : Nat} {v : Value} (hn : n < 1000000) (h : am_okv n v) : am_v (am_ad ad n q) v = am_v ad v := by
  cases v <;> try rfl
  exact congrArg Value.ref (am_ad_ne hn h)
theorem am_L_ad {ad : Nat → Nat} {n q : Nat} {lv : List (Nat × Value)} (hn : n < 1000000) (h : am_okL n lv) : am_L (am_ad ad n q) lv = am_L ad lv := by
  unfold am_L
  exact List.map_congr_left (fun x hx => by rw [am_v_ad hn (h x hx)])
theorem am_S_ad {ad : Nat → Nat} {n q : Nat} {st : List Value} (hn : n < 1000000) (h : am_okS n st) : st.map (am_v (am_ad ad n q)) = st.map (am_v ad) := List.map_congr_left (fun x hx => am_v_ad hn (h x hx))
theorem am_E_ad {cA : Nat → ClassId} {ad : Nat → Nat} {n q : Nat} {x : am_C} (hn : n < 1000000) (h : am_okC n x) : am_E cA (am_ad ad n q) x = am_E cA ad x := by
  obtain ⟨t, k, f | f | f | f | f⟩ | ⟨ci, fs⟩ := x <;> try rfl
  · show (Sum.inl (cA t, k, _) : va_E) = Sum.inl (cA t, k, _)
    congr 7
    funext j
    cases hj : f j with
    | none => rfl
    | some z => exact congrArg some (am_ad_ne hn (h j z hj))
  · show (Sum.inr (ci, _) : va_E) = Sum.inr (ci, _)
    congr 2
    exact am_S_ad hn h
theorem am_W_ad {cA : Nat → ClassId} {ad : Nat → Nat} {q : Nat} {h : List am_C} (hn : h.length < 1000000) (hw : am_okH h.length h) : am_W cA (am_ad ad h.length q) h = am_W cA ad h := by
  unfold am_W
  refine List.ext_getElem? fun i => ?_
  rw [List.getElem?_mapIdx, List.getElem?_mapIdx]
  cases hi : h[i]? with
  | none => rfl
  | some x =>
    have hl : i < h.length := (List.getElem?_eq_some_iff.mp hi).1
    show some (am_ad ad h.length q i, am_E cA (am_ad ad h.length q) x) = some (ad i, am_E cA ad x)
    rw [am_ad_ne hn (Or.inl hl), am_E_ad hn (hw x (List.mem_of_getElem? hi))]
theorem am_W_new {cA : Nat → ClassId} {ad : Nat → Nat} {q : Nat} {h : List am_C} {x : am_C} {y : va_E} (hn : h.length < 1000000) (hw : am_okH h.length h) (hy : am_E cA (am_ad ad h.length q) x = y) : am_W cA ad h ++ [(q, y)] = am_W cA (am_ad ad h.length q) (h ++ [x]) := by
  rw [← am_W_push, am_W_ad hn hw, am_ad_self, hy]
section AMN
variable {p : Program} {l : Launch} {e : Env} {R : Room} {s : State} {m : MethodId} {args : Array Value} {below : List Frame} {meth : Method} {c : Code} {H : Heap} {locs : List Loc} {cells slots : Nat} {Q : State → Prop}
variable {cc : ByteArray} {pc pc' : Nat} {ls : Array Slot} {lv lv' : List (Nat × Value)} {st st' : List Value} {ad : Nat → Nat} {cA : Nat → ClassId} {h h' : List am_C} {nS : Nat}
variable {D : va_G} {cl : List vw_C} {A : Nat → Prop} {H0 : Heap} {Ts : List Cond}
/-- the goal behind a cell that came -/
abbrev am_Knew (p : Program) (l : Launch) (e : Env) (R : Room) (s : State) (m : MethodId) (args : Array Value) (below : List Frame) (meth : Method) (c : Code) (locs : List Loc) (cells slots : Nat) (Q : State → Prop) (D : va_G) (cl : List vw_C) (A : Nat → Prop) (H0 : Heap) (cA : Nat → ClassId) (ad : Nat → Nat) (h h' : List am_C) (ls : Array Slot) (pc' : Nat) (st' : List Value) (nS : Nat) : Prop :=
  ∀ (q : Nat) (H1 : Heap), va_P D cl (am_W cA (am_ad ad h.length q) h') H1 → va_D A (am_W cA (am_ad ad h.length q) h') → va_S A H0 H1 locs → W p l e R s m args below meth c H1 locs (cells + 1) (slots + nS) Q (F0 m pc' ls (st'.map (am_v (am_ad ad h.length q))))
theorem am_new_ok {own C : String} {T : u_T} {N ci idx : Nat} {fs : List Value} (hx : p.tables.exec = Jvm.exec) (hb : c.code = cc) (hd : decode cc pc = .ok (.new idx, 3)) (hts : ∀ w ∈ Ts, w.before args s = true) (hin : ∀ w ∈ u_ws C T N, w ∈ Ts) (ty0 : Nat → FieldType) (hty : ∀ k, k < N → parseFieldDescriptor (T k).2.2.1 = some (ty0 k)) (hown : s.vm.findClass own = some m.cls) (hcl : (Cond.classLink own idx C).before args s = true) (hinst : (Cond.instantiable C N).before args s = true) (hini : (Cond.initialized C).before args s = true)
    (hK : va_K D cl (am_tys cA) s) (hP : va_P D cl (am_W cA ad h) H) (hD : va_D A (am_W cA ad h)) (hS : va_S A H0 H locs) (hA : ∀ q, H0.size ≤ q → A q) (hc : cl[ci]? = some (C, T, N)) (hfs : ∀ j, j < N → defaultValue (ty0 j) = vp_V fs j) (hlen : fs.length = N) (hpl : ∀ v ∈ fs, ∀ ad : Nat → Nat, am_v ad v = v)
    (hw : am_okH h.length h) (hwS : am_okS h.length st) (hcells : cells + 1 ≤ R.cells) (hslots : slots + nS ≤ R.slots)
    (hr : am_new ci fs pc lv st h = some (pc', lv', st', h', nS)) (kk : lv = lv' → h.length < 1000000 → am_Knew p l e R s m args below meth c locs cells slots Q D cl A H0 cA ad h h' ls pc' st' nS) : W p l e R s m args below meth c H locs cells slots Q (F0 m pc ls (st.map (am_v ad))) := by
  unfold am_new at hr
  split at hr
  · rename_i hn
    cases hr
    subst hlen
    have hmap : ∀ ad : Nat → Nat, fs.map (am_v ad) = fs := fun ad => by
      conv => rhs; rw [← List.map_id fs]
      exact List.map_congr_left (fun v hv => hpl v hv ad)
    refine va_new hx hb hts hin ty0 hty hown hcl hinst hini hK hP hD hS hA hc hfs hcells hslots hd fun q H1 a1 a2 a3 => ?_
    have he : am_W cA ad h ++ [(q, .inr (ci, fs))] = am_W cA (am_ad ad h.length q) (h ++ [.inr (ci, fs)]) := am_W_new hn hw (by show (Sum.inr (ci, fs.map _) : va_E) = _; rw [hmap])
    rw [he] at a1 a2
    have hst : (Value.ref h.length :: st).map (am_v (am_ad ad h.length q)) = .ref q :: st.map (am_v ad) := by
      rw [List.map_cons, am_S_ad hn hwS]
      exact congrArg (fun z => Value.ref z :: st.map (am_v ad)) (am_ad_self ad h.length q)
    have go := kk rfl hn q H1 a1 a2 a3
    rw [hst] at go
    exact go
  · cases hr
/-- an array's class is the one that the tables name -/
theorem am_cls {t : Nat} (hK : va_K D cl (am_tys cA) s) (ht : t < 4) : s.vm.findClass ("[" ++ (am_ty t).toString) = some (cA t) := by
  have hz := (hK.2 t _ (am_tys_at cA (by omega))).2
  match t, ht with
  | 0, _ => exact hz
  | 1, _ => exact hz
  | 2, _ => exact hz
  | 3, _ => exact hz
theorem am_newa_ok {t : Nat} {atype : ArrayType} (hty : newarray.typeOf atype = am_ty t) (hx : p.tables.exec = Jvm.exec) (hb : c.code = cc) (hd : decode cc pc = .ok (.newarray atype, 2)) (harr : (Cond.arrayClass (newarray.typeOf atype)).before args s = true)
    (hK : va_K D cl (am_tys cA) s) (hP : va_P D cl (am_W cA ad h) H) (hD : va_D A (am_W cA ad h)) (hS : va_S A H0 H locs) (hA : ∀ q, H0.size ≤ q → A q)
    (hw : am_okH h.length h) (hwS : am_okS h.length st) (hcells : cells + 1 ≤ R.cells) (hslots : slots + nS ≤ R.slots)
    (hr : am_newa t pc lv st h = some (pc', lv', st', h', nS)) (kk : lv = lv' → h.length < 1000000 → am_Knew p l e R s m args below meth c locs cells slots Q D cl A H0 cA ad h h' ls pc' st' nS) : W p l e R s m args below meth c H locs cells slots Q (F0 m pc ls (st.map (am_v ad))) := by
  unfold am_newa at hr
  split at hr
  · rename_i n r
    split at hr
    · rename_i hz
      obtain ⟨ht, hn0, hn1, hn⟩ := hz
      cases hr
      have hb8 : n.toNatClampNeg * componentBytes (newarray.typeOf atype) ≤ 536870912 := by
        have : componentBytes (newarray.typeOf atype) ≤ 8 := by cases atype <;> decide
        calc n.toNatClampNeg * componentBytes (newarray.typeOf atype) ≤ 1000000 * 8 := Nat.mul_le_mul hn1 this
          _ ≤ 536870912 := by decide
      refine va_newaK (g := F0 m pc ls ((Value.int n :: r).map (am_v ad))) hx hb harr rfl hd rfl hn0 rfl hb8 hcells hslots rfl fun H1 cA' e1 z1 o1 hAr hNm => ?_
      have hcA : cA' = cA t := Option.some.inj (hNm.symm.trans (by rw [hty]; exact am_cls hK ht))
      subst hcA
      have hcell : vp_cell (cA t) (am_zero t n.toNatClampNeg) = arrV (cA t) n.toNatClampNeg (fun _ => defaultValue (newarray.typeOf atype)) := by
        rw [hty]
        match t, ht with
        | 0, _ => rfl
        | 1, _ => rfl
        | 2, _ => rfl
        | 3, _ => rfl
      have hE : ∀ ad' : Nat → Nat, am_E cA ad' (.inl (t, am_zero t n.toNatClampNeg)) = .inl (cA t, am_zero t n.toNatClampNeg) := fun ad' => by
        match t, ht with
        | 0, _ => rfl
        | 1, _ => rfl
        | 2, _ => rfl
        | 3, _ => rfl
      have hk : ∀ (k : Nat) (x : Nat × va_E), (am_W cA ad h)[k]? = some x → H1[x.1]? = H[x.1]? := fun k x hx => o1 x.1 ((hP k x hx).lt)
      have he : am_W cA ad h ++ [(H.size, .inl (cA t, am_zero t n.toNatClampNeg))] = am_W cA (am_ad ad h.length H.size) (h ++ [.inl (t, am_zero t n.toNatClampNeg)]) := am_W_new hn hw (hE _)
      have a1 : va_P D cl (am_W cA ad h ++ [(H.size, .inl (cA t, am_zero t n.toNatClampNeg))]) H1 := (hP.kept hk).app (fun k x hx => by
        have hz : k < 1 := (List.getElem?_eq_some_iff.mp hx).1
        rw [show k = 0 by omega] at hx
        cases hx
        show H1[H.size]? = some (vp_cell _ _)
        rw [hcell]
        exact e1)
      have a2 : va_D A (am_W cA ad h ++ [(H.size, .inl (cA t, am_zero t n.toNatClampNeg))]) := hD.push hP rfl (hA _ hS.1)
      have a3 : va_S A H0 H1 locs := ⟨Nat.le_trans hS.1 (by omega), fun x h1 h2 => (o1 x (Nat.lt_of_lt_of_le h1 hS.1)).trans (hS.2.1 x h1 h2), hS.2.2⟩
      rw [he] at a1 a2
      have hst : (Value.ref h.length :: r).map (am_v (am_ad ad h.length H.size)) = .ref H.size :: r.map (am_v ad) := by
        rw [List.map_cons, am_S_ad hn (fun v hv => hwS v (List.mem_cons_of_mem _ hv))]
        exact congrArg (fun z => Value.ref z :: r.map (am_v ad)) (am_ad_self ad h.length H.size)
      have go := kk rfl hn H.size H1 a1 a2 a3
      rw [hst] at go
      exact go
    · cases hr
  · cases hr
theorem am_newq_ok {t idx : Nat} {own C : String} (hty : am_ty t = .object C) (hx : p.tables.exec = Jvm.exec) (hb : c.code = cc) (hd : decode cc pc = .ok (.anewarray idx, 3)) (hown : s.vm.findClass own = some m.cls) (hcl : (Cond.classLink own idx C).before args s = true) (hover : va_AO C s)
    (hK : va_K D cl (am_tys cA) s) (hP : va_P D cl (am_W cA ad h) H) (hD : va_D A (am_W cA ad h)) (hS : va_S A H0 H locs) (hA : ∀ q, H0.size ≤ q → A q)
    (hw : am_okH h.length h) (hwS : am_okS h.length st) (hcells : cells + 1 ≤ R.cells) (hslots : slots + nS ≤ R.slots)
    (hr : am_newq t pc lv st h = some (pc', lv', st', h', nS)) (kk : lv = lv' → h.length < 1000000 → am_Knew p l e R s m args below meth c locs cells slots Q D cl A H0 cA ad h h' ls pc' st' nS) : W p l e R s m args below meth c H locs cells slots Q (F0 m pc ls (st.map (am_v ad))) := by
  unfold am_newq at hr
  split at hr
  · rename_i n r
    split at hr
    · rename_i hz
      obtain ⟨ht, hn0, hn1, hn⟩ := hz
      cases hr
      refine va_newq hx hb hown hcl hover hK hP hD hS hA hn0 rfl (by omega) hcells hslots hd fun q cA' H1 b1 a1 a2 a3 => ?_
      have hold := (hK.2 t _ (am_tys_at cA (by omega))).2
      rw [hty] at hold
      have hnew := (b1.2 6 (cA', .object C) rfl).2
      obtain ⟨_, _, -, -, -, n1⟩ := hold
      obtain ⟨_, _, -, -, -, n2⟩ := hnew
      have hcA : cA' = cA t := Option.some.inj (n2.symm.trans n1)
      subst hcA
      have hE : am_E cA (am_ad ad h.length q) (.inl (t, am_zero t n.toNatClampNeg)) = .inl (cA t, n.toNatClampNeg, .inr (.inr (.inr (.inr (fun _ => none))))) := by
        rcases ht with rfl | rfl <;> rfl
      have he := am_W_new (cA := cA) (ad := ad) (q := q) hn hw hE
      rw [he] at a1 a2
      have hst : (Value.ref h.length :: r).map (am_v (am_ad ad h.length q)) = .ref q :: r.map (am_v ad) := by
        rw [List.map_cons, am_S_ad hn (fun v hv => hwS v (List.mem_cons_of_mem _ hv))]
        exact congrArg (fun z => Value.ref z :: r.map (am_v ad)) (am_ad_self ad h.length q)
      have go := kk rfl hn q H1 a1 a2 a3
      rw [hst] at go
      exact go
    · cases hr
  · cases hr
end AMN
end
section
/-! ===== THE PURE MACHINE, part 6: references stay references of cells that are there ===== -/
theorem am_okS_c {n : Nat} {v : Value} {st : List Value} : am_okS n (v :: st) ↔ am_okv n v ∧ am_okS n st := List.forall_mem_cons
theorem am_okL_st1 {n i : Nat} {v : Value} {lv : List (Nat × Value)} (h : am_okL n lv) (hv : am_okv n v) : am_okL n (am_st1 i v lv) := by
  intro q hq
  rcases List.mem_cons.mp hq with rfl | hq
  · exact hv
  · exact h q (List.mem_filter.mp hq).1
theorem am_okL_st2 {n i : Nat} {v : Value} {lv : List (Nat × Value)} (h : am_okL n lv) (hv : am_okv n v) : am_okL n (am_st2 i v lv) := by
  intro q hq
  rcases List.mem_cons.mp hq with rfl | hq
  · exact hv
  · exact h q (List.mem_filter.mp hq).1
theorem am_okL_get {n i : Nat} {v : Value} {lv : List (Nat × Value)} (h : am_okL n lv) (hg : am_get lv i = some v) : am_okv n v := h (i, v) (am_get_mem hg)
theorem am_ok_i (n : Nat) (x : Int32) : am_okv n (.int x) := trivial
theorem am_ok_l (n : Nat) (x : Int64) : am_okv n (.long x) := trivial
theorem am_ok_n (n : Nat) : am_okv n .null := trivial
section AMWF
variable {n nL pc pc' len i : Nat} {lv lv' : List (Nat × Value)} {st st' : List Value}
theorem am_push_wf {v : Value} (hv : am_okv n v) (hL : am_okL n lv) (hS : am_okS n st) (h : am_push v len nL pc lv st = some (pc', lv', st')) : am_okL n lv' ∧ am_okS n st' := by
  cases h
  exact ⟨hL, am_okS_c.mpr ⟨hv, hS⟩⟩
theorem am_iload_wf (hL : am_okL n lv) (hS : am_okS n st) (h : am_iload i len nL pc lv st = some (pc', lv', st')) : am_okL n lv' ∧ am_okS n st' := by
  unfold am_iload at h
  split at h
  · cases h
    exact ⟨hL, am_okS_c.mpr ⟨trivial, hS⟩⟩
  · cases h
theorem am_lload_wf (hL : am_okL n lv) (hS : am_okS n st) (h : am_lload i len nL pc lv st = some (pc', lv', st')) : am_okL n lv' ∧ am_okS n st' := by
  unfold am_lload at h
  split at h
  · cases h
    exact ⟨hL, am_okS_c.mpr ⟨trivial, hS⟩⟩
  · cases h
theorem am_aload_wf (hL : am_okL n lv) (hS : am_okS n st) (h : am_aload i len nL pc lv st = some (pc', lv', st')) : am_okL n lv' ∧ am_okS n st' := by
  unfold am_aload at h
  split at h
  · rename_i hg
    cases h
    exact ⟨hL, am_okS_c.mpr ⟨am_okL_get hL hg, hS⟩⟩
  · cases h
    exact ⟨hL, am_okS_c.mpr ⟨trivial, hS⟩⟩
  · cases h
theorem am_istore_wf (hL : am_okL n lv) (hS : am_okS n st) (h : am_istore i len nL pc lv st = some (pc', lv', st')) : am_okL n lv' ∧ am_okS n st' := by
  unfold am_istore at h
  split at h
  · split at h
    · cases h
      exact ⟨am_okL_st1 hL trivial, (am_okS_c.mp hS).2⟩
    · cases h
  · cases h
theorem am_lstore_wf (hL : am_okL n lv) (hS : am_okS n st) (h : am_lstore i len nL pc lv st = some (pc', lv', st')) : am_okL n lv' ∧ am_okS n st' := by
  unfold am_lstore at h
  split at h
  · split at h
    · cases h
      exact ⟨am_okL_st2 hL trivial, (am_okS_c.mp hS).2⟩
    · cases h
  · cases h
theorem am_astore_wf (hL : am_okL n lv) (hS : am_okS n st) (h : am_astore i len nL pc lv st = some (pc', lv', st')) : am_okL n lv' ∧ am_okS n st' := by
  unfold am_astore at h
  split at h
  · split at h
    · cases h
      exact ⟨am_okL_st1 hL (am_okS_c.mp hS).1, (am_okS_c.mp hS).2⟩
    · cases h
  · split at h
    · cases h
      exact ⟨am_okL_st1 hL trivial, (am_okS_c.mp hS).2⟩
    · cases h
  · cases h
theorem am_iinc_wf {z : Int} (hL : am_okL n lv) (hS : am_okS n st) (h : am_iinc i z nL pc lv st = some (pc', lv', st')) : am_okL n lv' ∧ am_okS n st' := by
  unfold am_iinc at h
  split at h
  · split at h
    · cases h
      exact ⟨am_okL_st1 hL trivial, hS⟩
    · cases h
  · cases h
theorem am_bini_wf {f : Int32 → Int32 → Int32} (hL : am_okL n lv) (hS : am_okS n st) (h : am_bini f nL pc lv st = some (pc', lv', st')) : am_okL n lv' ∧ am_okS n st' := by
  unfold am_bini at h
  split at h
  · cases h
    exact ⟨hL, am_okS_c.mpr ⟨trivial, (am_okS_c.mp (am_okS_c.mp hS).2).2⟩⟩
  · cases h
theorem am_binl_wf {f : Int64 → Int64 → Int64} (hL : am_okL n lv) (hS : am_okS n st) (h : am_binl f nL pc lv st = some (pc', lv', st')) : am_okL n lv' ∧ am_okS n st' := by
  unfold am_binl at h
  split at h
  · cases h
    exact ⟨hL, am_okS_c.mpr ⟨trivial, (am_okS_c.mp (am_okS_c.mp hS).2).2⟩⟩
  · cases h
theorem am_shl_wf {f : Int64 → Int32 → Int64} (hL : am_okL n lv) (hS : am_okS n st) (h : am_shl f nL pc lv st = some (pc', lv', st')) : am_okL n lv' ∧ am_okS n st' := by
  unfold am_shl at h
  split at h
  · cases h
    exact ⟨hL, am_okS_c.mpr ⟨trivial, (am_okS_c.mp (am_okS_c.mp hS).2).2⟩⟩
  · cases h
theorem am_divi_wf {f : Int32 → Int32 → Int32} (hL : am_okL n lv) (hS : am_okS n st) (h : am_divi f nL pc lv st = some (pc', lv', st')) : am_okL n lv' ∧ am_okS n st' := by
  unfold am_divi at h
  split at h
  · split at h
    · cases h
    · cases h
      exact ⟨hL, am_okS_c.mpr ⟨trivial, (am_okS_c.mp (am_okS_c.mp hS).2).2⟩⟩
  · cases h
theorem am_divl_wf {f : Int64 → Int64 → Int64} (hL : am_okL n lv) (hS : am_okS n st) (h : am_divl f nL pc lv st = some (pc', lv', st')) : am_okL n lv' ∧ am_okS n st' := by
  unfold am_divl at h
  split at h
  · split at h
    · cases h
    · cases h
      exact ⟨hL, am_okS_c.mpr ⟨trivial, (am_okS_c.mp (am_okS_c.mp hS).2).2⟩⟩
  · cases h
theorem am_uni_wf {f : Int32 → Int32} (hL : am_okL n lv) (hS : am_okS n st) (h : am_uni f nL pc lv st = some (pc', lv', st')) : am_okL n lv' ∧ am_okS n st' := by
  unfold am_uni at h
  split at h
  · cases h
    exact ⟨hL, am_okS_c.mpr ⟨trivial, (am_okS_c.mp hS).2⟩⟩
  · cases h
theorem am_i2l_wf (hL : am_okL n lv) (hS : am_okS n st) (h : am_i2l nL pc lv st = some (pc', lv', st')) : am_okL n lv' ∧ am_okS n st' := by
  unfold am_i2l at h
  split at h
  · cases h
    exact ⟨hL, am_okS_c.mpr ⟨trivial, (am_okS_c.mp hS).2⟩⟩
  · cases h
theorem am_l2i_wf (hL : am_okL n lv) (hS : am_okS n st) (h : am_l2i nL pc lv st = some (pc', lv', st')) : am_okL n lv' ∧ am_okS n st' := by
  unfold am_l2i at h
  split at h
  · cases h
    exact ⟨hL, am_okS_c.mpr ⟨trivial, (am_okS_c.mp hS).2⟩⟩
  · cases h
theorem am_lneg_wf (hL : am_okL n lv) (hS : am_okS n st) (h : am_lneg nL pc lv st = some (pc', lv', st')) : am_okL n lv' ∧ am_okS n st' := by
  unfold am_lneg at h
  split at h
  · cases h
    exact ⟨hL, am_okS_c.mpr ⟨trivial, (am_okS_c.mp hS).2⟩⟩
  · cases h
theorem am_lcmp_wf (hL : am_okL n lv) (hS : am_okS n st) (h : am_lcmp nL pc lv st = some (pc', lv', st')) : am_okL n lv' ∧ am_okS n st' := by
  unfold am_lcmp at h
  split at h
  · cases h
    exact ⟨hL, am_okS_c.mpr ⟨trivial, (am_okS_c.mp (am_okS_c.mp hS).2).2⟩⟩
  · cases h
theorem am_dup_wf (hL : am_okL n lv) (hS : am_okS n st) (h : am_dup nL pc lv st = some (pc', lv', st')) : am_okL n lv' ∧ am_okS n st' := by
  unfold am_dup at h
  split at h
  · split at h
    · cases h
      exact ⟨hL, am_okS_c.mpr ⟨(am_okS_c.mp hS).1, hS⟩⟩
    · cases h
  · cases h
theorem am_pop_wf (hL : am_okL n lv) (hS : am_okS n st) (h : am_pop nL pc lv st = some (pc', lv', st')) : am_okL n lv' ∧ am_okS n st' := by
  unfold am_pop at h
  split at h
  · split at h
    · cases h
      exact ⟨hL, (am_okS_c.mp hS).2⟩
    · cases h
  · cases h
theorem am_dup2_wf (hL : am_okL n lv) (hS : am_okS n st) (h : am_dup2 nL pc lv st = some (pc', lv', st')) : am_okL n lv' ∧ am_okS n st' := by
  unfold am_dup2 at h
  split at h
  · split at h
    · cases h
      exact ⟨hL, am_okS_c.mpr ⟨(am_okS_c.mp hS).1, am_okS_c.mpr ⟨(am_okS_c.mp (am_okS_c.mp hS).2).1, hS⟩⟩⟩
    · split at h
      · cases h
        exact ⟨hL, am_okS_c.mpr ⟨(am_okS_c.mp hS).1, hS⟩⟩
      · cases h
  · split at h
    · cases h
      exact ⟨hL, am_okS_c.mpr ⟨(am_okS_c.mp hS).1, hS⟩⟩
    · cases h
  · cases h
theorem am_if_wf {o : ClassFile.Cond} {off : Int} (hL : am_okL n lv) (hS : am_okS n st) (h : am_if o off nL pc lv st = some (pc', lv', st')) : am_okL n lv' ∧ am_okS n st' := by
  unfold am_if at h
  split at h
  · obtain ⟨rfl, rfl, -⟩ := am_br_inv h
    exact ⟨hL, (am_okS_c.mp hS).2⟩
  · cases h
theorem am_icmp_wf {o : ClassFile.Cond} {off : Int} (hL : am_okL n lv) (hS : am_okS n st) (h : am_icmp o off nL pc lv st = some (pc', lv', st')) : am_okL n lv' ∧ am_okS n st' := by
  unfold am_icmp at h
  split at h
  · obtain ⟨rfl, rfl, -⟩ := am_br_inv h
    exact ⟨hL, (am_okS_c.mp (am_okS_c.mp hS).2).2⟩
  · cases h
theorem am_goto_wf {off : Int} (hL : am_okL n lv) (hS : am_okS n st) (h : am_goto off nL pc lv st = some (pc', lv', st')) : am_okL n lv' ∧ am_okS n st' := by
  obtain ⟨-, rfl, rfl⟩ := am_jump_inv h
  exact ⟨hL, hS⟩
theorem am_ifnull_wf {off : Int} (hL : am_okL n lv) (hS : am_okS n st) (h : am_ifnull off nL pc lv st = some (pc', lv', st')) : am_okL n lv' ∧ am_okS n st' := by
  unfold am_ifnull at h
  split at h
  · obtain ⟨-, rfl, rfl⟩ := am_jump_inv h
    exact ⟨hL, (am_okS_c.mp hS).2⟩
  · cases h
    exact ⟨hL, (am_okS_c.mp hS).2⟩
  · cases h
theorem am_ifnonnull_wf {off : Int} (hL : am_okL n lv) (hS : am_okS n st) (h : am_ifnonnull off nL pc lv st = some (pc', lv', st')) : am_okL n lv' ∧ am_okS n st' := by
  unfold am_ifnonnull at h
  split at h
  · obtain ⟨-, rfl, rfl⟩ := am_jump_inv h
    exact ⟨hL, (am_okS_c.mp hS).2⟩
  · cases h
    exact ⟨hL, (am_okS_c.mp hS).2⟩
  · cases h
theorem am_lookup_wf {d : Int} {ps : Array (Int × Int)} (hL : am_okL n lv) (hS : am_okS n st) (h : am_lookup d ps nL pc lv st = some (pc', lv', st')) : am_okL n lv' ∧ am_okS n st' := by
  unfold am_lookup at h
  split at h
  · obtain ⟨-, rfl, rfl⟩ := am_jump_inv h
    exact ⟨hL, (am_okS_c.mp hS).2⟩
  · cases h
theorem am_table_wf {d lo hi : Int} {offs : Array Int} (hL : am_okL n lv) (hS : am_okS n st) (h : am_table d lo hi offs nL pc lv st = some (pc', lv', st')) : am_okL n lv' ∧ am_okS n st' := by
  unfold am_table at h
  split at h
  · split at h
    · obtain ⟨-, rfl, rfl⟩ := am_jump_inv h
      exact ⟨hL, (am_okS_c.mp hS).2⟩
    · split at h
      · obtain ⟨-, rfl, rfl⟩ := am_jump_inv h
        exact ⟨hL, (am_okS_c.mp hS).2⟩
      · cases h
  · cases h
theorem am_pure_wf {x : Instr} (hL : am_okL n lv) (hS : am_okS n st) (h : am_pure x len nL pc lv st = some (pc', lv', st')) : am_okL n lv' ∧ am_okS n st' := by
  cases x with
  | iconst z => exact am_push_wf (nL := nL) (am_ok_i n _) hL hS h
  | bipush z => exact am_push_wf (nL := nL) (am_ok_i n _) hL hS h
  | sipush z => exact am_push_wf (nL := nL) (am_ok_i n _) hL hS h
  | lconst z => exact am_push_wf (nL := nL) (am_ok_l n _) hL hS h
  | aconst_null => exact am_push_wf (nL := nL) (am_ok_n n) hL hS h
  | iload_n z => exact am_iload_wf (nL := nL) hL hS h
  | iload z => exact am_iload_wf (nL := nL) hL hS h
  | lload_n z => exact am_lload_wf (nL := nL) hL hS h
  | lload z => exact am_lload_wf (nL := nL) hL hS h
  | aload_n z => exact am_aload_wf (nL := nL) hL hS h
  | aload z => exact am_aload_wf (nL := nL) hL hS h
  | istore_n z => exact am_istore_wf (nL := nL) hL hS h
  | istore z => exact am_istore_wf (nL := nL) hL hS h
  | lstore_n z => exact am_lstore_wf (nL := nL) hL hS h
  | lstore z => exact am_lstore_wf (nL := nL) hL hS h
  | astore_n z => exact am_astore_wf (nL := nL) hL hS h
  | astore z => exact am_astore_wf (nL := nL) hL hS h
  | iinc z w => exact am_iinc_wf (nL := nL) hL hS h
  | iadd => exact am_bini_wf (nL := nL) hL hS h
  | isub => exact am_bini_wf (nL := nL) hL hS h
  | imul => exact am_bini_wf (nL := nL) hL hS h
  | iand => exact am_bini_wf (nL := nL) hL hS h
  | ior => exact am_bini_wf (nL := nL) hL hS h
  | ixor => exact am_bini_wf (nL := nL) hL hS h
  | ishl => exact am_bini_wf (nL := nL) hL hS h
  | ishr => exact am_bini_wf (nL := nL) hL hS h
  | iushr => exact am_bini_wf (nL := nL) hL hS h
  | idiv => exact am_divi_wf (nL := nL) hL hS h
  | irem => exact am_divi_wf (nL := nL) hL hS h
  | ladd => exact am_binl_wf (nL := nL) hL hS h
  | lsub => exact am_binl_wf (nL := nL) hL hS h
  | lmul => exact am_binl_wf (nL := nL) hL hS h
  | land => exact am_binl_wf (nL := nL) hL hS h
  | lor => exact am_binl_wf (nL := nL) hL hS h
  | lxor => exact am_binl_wf (nL := nL) hL hS h
  | ldiv => exact am_divl_wf (nL := nL) hL hS h
  | lrem => exact am_divl_wf (nL := nL) hL hS h
  | lshl => exact am_shl_wf (nL := nL) hL hS h
  | lshr => exact am_shl_wf (nL := nL) hL hS h
  | lushr => exact am_shl_wf (nL := nL) hL hS h
  | ineg => exact am_uni_wf (nL := nL) hL hS h
  | i2b => exact am_uni_wf (nL := nL) hL hS h
  | i2s => exact am_uni_wf (nL := nL) hL hS h
  | i2c => exact am_uni_wf (nL := nL) hL hS h
  | i2l => exact am_i2l_wf (nL := nL) hL hS h
  | l2i => exact am_l2i_wf (nL := nL) hL hS h
  | lneg => exact am_lneg_wf (nL := nL) hL hS h
  | lcmp => exact am_lcmp_wf (nL := nL) hL hS h
  | dup => exact am_dup_wf (nL := nL) hL hS h
  | pop => exact am_pop_wf (nL := nL) hL hS h
  | dup2 => exact am_dup2_wf (nL := nL) hL hS h
  | ifCond o off => exact am_if_wf (nL := nL) hL hS h
  | if_icmp o off => exact am_icmp_wf (nL := nL) hL hS h
  | goto off => exact am_goto_wf (nL := nL) hL hS h
  | ifnull off => exact am_ifnull_wf (nL := nL) hL hS h
  | ifnonnull off => exact am_ifnonnull_wf (nL := nL) hL hS h
  | lookupswitch d ps => exact am_lookup_wf (nL := nL) hL hS h
  | tableswitch d lo hi offs => exact am_table_wf (nL := nL) hL hS h
  | _ => cases h
end AMWF
theorem am_okv_mono {n k : Nat} {v : Value} (hk : n ≤ k) (h : am_okv n v) : am_okv k v := by
  cases v <;> try trivial
  rcases h with h | h
  · exact Or.inl (Nat.lt_of_lt_of_le h hk)
  · exact Or.inr h
theorem am_okL_mono {n k : Nat} {lv : List (Nat × Value)} (hk : n ≤ k) (h : am_okL n lv) : am_okL k lv := fun q hq => am_okv_mono hk (h q hq)
theorem am_okS_mono {n k : Nat} {st : List Value} (hk : n ≤ k) (h : am_okS n st) : am_okS k st := fun q hq => am_okv_mono hk (h q hq)
theorem am_okC_mono {n k : Nat} {q : am_C} (hk : n ≤ k) (h : am_okC n q) : am_okC k q := by
  obtain ⟨t, z, f | f | f | f | f⟩ | ⟨ci, fs⟩ := q <;> try trivial
  · intro j w hj
    rcases h j w hj with h | h
    · exact Or.inl (Nat.lt_of_lt_of_le h hk)
    · exact Or.inr h
  · exact fun v hv => am_okv_mono hk (h v hv)
theorem am_okH_mono {n k : Nat} {h : List am_C} (hk : n ≤ k) (hh : am_okH n h) : am_okH k h := fun q hq => am_okC_mono hk (hh q hq)
theorem am_okH_set {n i : Nat} {h : List am_C} {q : am_C} (hh : am_okH n h) (hq : am_okC n q) : am_okH n (h.set i q) := fun x hx => by
  rcases List.mem_or_eq_of_mem_set hx with h1 | rfl
  · exact hh x h1
  · exact hq
theorem am_okH_push {n : Nat} {h : List am_C} {q : am_C} (hh : am_okH n h) (hq : am_okC n q) : am_okH n (h ++ [q]) := fun x hx => by
  rcases List.mem_append.mp hx with h1 | h1
  · exact hh x h1
  · rw [List.mem_singleton.mp h1]
    exact hq
/-- all that an instruction leaves is in order -/
abbrev am_ok3 (lv : List (Nat × Value)) (st : List Value) (h : List am_C) : Prop := am_okL h.length lv ∧ am_okS h.length st ∧ am_okH h.length h
section AMWH
variable {pc pc' : Nat} {lv lv' : List (Nat × Value)} {st st' : List Value} {h h' : List am_C}
theorem am_getf_wf {ci k : Nat} (hw : am_ok3 lv st h) (hr : am_getf ci k pc lv st h = some (pc', lv', st', h')) : am_ok3 lv' st' h' ∧ h.length = h'.length := by
  obtain ⟨hL, hS, hH⟩ := hw
  unfold am_getf at hr
  split at hr
  · split at hr
    · rename_i hq
      split at hr
      · split at hr
        · rename_i v hv
          cases hr
          exact ⟨⟨hL, am_okS_c.mpr ⟨hH _ (List.mem_of_getElem? hq) _ (List.mem_of_getElem? hv), (am_okS_c.mp hS).2⟩, hH⟩, rfl⟩
        · cases hr
      · cases hr
    · cases hr
  · cases hr
theorem am_putf_wf {ci k : Nat} {ty : FieldType} (hw : am_ok3 lv st h) (hr : am_putf ci k ty pc lv st h = some (pc', lv', st', h')) : am_ok3 lv' st' h' ∧ h.length = h'.length := by
  obtain ⟨hL, hS, hH⟩ := hw
  unfold am_putf at hr
  split at hr
  · rename_i v q r
    split at hr
    · rename_i cj fs hq
      split at hr
      · cases hr
        have hC : am_okC h.length (.inr (ci, fs.set k v)) := fun w hw => by
          rcases List.mem_or_eq_of_mem_set hw with h1 | rfl
          · exact hH _ (List.mem_of_getElem? hq) w h1
          · exact (am_okS_c.mp hS).1
        refine ⟨⟨?_, ?_, ?_⟩, (List.length_set).symm⟩
        · rw [List.length_set]; exact hL
        · rw [List.length_set]; exact (am_okS_c.mp (am_okS_c.mp hS).2).2
        · rw [List.length_set]; exact am_okH_set hH hC
      · cases hr
    · cases hr
  · cases hr
theorem am_iald_wf {t : Nat} (hw : am_ok3 lv st h) (hr : am_iald t pc lv st h = some (pc', lv', st', h')) : am_ok3 lv' st' h' ∧ h.length = h'.length := by
  obtain ⟨hL, hS, hH⟩ := hw
  unfold am_iald at hr
  split at hr
  · split at hr
    · split at hr
      · cases hr
        exact ⟨⟨hL, am_okS_c.mpr ⟨trivial, (am_okS_c.mp (am_okS_c.mp hS).2).2⟩, hH⟩, rfl⟩
      · cases hr
    · cases hr
  · cases hr
theorem am_bald_wf (hw : am_ok3 lv st h) (hr : am_bald pc lv st h = some (pc', lv', st', h')) : am_ok3 lv' st' h' ∧ h.length = h'.length := by
  obtain ⟨hL, hS, hH⟩ := hw
  unfold am_bald at hr
  split at hr
  · split at hr
    · split at hr
      · cases hr
        exact ⟨⟨hL, am_okS_c.mpr ⟨trivial, (am_okS_c.mp (am_okS_c.mp hS).2).2⟩, hH⟩, rfl⟩
      · cases hr
    · cases hr
  · cases hr
theorem am_lald_wf (hw : am_ok3 lv st h) (hr : am_lald pc lv st h = some (pc', lv', st', h')) : am_ok3 lv' st' h' ∧ h.length = h'.length := by
  obtain ⟨hL, hS, hH⟩ := hw
  unfold am_lald at hr
  split at hr
  · split at hr
    · split at hr
      · cases hr
        exact ⟨⟨hL, am_okS_c.mpr ⟨trivial, (am_okS_c.mp (am_okS_c.mp hS).2).2⟩, hH⟩, rfl⟩
      · cases hr
    · cases hr
  · cases hr
theorem am_aald_wf (hw : am_ok3 lv st h) (hr : am_aald pc lv st h = some (pc', lv', st', h')) : am_ok3 lv' st' h' ∧ h.length = h'.length := by
  obtain ⟨hL, hS, hH⟩ := hw
  unfold am_aald at hr
  split at hr
  · rename_i i q r
    split at hr
    · rename_i u n f hq
      split at hr
      · cases hr
        have hv : am_okv h.length (va_rf (f i.toNatClampNeg)) := by
          cases hf : f i.toNatClampNeg with
          | none => trivial
          | some z => exact hH _ (List.mem_of_getElem? hq) _ z hf
        exact ⟨⟨hL, am_okS_c.mpr ⟨hv, (am_okS_c.mp (am_okS_c.mp hS).2).2⟩, hH⟩, rfl⟩
      · cases hr
    · cases hr
  · cases hr
theorem am_iast_wf (hw : am_ok3 lv st h) (hr : am_iast pc lv st h = some (pc', lv', st', h')) : am_ok3 lv' st' h' ∧ h.length = h'.length := by
  obtain ⟨hL, hS, hH⟩ := hw
  unfold am_iast at hr
  split at hr
  · split at hr
    · split at hr
      · cases hr
        refine ⟨⟨?_, ?_, ?_⟩, (List.length_set).symm⟩
        · rw [List.length_set]; exact hL
        · rw [List.length_set]; exact (am_okS_c.mp (am_okS_c.mp (am_okS_c.mp hS).2).2).2
        · rw [List.length_set]; exact am_okH_set hH trivial
      · cases hr
    · cases hr
  · cases hr
theorem am_bast_wf (hw : am_ok3 lv st h) (hr : am_bast pc lv st h = some (pc', lv', st', h')) : am_ok3 lv' st' h' ∧ h.length = h'.length := by
  obtain ⟨hL, hS, hH⟩ := hw
  unfold am_bast at hr
  split at hr
  · split at hr
    · split at hr
      · cases hr
        refine ⟨⟨?_, ?_, ?_⟩, (List.length_set).symm⟩
        · rw [List.length_set]; exact hL
        · rw [List.length_set]; exact (am_okS_c.mp (am_okS_c.mp (am_okS_c.mp hS).2).2).2
        · rw [List.length_set]; exact am_okH_set hH trivial
      · cases hr
    · cases hr
  · cases hr
theorem am_last_wf (hw : am_ok3 lv st h) (hr : am_last pc lv st h = some (pc', lv', st', h')) : am_ok3 lv' st' h' ∧ h.length = h'.length := by
  obtain ⟨hL, hS, hH⟩ := hw
  unfold am_last at hr
  split at hr
  · split at hr
    · split at hr
      · cases hr
        refine ⟨⟨?_, ?_, ?_⟩, (List.length_set).symm⟩
        · rw [List.length_set]; exact hL
        · rw [List.length_set]; exact (am_okS_c.mp (am_okS_c.mp (am_okS_c.mp hS).2).2).2
        · rw [List.length_set]; exact am_okH_set hH trivial
      · cases hr
    · cases hr
  · cases hr
theorem am_aast_wf {tb op : Nat} (hw : am_ok3 lv st h) (hr : am_aast tb op pc lv st h = some (pc', lv', st', h')) : am_ok3 lv' st' h' ∧ h.length = h'.length := by
  obtain ⟨hL, hS, hH⟩ := hw
  unfold am_aast at hr
  split at hr
  · rename_i x i q r
    split at hr
    · rename_i u n f cj vs hq hv
      split at hr
      · cases hr
        have hC : am_okC h.length (.inl (u, n, .inr (.inr (.inr (.inr (va_up f i.toNatClampNeg (some x))))))) := fun j k hj => by
          by_cases hji : j = i.toNatClampNeg
          · rw [hji, va_up_self] at hj
            cases hj
            exact (am_okS_c.mp hS).1
          · rw [va_up_ne _ _ hji] at hj
            exact hH _ (List.mem_of_getElem? hq) j k hj
        refine ⟨⟨?_, ?_, ?_⟩, (List.length_set).symm⟩
        · rw [List.length_set]; exact hL
        · rw [List.length_set]; exact (am_okS_c.mp (am_okS_c.mp (am_okS_c.mp hS).2).2).2
        · rw [List.length_set]; exact am_okH_set hH hC
      · cases hr
    · cases hr
  · cases hr
theorem am_alen_wf (hw : am_ok3 lv st h) (hr : am_alen pc lv st h = some (pc', lv', st', h')) : am_ok3 lv' st' h' ∧ h.length = h'.length := by
  obtain ⟨hL, hS, hH⟩ := hw
  unfold am_alen at hr
  split at hr
  · split at hr
    · split at hr
      · cases hr
        exact ⟨⟨hL, am_okS_c.mpr ⟨trivial, (am_okS_c.mp hS).2⟩, hH⟩, rfl⟩
      · cases hr
    · cases hr
  · cases hr
theorem am_zero_ok (n t k : Nat) : am_okC n (.inl (t, am_zero t k)) := by
  unfold am_zero
  split
  · trivial
  · intro j w hj; cases hj
  · intro j w hj; cases hj
  · trivial
theorem am_newa_wf {nS : Nat} {t : Nat} (hw : am_ok3 lv st h) (hr : am_newa t pc lv st h = some (pc', lv', st', h', nS)) : am_ok3 lv' st' h' ∧ h'.length = h.length + 1 := by
  obtain ⟨hL, hS, hH⟩ := hw
  unfold am_newa at hr
  split at hr
  · split at hr
    · rename_i hz
      cases hr
      refine ⟨⟨?_, ?_, ?_⟩, by rw [List.length_append]; rfl⟩
      · rw [List.length_append]; exact am_okL_mono (Nat.le_add_right _ _) hL
      · rw [List.length_append]; exact am_okS_c.mpr ⟨Or.inl (Nat.lt_succ_self _), am_okS_mono (Nat.le_add_right _ _) (am_okS_c.mp hS).2⟩
      · rw [List.length_append]; exact am_okH_push (am_okH_mono (Nat.le_add_right _ _) hH) (am_zero_ok _ _ _)
    · cases hr
  · cases hr
theorem am_newq_wf {nS : Nat} {t : Nat} (hw : am_ok3 lv st h) (hr : am_newq t pc lv st h = some (pc', lv', st', h', nS)) : am_ok3 lv' st' h' ∧ h'.length = h.length + 1 := by
  obtain ⟨hL, hS, hH⟩ := hw
  unfold am_newq at hr
  split at hr
  · split at hr
    · rename_i hz
      cases hr
      refine ⟨⟨?_, ?_, ?_⟩, by rw [List.length_append]; rfl⟩
      · rw [List.length_append]; exact am_okL_mono (Nat.le_add_right _ _) hL
      · rw [List.length_append]; exact am_okS_c.mpr ⟨Or.inl (Nat.lt_succ_self _), am_okS_mono (Nat.le_add_right _ _) (am_okS_c.mp hS).2⟩
      · rw [List.length_append]; exact am_okH_push (am_okH_mono (Nat.le_add_right _ _) hH) (am_zero_ok _ _ _)
    · cases hr
  · cases hr
theorem am_new_wf {nS : Nat} {ci : Nat} {fs : List Value} (hf : ∀ k, am_okS k fs) (hw : am_ok3 lv st h) (hr : am_new ci fs pc lv st h = some (pc', lv', st', h', nS)) : am_ok3 lv' st' h' ∧ h'.length = h.length + 1 := by
  obtain ⟨hL, hS, hH⟩ := hw
  unfold am_new at hr
  split at hr
  · cases hr
    refine ⟨⟨?_, ?_, ?_⟩, by rw [List.length_append]; rfl⟩
    · rw [List.length_append]; exact am_okL_mono (Nat.le_add_right _ _) hL
    · rw [List.length_append]; exact am_okS_c.mpr ⟨Or.inl (Nat.lt_succ_self _), am_okS_mono (Nat.le_add_right _ _) hS⟩
    · rw [List.length_append]; exact am_okH_push (am_okH_mono (Nat.le_add_right _ _) hH) (hf _)
  · cases hr
end AMWH
end
section
/-! ===== THE PURE MACHINE, part 7: into a method and out of it, by a value or by a throw ===== -/
/-- a method's end: what it answered or threw, the heap behind it; at most mc cells of ms slots came, only slots of cells that 'free' names were written -/
def am_MQ (below : List Frame) (Qc : Outcome → Heap → Vm → Prop) (s : State) (mc ms : Nat) (free : Addr → Prop) : State → Prop := fun t =>
  ∃ o, t.status = .running ∧ Ended t below o ∧ Qc o t.heap t.vm ∧ ∃ L : List Loc, s.WarmedH t.vm ∧ s.sameButNew ({ t with vm := s.vm } : State) L mc ms ∧ ∀ q ∈ L, free q.base
/-- what is known of a method at a state -/
def am_Is (y : MethodName) (bytes : ByteArray) (maxL : Nat) (ret : Option FieldType) (hh : List (Nat × Nat × Nat × Nat)) (s : State) (mk : MethodId) (methk : Method) (ck : Code) : Prop :=
  s.methodNamed? y = some mk ∧ s.vm.method? mk = some methk ∧ methk.code = some ck ∧ ck.code = bytes ∧ ck.maxLocals = maxL ∧ methk.sig.returnType = ret ∧ methk.locks = false ∧ ck.exceptionTable.toList.map (fun h => (h.startPc, h.endPc, h.handlerPc, h.catchType)) = hh
theorem am_Is.of {y : MethodName} {bytes : ByteArray} {maxL : Nat} {ret : Option FieldType} {args : Array Value} {s : State} (h : (Cond.code y bytes maxL ret).before args s = true) : ∃ mk methk ck, am_Is y bytes maxL ret [] s mk methk ck := by
  obtain ⟨mk, hn⟩ := Cond.code_named h
  obtain ⟨methk, ck, h1, h2, h3, h4, h5, h6, h7, -⟩ := Cond.code_spec hn h
  refine ⟨mk, methk, ck, hn, h1, h2, h3, h4, h5, h6, ?_⟩
  rw [show ck.exceptionTable.toList = [] from by simpa using h7]
  rfl
theorem am_Is.ofH {y : MethodName} {bytes : ByteArray} {maxL : Nat} {ret : Option FieldType} {hh : List (Nat × Nat × Nat × Nat)} {args : Array Value} {s : State} (h : (Cond.codeWith y bytes maxL ret hh).before args s = true) : ∃ mk methk ck, am_Is y bytes maxL ret hh s mk methk ck := by
  obtain ⟨mk, methk, ck, hn, h1, h2, h3, h4, h5, h6, h7, -⟩ := Cond.codeWith_spec h
  exact ⟨mk, methk, ck, hn, h1, h2, h3, h4, h6, h7, h5⟩
/-- behind a call: the caller's frame goes on, or the throw lies over it -/
def am_after (T : State) (g : JFrame) (len : Nat) (o : Outcome) : State := match o with
  | .returned v => T.setTop { g with pc := g.pc + len, stack := v.toList ++ g.stack }
  | .threw x => (T.setTop g).pushFrame (.throwing x)
theorem am_after_heap (T : State) (g : JFrame) (len : Nat) (o : Outcome) : (am_after T g len o).heap = T.heap := by
  cases o
  · simp [am_after, State.setTop, State.modifyTopJava]
  · exact Stand.throwing_heap T g _
theorem am_after_vm (T : State) (g : JFrame) (len : Nat) (o : Outcome) : (am_after T g len o).vm = T.vm := by
  cases o
  · simp [am_after, State.setTop, State.modifyTopJava]
  · exact Stand.throwing_vm T g _
theorem am_weaken {tb : Tables} {e : Env} {f : Frame} {below : List Frame} {a b : State} (h : Steps tb e (f :: below) a b) : Steps tb e below a b := by
  obtain ⟨n, hn, hw⟩ := h
  exact ⟨n, hn, fun k hk => (show Within _ ([f] ++ below) from hw k hk).weaken⟩
section AME
variable {p : Program} {l : Launch} {e : Env} {R R' : Room} {s : State} {m : MethodId} {args : Array Value} {below : List Frame} {meth : Method} {c : Code} {T : State} {locs : List Loc} {cells slots : Nat} {Q : State → Prop}
/-- a callee: from every start that is as the caller's state is, it ends as Qc says -/
abbrev am_Callee (p : Program) (l : Launch) (e : Env) (R' : Room) (y : MethodName) (bytes : ByteArray) (maxL : Nat) (ret : Option FieldType) (hh : List (Nat × Nat × Nat × Nat)) (s : State) (H : Heap) (a : Array Value) (Qc : Outcome → Heap → Vm → Prop) (mc ms : Nat) (free : Addr → Prop) : Prop :=
  ∀ (s' : State) (mk : MethodId) (below' : List Frame) (methk : Method) (ck : Code), s.WarmedH s'.vm → s'.heap = H → am_Is y bytes maxL ret hh s' mk methk ck →
    W p l e R' s' mk a below' methk ck H [] 0 0 (am_MQ below' Qc s' mc ms free) (entryFrame mk a maxL)
theorem am_enter (X : Stand p l e R s m args below meth c T locs cells slots) {g : JFrame} (hg : g.method = m) (hsize : g.locals.size = c.maxLocals) {ig : Instr} {len : Nat} (hdg : decode c.code g.pc = .ok (ig, len)) (hW : 2 * g.monitorRoom + (g.stack.map fun v => v.category).sum ≤ 8)
    {y : MethodName} {bytes : ByteArray} {maxL : Nat} {ret : Option FieldType} {hh : List (Nat × Nat × Nat × Nat)} {mk : MethodId} {methk : Method} {ck : Code} (hy : plainFor y = true) (hI : am_Is y bytes maxL ret hh T mk methk ck) (a : Array Value)
    (hfr : R'.frames + 1 ≤ R.frames) (hlo : 8 + (maxL + 11) + R'.locals ≤ R.locals) (hce : cells + R'.cells ≤ R.cells) (hsl : slots + R'.slots ≤ R.slots)
    {Qc : Outcome → Heap → Vm → Prop} {mc ms : Nat} {free : Addr → Prop} (hcal : am_Callee p l e R' y bytes maxL ret hh s T.heap a Qc mc ms free) :
    ∃ (o : Outcome) (T' : State) (L : List Loc), Stand p l e R s m args below meth c T' (locs ++ L) (cells + mc) (slots + ms) ∧ (∀ q ∈ L, free q.base) ∧ Qc o T'.heap T'.vm ∧
      ∀ acts, Steps p.tables e below (doInvoke e (T.setTop g) acts mk a).1 (am_after T' g len o) := by
  obtain ⟨hn, hm, hc, hb, hl, hr, hk, he⟩ := hI
  obtain ⟨Y, hinv⟩ := X.into hg hsize hdg a (R' := R') hm hc hk (State.plainMethod.of_named hy hn hm) hfr (by rw [hl]; omega) hce hsl
  obtain ⟨t, hst, o, hrun, hend, hq, L, hWt, hsame, hL⟩ := hcal (T.calling g mk a) mk (.java g :: below) methk ck X.warmed (by simp [State.calling, State.pushFrame, State.setFrames, State.setTop, State.modifyTopJava]) ⟨by simpa [State.calling, State.pushFrame, State.setFrames, State.setTop, State.modifyTopJava, State.methodNamed?] using hn, by simpa [State.calling, State.pushFrame, State.setFrames, State.setTop, State.modifyTopJava] using hm, hc, hb, hl, hr, hk, he⟩ _ (by simp [State.pushFrame, State.setFrames, State.setTop, State.modifyTopJava]) Y
  rw [hl] at hinv
  have hend' : Ended t (.java g :: below) o := hend
  cases o with
  | returned v =>
    obtain ⟨T', X', -, -, ht⟩ := X.outOf hg hdg hend' hWt hsame
    refine ⟨.returned v, T', L, X', hL, ?_, fun acts => ?_⟩
    · rw [ht] at hq
      simpa [State.setTop, State.modifyTopJava] using hq
    · rw [hinv acts]
      rw [ht, hl] at hst
      exact am_weaken hst
  | threw x =>
    obtain ⟨T', X', -, -, ht⟩ := X.outOfThrown hg hend' hWt hsame
    refine ⟨.threw x, T', L, X', hL, ?_, fun acts => ?_⟩
    · rw [ht, Stand.throwing_heap, Stand.throwing_vm] at hq
      exact hq
    · rw [hinv acts]
      rw [ht, hl] at hst
      exact am_weaken hst
end AME
end
section
/-! ===== THE PURE MACHINE, part 8: calls ===== -/
section AMC
variable {p : Program} {l : Launch} {e : Env} {R R' : Room} {s : State} {m : MethodId} {args : Array Value} {below : List Frame} {meth : Method} {c : Code} {H : Heap} {locs : List Loc} {cells slots : Nat} {Q : State → Prop}
/-- a throw lies over the frame g -/
def am_T (p : Program) (l : Launch) (e : Env) (R : Room) (s : State) (m : MethodId) (args : Array Value) (below : List Frame) (meth : Method) (c : Code) (H : Heap) (locs : List Loc) (cells slots : Nat) (Q : State → Prop) (g : JFrame) (x : Addr) : Prop :=
  ∀ T : State, T.heap = H → Stand p l e R s m args below meth c T locs cells slots → ∃ t, Steps p.tables e below ((T.setTop g).pushFrame (.throwing x)) t ∧ Q t
/-- behind a call -/
def am_next (p : Program) (l : Launch) (e : Env) (R : Room) (s : State) (m : MethodId) (args : Array Value) (below : List Frame) (meth : Method) (c : Code) (H : Heap) (locs : List Loc) (cells slots : Nat) (Q : State → Prop) (pc : Nat) (ls : Array Slot) (rest : List Value) (o : Outcome) : Prop := match o with
  | .returned v => W p l e R s m args below meth c H locs cells slots Q (F0 m (pc + 3) ls (v.toList ++ rest))
  | .threw x => am_T p l e R s m args below meth c H locs cells slots Q (F0 m pc ls rest) x
variable {y : MethodName} {bytes cc : ByteArray} {maxL nL mc ms index pc : Nat} {ret : Option FieldType} {hh : List (Nat × Nat × Nat × Nat)} {Qc : Outcome → Heap → Vm → Prop} {free : Addr → Prop} {own C : String} {ls : Array Slot} {argsL rest st0 : List Value} {b : Addr}
theorem am_called {a : Array Value} {ig : Instr} (hb : c.code = cc) (hml : c.maxLocals = nL) (hsize : ls.size = nL) (hdg : decode cc pc = .ok (ig, 3)) (hW : (rest.map fun v => v.category).sum ≤ 8) (hy : plainFor y = true)
    (hstep : ∀ T : State, T.heap = H → Stand p l e R s m args below meth c T locs cells slots → ∃ (vm₁ : Vm) (mk : MethodId) (methk : Method) (ck : Code), Stand p l e R s m args below meth c (T.setVm vm₁) locs cells slots ∧ am_Is y bytes maxL ret hh (T.setVm vm₁) mk methk ck ∧
      ∀ target, (∀ acts, Steps p.tables e below (doInvoke e ((T.setVm vm₁).setTop (F0 m pc ls rest)) acts mk a).1 target) → Steps p.tables e below (T.setTop (F0 m pc ls st0)) target)
    (hfr : R'.frames + 1 ≤ R.frames) (hlo : 8 + (maxL + 11) + R'.locals ≤ R.locals) (hce : cells + R'.cells ≤ R.cells) (hsl : slots + R'.slots ≤ R.slots)
    (hcal : am_Callee p l e R' y bytes maxL ret hh s H a Qc mc ms free)
    (kk : ∀ (o : Outcome) (H1 : Heap) (vm1 : Vm) (L : List Loc), (∀ q ∈ L, free q.base) → Qc o H1 vm1 → s.WarmedH vm1 → am_next p l e R s m args below meth c H1 (locs ++ L) (cells + mc) (slots + ms) Q pc ls rest o) :
    W p l e R s m args below meth c H locs cells slots Q (F0 m pc ls st0) := by
  intro T hT X
  obtain ⟨vm₁, mk, methk, ck, X₁, hI, hst⟩ := hstep T hT X
  obtain ⟨o, T', L, X', hL, hq, hrun⟩ := am_enter (R' := R') X₁ (g := F0 m pc ls rest) rfl (hsize.trans hml.symm) (by rw [hb]; exact hdg) (lv_room hW) hy hI a hfr hlo hce hsl (by rw [show (T.setVm vm₁).heap = H from hT]; exact hcal)
  have hn := kk o T'.heap T'.vm L hL hq X'.warmed
  cases o with
  | returned v =>
    obtain ⟨t, a1, b1⟩ := hn T' rfl X'
    exact ⟨t, hst t (fun acts => (hrun acts).trans a1), b1⟩
  | threw x =>
    obtain ⟨t, a1, b1⟩ := hn T' rfl X'
    exact ⟨t, hst t (fun acts => (hrun acts).trans a1), b1⟩
/-- what is known of a method stays where the tables only warm -/
theorem am_Is.warm {T : State} {mk : MethodId} {methk : Method} {ck : Code} (hW : s.WarmedH T.vm) (h : am_Is y bytes maxL ret hh s mk methk ck) : am_Is y bytes maxL ret hh T mk methk ck := by
  obtain ⟨h1, h2, h3⟩ := h
  refine ⟨?_, ?_, h3⟩
  · show (s.setVm T.vm).methodNamed? y = some mk
    rw [State.methodNamed?_setVm hW.alike]
    exact h1
  · rw [hW.alike.method?]
    exact h2
theorem am_callV (hx : p.tables.exec = Jvm.exec) (hb : c.code = cc) (hml : c.maxLocals = nL) (hsize : ls.size = nL) (hown : s.vm.findClass own = some m.cls) (hy : y.cls ≠ "java/lang/invoke/MethodHandle" ∧ y.cls ≠ "java/lang/invoke/VarHandle") (hpf : plainFor y = true) (hlen : ∀ sig, parseMethodDescriptor y.desc = some sig → argsL.length = sig.parameters.length) (hW : (rest.map fun v => v.category).sum ≤ 8) (hlink : (Cond.methodLink own index y).before args s = true) (hinst : (Cond.instanceMethod y).before args s = true) (hsel : (Cond.selects C y y).before args s = true) (hcode : (Cond.code y bytes maxL ret).before args s = true)
    {cellB : Cell} (hcell : H[b]? = some cellB) (hobj : cellB.vm.isStatics = false) (hcls : s.vm.findClass C = some cellB.cls) (hdg : decode cc pc = .ok (.invokevirtual index, 3))
    (hfr : R'.frames + 1 ≤ R.frames) (hlo : 8 + (maxL + 11) + R'.locals ≤ R.locals) (hce : cells + R'.cells ≤ R.cells) (hsl : slots + R'.slots ≤ R.slots) (hcal : am_Callee p l e R' y bytes maxL ret [] s H (Value.ref b :: argsL).toArray Qc mc ms free)
    (kk : ∀ (o : Outcome) (H1 : Heap) (vm1 : Vm) (L : List Loc), (∀ q ∈ L, free q.base) → Qc o H1 vm1 → s.WarmedH vm1 → am_next p l e R s m args below meth c H1 (locs ++ L) (cells + mc) (slots + ms) Q pc ls rest o) : W p l e R s m args below meth c H locs cells slots Q (F0 m pc ls (argsL.reverse ++ .ref b :: rest)) := by
  refine am_called hb hml hsize hdg hW hpf (fun T hT X => ?_) hfr hlo hce hsl hcal kk
  obtain ⟨mk, methM, hnamed, hmethM, hstM, habM⟩ := Cond.instanceMethod_spec hinst
  obtain ⟨mk', methk, ck, hI⟩ := am_Is.of hcode
  obtain ⟨hn2, hm2, hr2⟩ := id hI
  cases hnamed.symm.trans hn2
  cases hmethM.symm.trans hm2
  obtain ⟨methM', cM, hmethM', -, -, -, -, -, -, hsigM⟩ := Cond.code_spec hnamed hcode
  cases hmethM.symm.trans hmethM'
  obtain ⟨c2, r2, m2, q1, q2, q3, q4, kP, hkP, hkPi⟩ := Cond.selects_spec hsel
  cases hcls.symm.trans q1
  cases (State.methodFound?_of_named hnamed hy).symm.trans q2
  cases hnamed.symm.trans q3
  have hselP : selectMethod e.platform s.vm cellB.cls mk = .method mk := by rw [Launch.admits_selectMethod X.admits]; exact q4
  obtain ⟨vm₁, X₁, hstep₁⟩ := X.invokevirtual hx hown hlink hnamed hmethM hstM hkP hkPi hy (a := b) (cell := cellB) (by rw [hT]; exact hcell)
    (fun z h => by rw [h] at hobj; cases hobj) hselP hmethM habM hkP hkPi (g := F0 m pc ls (argsL.reverse ++ .ref b :: rest)) rfl (argsL := argsL) (rest := rest) (hlen _ hsigM) rfl (by rw [hb]; exact hdg)
  exact ⟨vm₁, mk, methM, ck, X₁, hI.warm X₁.warmed, hstep₁⟩
theorem am_callS (hx : p.tables.exec = Jvm.exec) (hb : c.code = cc) (hml : c.maxLocals = nL) (hsize : ls.size = nL) (hown : s.vm.findClass own = some m.cls) (hy : y.cls ≠ "java/lang/invoke/MethodHandle" ∧ y.cls ≠ "java/lang/invoke/VarHandle") (hpf : plainFor y = true) (hlen : ∀ sig, parseMethodDescriptor y.desc = some sig → argsL.length = sig.parameters.length) (hW : (rest.map fun v => v.category).sum ≤ 8) (hlink : (Cond.methodLink own index y).before args s = true) (hstat : (Cond.static y).before args s = true) (hinit : (Cond.initialized y.cls).before args s = true) (hcode : (Cond.code y bytes maxL ret).before args s = true)
    (hdg : decode cc pc = .ok (.invokestatic index, 3))
    (hfr : R'.frames + 1 ≤ R.frames) (hlo : 8 + (maxL + 11) + R'.locals ≤ R.locals) (hce : cells + R'.cells ≤ R.cells) (hsl : slots + R'.slots ≤ R.slots) (hcal : am_Callee p l e R' y bytes maxL ret [] s H argsL.toArray Qc mc ms free)
    (kk : ∀ (o : Outcome) (H1 : Heap) (vm1 : Vm) (L : List Loc), (∀ q ∈ L, free q.base) → Qc o H1 vm1 → s.WarmedH vm1 → am_next p l e R s m args below meth c H1 (locs ++ L) (cells + mc) (slots + ms) Q pc ls rest o) : W p l e R s m args below meth c H locs cells slots Q (F0 m pc ls (argsL.reverse ++ rest)) := by
  refine am_called hb hml hsize hdg hW hpf (fun T hT X => ?_) hfr hlo hce hsl hcal kk
  obtain ⟨mk, methM, ck, hI⟩ := am_Is.of hcode
  obtain ⟨hnamed, hmethM, hr2⟩ := id hI
  obtain ⟨methM', cM, hmethM', -, -, -, -, -, -, hsigM⟩ := Cond.code_spec hnamed hcode
  cases hmethM.symm.trans hmethM'
  have hstatic : methM.isStatic = true := Cond.static_spec hnamed hmethM hstat
  obtain ⟨kP, hkP, -⟩ := className_of_methodNamed hnamed
  have hinitP : kP.init = .initialized := Cond.initialized_spec (findClass_of_methodNamed hnamed) hkP hinit
  obtain ⟨vm₁, X₁, hstep₁⟩ := X.invokestatic hx hown hlink hnamed hmethM hstatic hkP hinitP hy (g := F0 m pc ls (argsL.reverse ++ rest)) rfl (argsL := argsL) (rest := rest) (hlen _ hsigM) rfl (by rw [hb]; exact hdg)
  exact ⟨vm₁, mk, methM, ck, X₁, hI.warm X₁.warmed, hstep₁⟩
theorem am_callSN {host : String} (hx : p.tables.exec = Jvm.exec) (hb : c.code = cc) (hml : c.maxLocals = nL) (hsize : ls.size = nL) (hown : s.vm.findClass own = some m.cls) (hy : y.cls ≠ "java/lang/invoke/MethodHandle" ∧ y.cls ≠ "java/lang/invoke/VarHandle") (hpf : plainFor y = true) (hlen : ∀ sig, parseMethodDescriptor y.desc = some sig → argsL.length = sig.parameters.length) (hW : (rest.map fun v => v.category).sum ≤ 8) (hlink : (Cond.methodLinkNest own index y host).before args s = true) (hstat : (Cond.static y).before args s = true) (hinit : (Cond.initialized y.cls).before args s = true) (hcode : (Cond.code y bytes maxL ret).before args s = true)
    (hdg : decode cc pc = .ok (.invokestatic index, 3))
    (hfr : R'.frames + 1 ≤ R.frames) (hlo : 8 + (maxL + 11) + R'.locals ≤ R.locals) (hce : cells + R'.cells ≤ R.cells) (hsl : slots + R'.slots ≤ R.slots) (hcal : am_Callee p l e R' y bytes maxL ret [] s H argsL.toArray Qc mc ms free)
    (kk : ∀ (o : Outcome) (H1 : Heap) (vm1 : Vm) (L : List Loc), (∀ q ∈ L, free q.base) → Qc o H1 vm1 → s.WarmedH vm1 → am_next p l e R s m args below meth c H1 (locs ++ L) (cells + mc) (slots + ms) Q pc ls rest o) : W p l e R s m args below meth c H locs cells slots Q (F0 m pc ls (argsL.reverse ++ rest)) := by
  refine am_called hb hml hsize hdg hW hpf (fun T hT X => ?_) hfr hlo hce hsl hcal kk
  obtain ⟨mk, methM, ck, hI⟩ := am_Is.of hcode
  obtain ⟨hnamed, hmethM, hr2⟩ := id hI
  obtain ⟨methM', cM, hmethM', -, -, -, -, -, -, hsigM⟩ := Cond.code_spec hnamed hcode
  cases hmethM.symm.trans hmethM'
  have hstatic : methM.isStatic = true := Cond.static_spec hnamed hmethM hstat
  obtain ⟨kP, hkP, -⟩ := className_of_methodNamed hnamed
  have hinitP : kP.init = .initialized := Cond.initialized_spec (findClass_of_methodNamed hnamed) hkP hinit
  obtain ⟨vm₁, X₁, hstep₁⟩ := X.invokestaticNest hx hown hlink hnamed hmethM hstatic hkP hinitP hy (g := F0 m pc ls (argsL.reverse ++ rest)) rfl (argsL := argsL) (rest := rest) (hlen _ hsigM) rfl (by rw [hb]; exact hdg)
  exact ⟨vm₁, mk, methM, ck, X₁, hI.warm X₁.warmed, hstep₁⟩
theorem am_callSH (hx : p.tables.exec = Jvm.exec) (hb : c.code = cc) (hml : c.maxLocals = nL) (hsize : ls.size = nL) (hown : s.vm.findClass own = some m.cls) (hy : y.cls ≠ "java/lang/invoke/MethodHandle" ∧ y.cls ≠ "java/lang/invoke/VarHandle") (hpf : plainFor y = true) (hlen : ∀ sig, parseMethodDescriptor y.desc = some sig → argsL.length = sig.parameters.length) (hW : (rest.map fun v => v.category).sum ≤ 8) (hlink : (Cond.methodLink own index y).before args s = true) (hstat : (Cond.static y).before args s = true) (hinit : (Cond.initialized y.cls).before args s = true) (hcode : (Cond.codeWith y bytes maxL ret hh).before args s = true)
    (hdg : decode cc pc = .ok (.invokestatic index, 3))
    (hfr : R'.frames + 1 ≤ R.frames) (hlo : 8 + (maxL + 11) + R'.locals ≤ R.locals) (hce : cells + R'.cells ≤ R.cells) (hsl : slots + R'.slots ≤ R.slots) (hcal : am_Callee p l e R' y bytes maxL ret hh s H argsL.toArray Qc mc ms free)
    (kk : ∀ (o : Outcome) (H1 : Heap) (vm1 : Vm) (L : List Loc), (∀ q ∈ L, free q.base) → Qc o H1 vm1 → s.WarmedH vm1 → am_next p l e R s m args below meth c H1 (locs ++ L) (cells + mc) (slots + ms) Q pc ls rest o) : W p l e R s m args below meth c H locs cells slots Q (F0 m pc ls (argsL.reverse ++ rest)) := by
  refine am_called hb hml hsize hdg hW hpf (fun T hT X => ?_) hfr hlo hce hsl hcal kk
  obtain ⟨mk, methM, ck, hI⟩ := am_Is.ofH hcode
  obtain ⟨hnamed, hmethM, hr2⟩ := id hI
  obtain ⟨_, _, _, hnW, hmW, -, -, -, -, -, -, hsigM⟩ := Cond.codeWith_spec hcode
  cases hnamed.symm.trans hnW
  cases hmethM.symm.trans hmW
  have hstatic : methM.isStatic = true := Cond.static_spec hnamed hmethM hstat
  obtain ⟨kP, hkP, -⟩ := className_of_methodNamed hnamed
  have hinitP : kP.init = .initialized := Cond.initialized_spec (findClass_of_methodNamed hnamed) hkP hinit
  obtain ⟨vm₁, X₁, hstep₁⟩ := X.invokestatic hx hown hlink hnamed hmethM hstatic hkP hinitP hy (g := F0 m pc ls (argsL.reverse ++ rest)) rfl (argsL := argsL) (rest := rest) (hlen _ hsigM) rfl (by rw [hb]; exact hdg)
  exact ⟨vm₁, mk, methM, ck, X₁, hI.warm X₁.warmed, hstep₁⟩
theorem am_callI (hx : p.tables.exec = Jvm.exec) (hb : c.code = cc) (hml : c.maxLocals = nL) (hsize : ls.size = nL) (hown : s.vm.findClass own = some m.cls) (hy : y.cls ≠ "java/lang/invoke/MethodHandle" ∧ y.cls ≠ "java/lang/invoke/VarHandle") (hpf : plainFor y = true) (hlen : ∀ sig, parseMethodDescriptor y.desc = some sig → argsL.length = sig.parameters.length) (hW : (rest.map fun v => v.category).sum ≤ 8) (hy1 : y.name = "<init>") (hlink : (Cond.methodLink own index y).before args s = true) (hinst : (Cond.instanceMethod y).before args s = true) (hcode : (Cond.code y bytes maxL none).before args s = true)
    (hdg : decode cc pc = .ok (.invokespecial index, 3))
    (hfr : R'.frames + 1 ≤ R.frames) (hlo : 8 + (maxL + 11) + R'.locals ≤ R.locals) (hce : cells + R'.cells ≤ R.cells) (hsl : slots + R'.slots ≤ R.slots) (hcal : am_Callee p l e R' y bytes maxL none [] s H (Value.ref b :: argsL).toArray Qc mc ms free)
    (kk : ∀ (o : Outcome) (H1 : Heap) (vm1 : Vm) (L : List Loc), (∀ q ∈ L, free q.base) → Qc o H1 vm1 → s.WarmedH vm1 → am_next p l e R s m args below meth c H1 (locs ++ L) (cells + mc) (slots + ms) Q pc ls rest o) : W p l e R s m args below meth c H locs cells slots Q (F0 m pc ls (argsL.reverse ++ .ref b :: rest)) := by
  refine am_called hb hml hsize hdg hW hpf (fun T hT X => ?_) hfr hlo hce hsl hcal kk
  have hpl : e.platform.magicAccessors = ({} : Platform).magicAccessors := by rw [X.admits.platform]
  obtain ⟨mk', methk, ck, hI⟩ := am_Is.of hcode
  obtain ⟨hn2, hm2, hr2⟩ := id hI
  obtain ⟨mk, methM, cM, kP, vm₁, hnamed, hmethM, hcodeM, -, hlocalsM, -, hkP, -, hW₁, hstep₁⟩ := Steps.initColdArgs (e := e) X.here hx X.warmed hpl hown hy1 hy hlink hinst hcode (f := F0 m pc ls (argsL.reverse ++ .ref b :: rest)) rfl hlen rfl (by rw [hb]; exact hdg)
  cases hnamed.symm.trans hn2
  exact ⟨vm₁, _, methk, ck, X.noted hW₁, hI.warm (X.noted hW₁).warmed, hstep₁⟩
theorem am_callIN {host : String} (hx : p.tables.exec = Jvm.exec) (hb : c.code = cc) (hml : c.maxLocals = nL) (hsize : ls.size = nL) (hown : s.vm.findClass own = some m.cls) (hy : y.cls ≠ "java/lang/invoke/MethodHandle" ∧ y.cls ≠ "java/lang/invoke/VarHandle") (hpf : plainFor y = true) (hlen : ∀ sig, parseMethodDescriptor y.desc = some sig → argsL.length = sig.parameters.length) (hW : (rest.map fun v => v.category).sum ≤ 8) (hy1 : y.name = "<init>") (hlink : (Cond.methodLinkNest own index y host).before args s = true) (hinst : (Cond.instanceMethod y).before args s = true) (hcode : (Cond.code y bytes maxL none).before args s = true)
    (hdg : decode cc pc = .ok (.invokespecial index, 3))
    (hfr : R'.frames + 1 ≤ R.frames) (hlo : 8 + (maxL + 11) + R'.locals ≤ R.locals) (hce : cells + R'.cells ≤ R.cells) (hsl : slots + R'.slots ≤ R.slots) (hcal : am_Callee p l e R' y bytes maxL none [] s H (Value.ref b :: argsL).toArray Qc mc ms free)
    (kk : ∀ (o : Outcome) (H1 : Heap) (vm1 : Vm) (L : List Loc), (∀ q ∈ L, free q.base) → Qc o H1 vm1 → s.WarmedH vm1 → am_next p l e R s m args below meth c H1 (locs ++ L) (cells + mc) (slots + ms) Q pc ls rest o) : W p l e R s m args below meth c H locs cells slots Q (F0 m pc ls (argsL.reverse ++ .ref b :: rest)) := by
  refine am_called hb hml hsize hdg hW hpf (fun T hT X => ?_) hfr hlo hce hsl hcal kk
  have hpl : e.platform.magicAccessors = ({} : Platform).magicAccessors := by rw [X.admits.platform]
  obtain ⟨mk', methk, ck, hI⟩ := am_Is.of hcode
  obtain ⟨hn2, hm2, hr2⟩ := id hI
  obtain ⟨mk, methM, cM, kP, vm₁, hnamed, hmethM, hcodeM, -, hlocalsM, -, hkP, -, hW₁, hstep₁⟩ := Steps.initColdArgsNest (e := e) X.here hx X.warmed hpl hown hy1 hy hlink hinst hcode (f := F0 m pc ls (argsL.reverse ++ .ref b :: rest)) rfl hlen rfl (by rw [hb]; exact hdg)
  cases hnamed.symm.trans hn2
  exact ⟨vm₁, _, methk, ck, X.noted hW₁, hI.warm (X.noted hW₁).warmed, hstep₁⟩
end AMC
end
section
/-! ===== THE PURE MACHINE, part 9: words of the tables are carried to every state of the run ===== -/
/-- words that are carried where the tables only warm -/
def am_carry (w : Cond) : Bool := match w with
  | .methodLinkNest _ _ _ _ => true
  | .declares _ => true
  | .castable _ _ => true
  | .arrayOver (.object _) => true
  | .stringRef _ _ _ => true
  | w => goodWord w
theorem am_carried {w : Cond} {a a' : Array Value} {s U : State} (hc : am_carry w = true) (hW : s.WarmedH U.vm) (h : w.before a s = true) : w.before a' U = true := by
  have good : goodWord w = true → w.before a' U = true := fun hg => word_at hW (good_of_word hg) h
  unfold am_carry at hc
  split at hc
  · exact (va_Nw.of rfl h).warmM hW |>.use rfl
  · exact (va_Nw.of rfl h).warmD hW |>.use rfl
  · exact (va_Nw.of rfl h).warmC hW |>.use rfl
  · exact (va_AO.of (U := U) (A := #[]) ((va_AO.of h).moved hW.alike)).use
  · rename_i own k tx
    have hcur : ∃ cur, s.vm.findClass own = some cur := by
      have h1 := h
      simp only [Cond.before, Cond.holds, Cond.value] at h1
      cases hq : s.vm.findClass own with
      | none => simp [hq] at h1
      | some cur => exact ⟨cur, rfl⟩
    obtain ⟨cur, hcur⟩ := hcur
    obtain ⟨-, -, -, sa, -, -, -, -, -, hev⟩ := Cond.stringRef_spec hcur h
    exact ((vk_R.of h hev).warm hW).1
  · exact good hc
/-- a static of the JDK's that holds a reference or null, outside what the run changes -/
def am_LS (C n d : String) (A : Nat → Prop) (U : State) (H : Heap) : Prop :=
  ∃ (c : ClassId) (k : Class) (i : Nat) (f : Field) (a : Nat) (cell : Cell) (v : Value), U.vm.findClass C = some c ∧ U.fieldFound? C n d = some (c, k, i, f) ∧ f.isStatic = true ∧ k.statics = some a ∧ H[a]? = some cell ∧ cell.vm.isStatics = true ∧ cell.cls = c ∧ f.slot < cell.slots.size ∧ k.staticTypes[f.slot]? = some f.type ∧ cell.slots[f.slot]? = some v ∧ v.isRef = true ∧ ¬ A a
theorem am_LS.kept {C n d : String} {A : Nat → Prop} {U : State} {H H1 : Heap} (h : am_LS C n d A U H) (hq : ∀ a : Nat, a < H.size → ¬ A a → H1[a]? = H[a]?) : am_LS C n d A U H1 := by
  obtain ⟨c, k, i, f, a, cell, v, h1, h2, h3, h4, h5, h6, h7, h8, h9, h10, h11, h12⟩ := h
  exact ⟨c, k, i, f, a, cell, v, h1, h2, h3, h4, by rw [hq a (Array.getElem?_eq_some_iff.mp h5).1 h12]; exact h5, h6, h7, h8, h9, h10, h11, h12⟩
theorem am_LS.lays {C n d : String} {A : Nat → Prop} {U : State} {args : Array Value} (h : am_LS C n d A U U.heap) : (Cond.laysStatic C n d).before args U = true := by
  obtain ⟨c, k, i, f, a, cell, v, h1, h2, h3, h4, h5, h6, h7, h8, h9, h10, h11, h12⟩ := h
  simp [Cond.before, Cond.holds, Cond.value, h1, h2, h3, h4, h5, h6, h7, h8, h9]
theorem am_LS.isRef {C n d : String} {A : Nat → Prop} {U : State} {args : Array Value} (h : am_LS C n d A U U.heap) : (Cond.isRef (.static C n d)).before args U = true := by
  obtain ⟨c, k, i, f, a, cell, v, h1, h2, h3, h4, h5, h6, h7, h8, h9, h10, h11, h12⟩ := h
  have hv : (Term.static C n d).eval args U none [] U = some v := by
    simp [Term.eval, State.fieldNamed?, h2, h3, h4, h5, h6, h10]
  cases v <;> simp [Value.isRef] at h11 <;> simp [Cond.before, Cond.holds, Cond.value, hv]
theorem am_LS.moved {C n d : String} {A : Nat → Prop} {u U : State} {H : Heap} (hvm : u.vm.Alike U.vm) (h : am_LS C n d A u H) : am_LS C n d A U H := by
  obtain ⟨c, k, i, f, a, cell, v, h1, h2, h3, h4, h5, h6, h7, h8, h9, h10⟩ := h
  obtain ⟨k', hi', he⟩ := State.fieldFound?_setVm hvm h2
  exact ⟨c, k', i, f, a, cell, v, by rw [hvm.findClass]; exact h1, hi', h3, by rw [he]; exact h4, h5, h6, h7, h8, by rw [he]; exact h9, h10⟩
end
section
/-! ===== THE PURE MACHINE, part 10: throw new E("text") ===== -/
section AMX
variable {p : Program} {l : Launch} {e : Env} {R : Room} {s : State} {m : MethodId} {args : Array Value} {below : List Frame} {meth : Method} {c : Code} {T : State} {locs : List Loc} {cells slots : Nat}
/-- the state of the start with the heap of now -/
def am_now (s T : State) : State := { s with heap := T.heap, slotsUsed := T.slotsUsed }
theorem am_rebase (X : Stand p l e R s m args below meth c T locs cells slots) {R' : Room} (hf : R'.frames ≤ R.frames) (hl : R'.locals ≤ R.locals) (hc : cells + R'.cells ≤ R.cells) (hs : slots + R'.slots ≤ R.slots) :
    Stand p l e R' (am_now s T) m args below meth c T [] 0 0 := by
  refine ⟨X.admits, X.cas, X.clock, X.frames, ?_, X.hears, X.method, X.code, X.here, X.tail, X.warmed, X.limits, X.bytes, ?_⟩
  · have h := X.room
    have h1 := X.heapSize
    have h2 := X.used
    have h3 : (am_now s T).slotsTrue = true := X.book
    simp only [State.hasRoom, Bool.and_eq_true, decide_eq_true_eq] at h ⊢
    have e1 : (am_now s T).localsInUse = s.localsInUse := rfl
    have e2 : (am_now s T).frames = s.frames := rfl
    have e3 : (am_now s T).me = s.me := rfl
    have e4 : (am_now s T).heap.size = T.heap.size := rfl
    have e5 : (am_now s T).slotsUsed = T.slotsUsed := rfl
    rw [e1, e2, e3, e4, e5]
    exact ⟨⟨⟨⟨by omega, by omega, by omega, by omega, by omega, h.1.1.1.2.2.2.2.2⟩, by omega⟩, by omega⟩, h3⟩
  · refine ⟨?_, Nat.le_refl _, Nat.le_refl _, ?_, ?_, ?_⟩
    · have h := X.same.1
      exact h
    · show T.slotsUsed = T.slotsUsed + ((T.heap.toList.drop T.heap.size).map (·.slots.size)).sum
      rw [List.drop_of_length_le (by simp)]
      rfl
    · show ((T.heap.toList.drop T.heap.size).map (·.slots.size)).sum ≤ 0
      rw [List.drop_of_length_le (by simp)]
      exact Nat.le_refl 0
    · intro a cell hcell
      exact ⟨cell, hcell, rfl, rfl, fun _ _ => rfl⟩
theorem am_now_same (X : Stand p l e R s m args below meth c T locs cells slots) {U : State} {k n : Nat} (h : (am_now s T).sameButNew ({ U with vm := s.vm } : State) [] k n) : s.sameButNew ({ U with vm := s.vm } : State) locs (cells + k) (slots + n) := by
  have h2 : (T.setVm s.vm).sameButNew ({ U with vm := s.vm } : State) [] k n := by
    obtain ⟨e1, r⟩ := h
    refine ⟨?_, r⟩
    have hs : T.setVm s.vm = { s.setFrames T.frames with heap := T.heap, slotsUsed := T.slotsUsed } := X.same.1
    have hF : ∀ F : List Frame, (T.setVm s.vm).setFrames F = { s.setFrames F with heap := T.heap, slotsUsed := T.slotsUsed } := fun F => by
      rw [hs]
      show ({ (s.setFrames T.frames).setFrames F with heap := T.heap, slotsUsed := T.slotsUsed } : State) = _
      rw [State.setFrames_setFrames]
    rw [hF]
    exact e1
  have h3 := X.same.trans h2
  rw [List.append_nil] at h3
  exact h3
/-- cells that were there stay as they were -/
theorem am_now_kept {U : State} {k n : Nat} (h : (am_now s T).sameButNew ({ U with vm := s.vm } : State) [] k n) {q : Nat} (hq : q < T.heap.size) : U.heap[q]? = T.heap[q]? := by
  obtain ⟨-, -, -, -, -, h6⟩ := h
  obtain ⟨cell, hcell⟩ : ∃ cell, T.heap[q]? = some cell := ⟨_, Array.getElem?_eq_getElem hq⟩
  obtain ⟨c', hc', he, hz, hi⟩ := h6 q cell hcell
  have hsl : c'.slots = cell.slots := Array.ext_getElem? fun i => hi i (fun z => nomatch z)
  rw [hcell]
  have hc2 : U.heap[q]? = some c' := hc'
  rw [hc2, he, hsl]
variable {H : Heap} {cc : ByteArray} {pc : Nat} {ls : Array Slot} {st : List Value}
theorem am_ldcwS {Q : State → Prop} {rest : List Value} (hx : p.tables.exec = Jvm.exec) (hb : c.code = cc) {own tx : String} {index q : Nat} (hown : s.vm.findClass own = some m.cls) (hZ : vk_R own index tx q s) (hdg : decode cc pc = .ok (.ldc_w index, 3))
    (kk : W p l e R s m args below meth c H locs cells slots Q (F0 m (pc + 3) ls (.ref q :: rest))) : W p l e R s m args below meth c H locs cells slots Q (F0 m pc ls rest) := by
  intro T hT X
  obtain ⟨t, a1, b1⟩ := kk T hT X
  refine ⟨t, ?_, b1⟩
  obtain ⟨k, cf, i, a', hk, hcf, hcp, -, hr, hev'⟩ := Cond.stringRef_spec hown hZ.1
  cases hZ.2.symm.trans hev'
  obtain ⟨k', hk', he⟩ := X.warmed.alike.2.2 _ _ hk
  have hr' : k'.resolved[index]? = some (some (.string q)) := by
    rcases X.warmed.entry hk hk' index with h | ⟨h, -⟩
    · rw [h]; exact hr
    · rw [h] at hr; cases hr
  jvm_step X.here [hx, hb, hdg, ldc_w.wp_string (e := e) (s := T) (f := F0 m pc ls rest) X.here.top hk' (by rw [he]; exact hcf) hcp hr']
  exact a1
set_option maxHeartbeats 1000000 in
theorem am_throw0 (hx : p.tables.exec = Jvm.exec) (hb : c.code = cc) (htr : l.stackTraces = false) (hlocks : meth.locks = false) {own cls text : String} {names : List String} {ik is ic sa : Nat}
    (d0 : decode cc pc = .ok (.new ik, 3)) (d3 : decode cc (pc + 3) = .ok (.dup, 1)) {kx : Nat} (d4 : (decode cc (pc + 4) = .ok (.ldc is, 2) ∧ kx = 2) ∨ (decode cc (pc + 4) = .ok (.ldc_w is, 3) ∧ kx = 3)) (d6 : decode cc (pc + 4 + kx) = .ok (.invokespecial ic, 3)) (d9 : decode cc (pc + 4 + kx + 3) = .ok (.athrow, 1)) (hout : ∀ x ∈ c.exceptionTable.toList, covers x (pc + 4 + kx + 3) = false)
    (hown : s.vm.findClass own = some m.cls) (hcls : Bundle.fit cls = true) (hnames : ∀ n ∈ names, Bundle.fit n = true) (hat : ∀ w ∈ Bundle.ownAtoms own ic cls names, w.before args s = true)
    (hcl : (Cond.classLink own ik cls).before args s = true) (hini : (Cond.initialized cls).before args s = true) (hZ : vk_R own is text sa s)
    (hsz : H.size = s.heap.size) (hml : ls.size = c.maxLocals) (hst : (st.map fun v => v.category).sum ≤ 8)
    (hRf : names.length + 3 < R.frames) (hRl : 13 * (names.length + 1) + 51 ≤ R.locals) (hRc : 1 ≤ R.cells) (hRs : 6 ≤ R.slots) :
    W p l e R s m args below meth c H [] 0 0 (fun U => U.status = .running ∧ ∃ x : Addr, Ended U below (.threw x) ∧ s.WarmedH U.vm ∧ s.sameButNew ({ U with vm := s.vm } : State) [] 1 6 ∧ s.heap.size ≤ x ∧ ∃ ce : Cell, U.heap[x]? = some ce ∧ ce.vm = .none ∧ s.vm.findClass cls = some ce.cls) (F0 m pc ls st) := by
  have hinst := hat (.instantiable cls 6) (by simp [Bundle.ownAtoms])
  obtain ⟨cX, kX, hfX, hkX, -, -, -, hn6⟩ := Cond.instantiable_spec hinst
  refine W.newcK hx hb hown hcl hinst hini rfl d0 (by omega) (by omega) hfX rfl fun H1 kC hkC e1 z1 o1 => ?_
  refine lv_dup hx hb d3 rfl ?_
  have go : ∀ {Q : State → Prop} {st2 : List Value}, W p l e R s m args below meth c H1 [] (0 + 1) (0 + 6) Q (F0 m (pc + 4 + kx) ls (.ref sa :: st2)) → W p l e R s m args below meth c H1 [] (0 + 1) (0 + 6) Q (F0 m (pc + 4) ls st2) := fun k => by
    rcases d4 with ⟨d4, rfl⟩ | ⟨d4, rfl⟩
    · exact va_ldcS hx hb hown hZ d4 k
    · exact am_ldcwS hx hb hown hZ d4 k
  refine go ?_
  intro T1 hT1 X1
  obtain ⟨U, hsteps, hrun, hend, hW, hsame, ce, hce, K⟩ := X1.ctorThrowS hx (by rw [X1.admits.platform]; exact htr) (own := own) (cls := cls) (names := names) (ic := ic) hown hcls hnames hat (fun y hy => nomatch hy) hfX hkC (a := H.size) (by rw [hT1]; exact e1) (by rw [hsz]; exact Nat.le_refl _) (msg := .ref sa) rfl
    (g := F0 m (pc + 4 + kx) ls (.ref sa :: .ref H.size :: .ref H.size :: st)) rfl hml rfl rfl (rest := st) rfl (by rw [hb]; exact d6) (by rw [hb]; exact d9) hout hRf (by
      show 2 * 0 + ((Value.ref H.size :: st).map fun v => v.category).sum + (13 * (names.length + 1) + 42) ≤ R.locals
      rw [List.map_cons, List.sum_cons]
      have : (Value.ref H.size).category = 1 := rfl
      omega) hlocks
  exact ⟨U, hsteps, hrun, H.size, hend, hW, hsame, by rw [hsz]; exact Nat.le_refl _, ce, hce, K.vm, K.cls⟩
/-- the words of a throw: carried by the tables, but for the two statics of Throwable -/
def am_xw (w : Cond) : Prop := am_carry w = true ∨ w = .isRef (.static Bundle.tN "UNASSIGNED_STACK" Bundle.steD) ∨ w = .isRef (.static Bundle.tN "SUPPRESSED_SENTINEL" Bundle.listD) ∨ w = .laysStatic Bundle.tN "UNASSIGNED_STACK" Bundle.steD ∨ w = .laysStatic Bundle.tN "SUPPRESSED_SENTINEL" Bundle.listD
theorem am_throwS {A : Nat → Prop} {H0 : Heap} {Qc : Outcome → Heap → Vm → Prop} {free : Addr → Prop} (hx : p.tables.exec = Jvm.exec) (hb : c.code = cc) (htr : l.stackTraces = false) (hlocks : meth.locks = false) {own cls text : String} {names : List String} {ik is ic sa : Nat}
    (d0 : decode cc pc = .ok (.new ik, 3)) (d3 : decode cc (pc + 3) = .ok (.dup, 1)) {kx : Nat} (d4 : (decode cc (pc + 4) = .ok (.ldc is, 2) ∧ kx = 2) ∨ (decode cc (pc + 4) = .ok (.ldc_w is, 3) ∧ kx = 3)) (d6 : decode cc (pc + 4 + kx) = .ok (.invokespecial ic, 3)) (d9 : decode cc (pc + 4 + kx + 3) = .ok (.athrow, 1)) (hout : ∀ x ∈ c.exceptionTable.toList, covers x (pc + 4 + kx + 3) = false)
    (hown : s.vm.findClass own = some m.cls) (hcls : Bundle.fit cls = true) (hnames : ∀ n ∈ names, Bundle.fit n = true) (hsplit : ∀ w ∈ Bundle.ownAtoms own ic cls names, am_xw w) (hat : ∀ w ∈ Bundle.ownAtoms own ic cls names, am_carry w = true → w.before args s = true)
    (hcl : (Cond.classLink own ik cls).before args s = true) (hini : (Cond.initialized cls).before args s = true) (hZ : vk_R own is text sa s)
    (hU : am_LS Bundle.tN "UNASSIGNED_STACK" Bundle.steD A s H0) (hV : am_LS Bundle.tN "SUPPRESSED_SENTINEL" Bundle.listD A s H0) (hS : va_S A H0 H locs)
    (hml : ls.size = c.maxLocals) (hst : (st.map fun v => v.category).sum ≤ 8)
    (hRf : names.length + 3 < R.frames) (hRl : 13 * (names.length + 1) + 51 ≤ R.locals) (hRc : cells + 1 ≤ R.cells) (hRs : slots + 6 ≤ R.slots)
    (hf : ∀ q ∈ locs, free q.base)
    (hq : ∀ (x : Addr) (H1 : Heap) (vm1 : Vm) (ce : Cell), s.WarmedH vm1 → (∀ q, q < H.size → H1[q]? = H[q]?) → H.size ≤ H1.size → H.size ≤ x → H1[x]? = some ce → ce.vm = .none → s.vm.findClass cls = some ce.cls → Qc (.threw x) H1 vm1) :
    W p l e R s m args below meth c H locs cells slots (am_MQ below Qc s (cells + 1) (slots + 6) free) (F0 m pc ls st) := by
  intro T hT X
  have Y := am_rebase X (R' := { frames := R.frames, cells := 1, slots := 6, locals := R.locals }) (Nat.le_refl _) (Nat.le_refl _) hRc hRs
  have hcar : ∀ w : Cond, am_carry w = true → w.before args s = true → w.before args (am_now s T) = true := fun w hc h => am_carried hc (show s.WarmedH (am_now s T).vm from State.WarmedH.refl s) h
  have hU' : am_LS Bundle.tN "UNASSIGNED_STACK" Bundle.steD A (am_now s T) (am_now s T).heap := am_LS.moved (u := s) (U := am_now s T) (Vm.Alike.refl s.vm) (hU.kept (fun a h1 h2 => by show T.heap[a]? = _; rw [hT]; exact hS.2.1 a h1 h2))
  have hV' : am_LS Bundle.tN "SUPPRESSED_SENTINEL" Bundle.listD A (am_now s T) (am_now s T).heap := am_LS.moved (u := s) (U := am_now s T) (Vm.Alike.refl s.vm) (hV.kept (fun a h1 h2 => by show T.heap[a]? = _; rw [hT]; exact hS.2.1 a h1 h2))
  have hat' : ∀ w ∈ Bundle.ownAtoms own ic cls names, w.before args (am_now s T) = true := fun w hw => by
    rcases hsplit w hw with h | rfl | rfl | rfl | rfl
    · exact hcar w h (hat w hw h)
    · exact hU'.isRef
    · exact hV'.isRef
    · exact hU'.lays
    · exact hV'.lays
  obtain ⟨U, hsteps, hrun, x, hend, hW, hsame, hxz, ce, hce, hcv, hcc⟩ := am_throw0 (s := am_now s T) (H := H) (R := { frames := R.frames, cells := 1, slots := 6, locals := R.locals }) hx hb htr hlocks d0 d3 d4 d6 d9 hout hown hcls hnames hat' (hcar _ rfl hcl) (hcar _ rfl hini) (hZ.same rfl) (by rw [← hT]; rfl) hml hst hRf hRl (Nat.le_refl 1) (Nat.le_refl 6) T hT Y
  have hkeep : ∀ q, q < H.size → U.heap[q]? = H[q]? := fun q hlt => by
    rw [← hT] at hlt ⊢
    exact am_now_kept hsame hlt
  have hsz : H.size ≤ U.heap.size := by
    have := hsame.2.1
    rw [← hT]
    exact this
  have hxs : H.size ≤ x := by rw [← hT]; exact hxz
  exact ⟨U, hsteps, .threw x, hrun, hend, hq x U.heap U.vm ce hW hkeep hsz hxs hce hcv hcc, locs, hW, am_now_same X hsame, hf⟩
end AMX
end
section
/-! ===== THE PURE MACHINE, part 11: a throw leaves a method, or finds its row ===== -/
section AMK
variable {e : Env} {f : JFrame} {a : Addr} {cell : Cell} {s₀ : State}
/-- one row of the search: its class is resolved on the way; the row takes the object, or the search goes on -/
theorem am_row {Q : Handler → Pre} {E : CtlPost} {d : Bool} {acts : List Action} {S : State} {x : ExceptionTableEntry} {t : List ExceptionTableEntry} {c : ClassId} (hx : covers x f.pc = true) (h0 : x.catchType ≠ 0)
    (hl : S.vm.ClassLinks e.platform f.method.cls x.catchType c) (hcell : S.heap[a]? = some cell) (hobj : ∀ k, cell.vm ≠ .statics k) (hk : ∃ k, S.vm.classes[cell.cls]? = some k) (hc : ∃ k, S.vm.classes[c]? = some k) (b : Bool) (hfit : S.vm.assignable cell.cls c = b) :
    wp (findHandler.go f a (x :: t)) Q E e d acts S ↔ @ite _ (b = true) (instDecidableEqBool b true) (Q (.found x.handlerPc) d acts (S.setVm (S.vm.noted f.method.cls x.catchType (.cls c)))) (wp (findHandler.go f a t) Q E e d acts (S.setVm (S.vm.noted f.method.cls x.catchType (.cls c)))) := by
  simp only [covers] at hx
  obtain ⟨g1, g2⟩ := (resolveClass_links e.toSetting hl).op (op := VmOp.resolveClass f.method.cls x.catchType) rfl
  have hal : S.vm.Alike (S.vm.noted f.method.cls x.catchType (.cls c)) := (Vm.Alike.refl S.vm).noted _ _ _
  obtain ⟨k1, hk1⟩ := hk
  obtain ⟨k2, hk2⟩ := hc
  obtain ⟨j1, hj1, -⟩ := hal.2.2 _ _ hk1
  obtain ⟨j2, hj2, -⟩ := hal.2.2 _ _ hk2
  have hfit2 : (S.vm.noted f.method.cls x.catchType (.cls c)).assignable cell.cls c = b := by rw [hal.assignable]; exact hfit
  cases b <;> simp [findHandler.go, hx, h0, g1, g2, hcell, hobj, hj1, hj2, hfit2, VmOp.dirties, VmOp.acts]
/-- a row, by its class: covers the place, and takes the object or not -/
def am_rowIs (pl : Platform) (s₀ : State) (d : ClassId) (pc : Nat) (thrown : ClassId) (b : Bool) (y : ExceptionTableEntry) : Prop := covers y pc = true ∧ y.catchType ≠ 0 ∧ ∃ c, s₀.vm.ClassLinks pl d y.catchType c ∧ s₀.vm.assignable thrown c = b
theorem am_search (hobj : ∀ k, cell.vm ≠ .statics k) (hk0 : ∃ k, s₀.vm.classes[cell.cls]? = some k) (x : ExceptionTableEntry) (suf : List ExceptionTableEntry) (hx : am_rowIs e.platform s₀ f.method.cls f.pc cell.cls true x) :
    ∀ (pre : List ExceptionTableEntry) (S : State), s₀.WarmedH S.vm → S.heap[a]? = some cell → (∀ y ∈ pre, am_rowIs e.platform s₀ f.method.cls f.pc cell.cls false y) →
      ∃ vm', s₀.WarmedH vm' ∧ ∀ (Q : Handler → Pre) (E : CtlPost) (d : Bool) (acts : List Action), wp (findHandler.go f a (pre ++ x :: suf)) Q E e d acts S ↔ Q (.found x.handlerPc) d acts (S.setVm vm') := by
  have one : ∀ {b : Bool} {y : ExceptionTableEntry} {S : State}, am_rowIs e.platform s₀ f.method.cls f.pc cell.cls b y → s₀.WarmedH S.vm → S.heap[a]? = some cell → ∃ c, s₀.WarmedH (S.vm.noted f.method.cls y.catchType (.cls c)) ∧ ∀ (t : List ExceptionTableEntry) (Q : Handler → Pre) (E : CtlPost) (d : Bool) (acts : List Action), wp (findHandler.go f a (y :: t)) Q E e d acts S ↔ @ite _ (b = true) (instDecidableEqBool b true) (Q (.found y.handlerPc) d acts (S.setVm (S.vm.noted f.method.cls y.catchType (.cls c)))) (wp (findHandler.go f a t) Q E e d acts (S.setVm (S.vm.noted f.method.cls y.catchType (.cls c)))) := by
    intro b y S hy hW hcell
    obtain ⟨hcov, h0, c, hl, hfit⟩ := hy
    obtain ⟨k0, hk0⟩ := hk0
    obtain ⟨j0, hj0, -⟩ := hW.alike.2.2 _ _ hk0
    obtain ⟨dk, _, _, kt, hd, _, _, _, _, hkt, _, hopen⟩ := hl.here
    obtain ⟨jt, hjt, -⟩ := hW.alike.2.2 _ _ hkt
    exact ⟨c, hW.noted hd hopen (State.rightAt_cls hl), fun t Q E d acts => am_row hcov h0 (hW.classLinks hl) hcell hobj ⟨j0, hj0⟩ ⟨jt, hjt⟩ b (by rw [hW.alike.assignable]; exact hfit)⟩
  intro pre
  induction pre with
  | nil =>
    intro S hW hcell _
    obtain ⟨c, hW', hq⟩ := one hx hW hcell
    exact ⟨_, hW', fun Q E d acts => by have h := hq suf Q E d acts; simpa using h⟩
  | cons y ys ih =>
    intro S hW hcell hp
    obtain ⟨c, hW', hq⟩ := one (hp y List.mem_cons_self) hW hcell
    obtain ⟨vm', hW2, hq2⟩ := ih (S.setVm (S.vm.noted f.method.cls y.catchType (.cls c))) hW' hcell (fun z hz => hp z (List.mem_cons_of_mem _ hz))
    exact ⟨vm', hW2, fun Q E d acts => by
      have h := hq (ys ++ x :: suf) Q E d acts
      rw [if_neg (by decide)] at h
      exact h.trans (hq2 Q E d acts)⟩
end AMK
section AMK2
variable {p : Program} {l : Launch} {e : Env} {R : Room} {s : State} {m : MethodId} {args : Array Value} {below : List Frame} {meth : Method} {c : Code} {H : Heap} {locs : List Loc} {cells slots : Nat} {Q : State → Prop} {pc : Nat} {ls : Array Slot} {rest : List Value}
/-- a throw that a row of the method takes -/
theorem am_caught {own name E : String} {ce : Cell} {q : Addr} (hown : s.vm.findClass own = some m.cls) (pre : List ExceptionTableEntry) (x : ExceptionTableEntry) (suf : List ExceptionTableEntry) (hsplit : c.exceptionTable.toList = pre ++ x :: suf)
    (hpass : ∀ z ∈ pre, covers z pc = true ∧ z.catchType ≠ 0 ∧ ∃ nm : String, (Cond.classLink own z.catchType nm).before args s = true ∧ va_Nc E nm s) (hx : covers x pc = true) (h0 : x.catchType ≠ 0)
    (hlink : (Cond.classLink own x.catchType name).before args s = true) (hcast : (Cond.castable E name).before args s = true) (hcell : H[q]? = some ce) (hv : ce.vm = .none) (hcl : s.vm.findClass E = some ce.cls)
    (kk : W p l e R s m args below meth c H locs cells slots Q (F0 m x.handlerPc ls [.ref q])) : am_T p l e R s m args below meth c H locs cells slots Q (F0 m pc ls rest) q := by
  intro T hT X
  have hpl : e.platform.magicAccessors = ({} : Platform).magicAccessors := by rw [X.admits.platform]
  obtain ⟨c3, c4, hc3, hc4, hasg⟩ := Cond.castable_spec hcast
  cases Option.some.inj (hc3.symm.trans hcl)
  obtain ⟨c5, hc5, hcl5⟩ := Cond.classLink_spec hown hlink e.platform hpl
  cases Option.some.inj (hc4.symm.trans hc5)
  have hobj : ∀ k, ce.vm ≠ .statics k := fun k h => by rw [hv] at h; cases h
  obtain ⟨k9, h9, -⟩ := Vm.findClass_spec hcl
  obtain ⟨vm', hW', hq⟩ := am_search (e := e) (f := F0 m pc ls rest) (a := q) (cell := ce) (s₀ := s) hobj ⟨k9, h9⟩ x suf ⟨hx, h0, c4, hcl5, hasg⟩ pre ((T.setTop (F0 m pc ls rest)).pushFrame (.throwing q)) (by rw [Stand.throwing_vm]; exact X.warmed) (by rw [Stand.throwing_heap, hT]; exact hcell)
    (fun z hz => by
      obtain ⟨z1, z2, nm, z3, a8, b8, n1, n2, n3⟩ := hpass z hz
      obtain ⟨c6, hc6, hcl6⟩ := Cond.classLink_spec hown z3 e.platform hpl
      cases Option.some.inj (n1.symm.trans hcl)
      cases Option.some.inj (n2.symm.trans hc6)
      exact ⟨z1, z2, _, hcl6, n3⟩)
  have X' := X.noted hW'
  obtain ⟨t, a1, b1⟩ := kk (T.setVm vm') hT X'
  refine ⟨t, ?_, b1⟩
  obtain ⟨hgo, hw⟩ := (show At T (F0 m pc ls rest).method c below from X.here).throwing q
  refine Steps.head hgo hw ?_
  have hfind : ∀ (Q : Handler → Pre) (E : CtlPost) (d : Bool) (acts : List Action), wp (findHandler (F0 m pc ls rest) q) Q E e d acts ((T.setTop (F0 m pc ls rest)).pushFrame (.throwing q)) ↔ Q (.found x.handlerPc) d acts (((T.setTop (F0 m pc ls rest)).pushFrame (.throwing q)).setVm vm') := fun Q E d acts => by
    rw [W.findHandler_eq (meth := meth) (code := c) (by rw [Stand.throwing_vm]; exact X.method') X.code, hsplit]
    exact hq Q E d acts
  have hstep : (stepThrowing e ((T.setTop (F0 m pc ls rest)).pushFrame (.throwing q)) q (.java (F0 m pc ls rest) :: T.frames.tail)).1 = (((T.setTop (F0 m pc ls rest)).pushFrame (.throwing q)).setVm vm').setFrames (.java (F0 m x.handlerPc ls [.ref q]) :: T.frames.tail) := by
    simp only [stepThrowing, searchFrame, vmDo]
    generalize hr : Sem.go _ e false [] _ = res
    obtain ⟨as, rfl, ha⟩ := Sem.eq_ok_of hr (a := Handler.found x.handlerPc) (s' := ((T.setTop (F0 m pc ls rest)).pushFrame (.throwing q)).setVm vm') (acts' := []) (by simp [hfind _ _ _ _])
    rfl
  rw [stepThread_throwing (frames_entered X.here.top _), hstep]
  obtain ⟨g₀, hr⟩ := X.frames_eq
  have hr' : (T.setVm vm').frames = .java g₀ :: below := hr
  rw [State.setTop_of_frames _ hr'] at a1
  have hfr : (((T.setTop (F0 m pc ls rest)).pushFrame (.throwing q)).setVm vm').setFrames (.java (F0 m x.handlerPc ls [.ref q]) :: T.frames.tail) = (T.setVm vm').setFrames (.java (F0 m x.handlerPc ls [.ref q]) :: below) := by
    rw [X.tail, State.pushFrame, State.setTop_of_frames _ hr]
    show ((((T.setFrames _).setFrames _).setFrames _).setVm vm') = _
    rw [State.setFrames_setFrames, State.setFrames_setFrames]
    rfl
  rw [hfr]
  exact a1
/-- a throw that no row of the method takes -/
theorem am_leaves {Qc : Outcome → Heap → Vm → Prop} {mc ms : Nat} {free : Addr → Prop} {q : Addr} (hlocks : meth.locks = false) (hout : ∀ x ∈ c.exceptionTable.toList, covers x pc = false) (hf : ∀ q ∈ locs, free q.base) (hc : cells ≤ mc) (hs : slots ≤ ms)
    (hq : ∀ vm1 : Vm, s.WarmedH vm1 → Qc (.threw q) H vm1) : am_T p l e R s m args below meth c H locs cells slots (am_MQ below Qc s mc ms free) (F0 m pc ls rest) q := by
  intro T hT X
  obtain ⟨hwalk, hrun, hend, hW, hsame⟩ := X.leaveThrown q (g := F0 m pc ls rest) rfl rfl rfl hout hlocks
  refine ⟨_, hwalk, .threw q, hrun, hend, ?_, locs, hW, hsame.mono hc hs, hf⟩
  have := hq _ hW
  rw [← hT] at this
  exact this
end AMK2
end
section
/-! ===== THE PURE MACHINE, part 12: what stands outside: the script, text constants, statics of the JDK's ===== -/
/-- cell 1000000 is the script; text i is 1000001 + 2 i, its bytes 1000002 + 2 i -/
def am_kT (i : Nat) : Nat := 1000001 + 2 * i
def am_kB (i : Nat) : Nat := 1000002 + 2 * i
theorem am_kB_ge (i : Nat) : 1000000 ≤ am_kB i := by unfold am_kB; omega
theorem am_kT_ge (i : Nat) : 1000000 ≤ am_kT i := by unfold am_kT; omega
/-- len, byt: the texts; refs: where each text stands in a constant pool (class, entry, text, number of the text) -/
def am_X (L : Nat) (xs : Nat → Int32) (len : List Nat) (byt : List (List Int32)) (refs : List (String × Nat × String × Nat)) (sio : Value) (A : Nat → Prop) (ad : Nat → Nat) (U : State) (H : Heap) : Prop :=
  (va_X (ad 1000000) L xs U H ∧ ¬ A (ad 1000000)) ∧
  (∀ i, i < len.length → va_O "java/lang/String" (ad (am_kT i)) A U H ∧ va_OF "java/lang/String" "coder" "B" (.int 0) (ad (am_kT i)) A U H ∧ va_OF "java/lang/String" "value" "[B" (.ref (ad (am_kB i))) (ad (am_kT i)) A U H ∧ va_T .byte (ad (am_kB i)) (len.getD i 0) (fun j => .int ((byt.getD i []).getD j 0)) A U H) ∧
  (∀ q ∈ refs, vk_R q.1 q.2.1 q.2.2.1 (ad (am_kT q.2.2.2)) U) ∧
  (va_Z "java/lang/String" "COMPACT_STRINGS" "Z" (.int 1) A U H ∧ va_Z "jdk/internal/util/Preconditions" "SIOOBE_FORMATTER" "Ljava/util/function/BiFunction;" (am_v ad sio) A U H) ∧ am_LS Bundle.tN "UNASSIGNED_STACK" Bundle.steD A U H ∧ am_LS Bundle.tN "SUPPRESSED_SENTINEL" Bundle.listD A U H
section AMXX
variable {L : Nat} {xs : Nat → Int32} {len : List Nat} {byt : List (List Int32)} {refs : List (String × Nat × String × Nat)} {sio : Value} {A : Nat → Prop} {ad : Nat → Nat} {u U : State} {H H1 : Heap}
theorem am_X.kept (h : am_X L xs len byt refs sio A ad U H) (hq : ∀ a : Nat, a < H.size → ¬ A a → H1[a]? = H[a]?) : am_X L xs len byt refs sio A ad U H1 := by
  obtain ⟨⟨h1, h3⟩, h4, h5, h6, h7, h8⟩ := h
  have hlt : ad 1000000 < H.size := by
    obtain ⟨scr, g1, -⟩ := h1
    exact (Array.getElem?_eq_some_iff.mp g1).1
  exact ⟨⟨h1.kept (hq _ hlt h3), h3⟩, fun i hi => ⟨(h4 i hi).1.kept hq, (h4 i hi).2.1.kept hq, (h4 i hi).2.2.1.kept hq, (h4 i hi).2.2.2.kept hq⟩, h5, ⟨h6.1.kept hq, h6.2.kept hq⟩, h7.kept hq, h8.kept hq⟩
theorem am_X.warm (hW : u.WarmedH U.vm) (h : am_X L xs len byt refs sio A ad u H) : am_X L xs len byt refs sio A ad U H := by
  obtain ⟨⟨h1, h3⟩, h4, h5, h6, h7, h8⟩ := h
  have hvm := hW.alike
  exact ⟨⟨h1.moved hvm, h3⟩, fun i hi => ⟨va_O.moved hvm (h4 i hi).1, va_OF.moved hvm (h4 i hi).2.1, va_OF.moved hvm (h4 i hi).2.2.1, va_T.moved hvm (h4 i hi).2.2.2⟩, fun q hq => (h5 q hq).warm hW, ⟨va_Z.moved hvm h6.1, va_Z.moved hvm h6.2⟩, am_LS.moved hvm h7, am_LS.moved hvm h8⟩
theorem am_X.ext {ad' : Nat → Nat} (hs : am_okv 0 sio) (he : ∀ k, 1000000 ≤ k → ad' k = ad k) (h : am_X L xs len byt refs sio A ad U H) : am_X L xs len byt refs sio A ad' U H := by
  obtain ⟨⟨h1, h3⟩, h4, h5, ⟨h6, h7⟩, h8⟩ := h
  have eS : am_v ad' sio = am_v ad sio := by
    cases sio <;> try rfl
    rcases hs with hs | hs
    · exact absurd hs (Nat.not_lt_zero _)
    · exact congrArg Value.ref (he _ hs)
  have e0 : ad' 1000000 = ad 1000000 := he _ (Nat.le_refl _)
  have eT : ∀ i, ad' (am_kT i) = ad (am_kT i) := fun i => he _ (am_kT_ge i)
  have eB : ∀ i, ad' (am_kB i) = ad (am_kB i) := fun i => he _ (am_kB_ge i)
  refine ⟨by rw [e0]; exact ⟨h1, h3⟩, fun i hi => by rw [eT, eB]; exact h4 i hi, fun q hq => by rw [eT]; exact h5 q hq, ⟨h6, by rw [eS]; exact h7⟩, h8⟩
end AMXX
/-- reads of what stands outside: script, bytes of a text, their lengths; fields of a text (1: value, 2: coder) -/
def am_xiald (L : Nat) (xs : Nat → Int32) : am_FH := fun pc lv st h => match st with
  | .int i :: .ref q :: r => if q = 1000000 ∧ ¬ (i < 0 ∨ L ≤ i.toNatClampNeg) then some (pc + 1, lv, .int (xs i.toNatClampNeg) :: r, h) else none
  | _ => none
def am_xbald (len : List Nat) (byt : List (List Int32)) : am_FH := fun pc lv st h => match st with
  | .int i :: .ref q :: r => if q = am_kB ((q - 1000002) / 2) ∧ (q - 1000002) / 2 < len.length ∧ ¬ (i < 0 ∨ len.getD ((q - 1000002) / 2) 0 ≤ i.toNatClampNeg) then some (pc + 1, lv, .int ((byt.getD ((q - 1000002) / 2) []).getD i.toNatClampNeg 0) :: r, h) else none
  | _ => none
def am_xalen (L : Nat) (len : List Nat) : am_FH := fun pc lv st h => match st with
  | .ref q :: r => if q = 1000000 then some (pc + 1, lv, .int (Int32.ofNat L) :: r, h) else if q = am_kB ((q - 1000002) / 2) ∧ (q - 1000002) / 2 < len.length then some (pc + 1, lv, .int (Int32.ofNat (len.getD ((q - 1000002) / 2) 0)) :: r, h) else none
  | _ => none
def am_xgetf (len : List Nat) (w : Nat) : am_FH := fun pc lv st h => match st with
  | .ref q :: r => if q = am_kT ((q - 1000001) / 2) ∧ (q - 1000001) / 2 < len.length then match w with
    | 1 => some (pc + 3, lv, .ref (am_kB ((q - 1000001) / 2)) :: r, h)
    | 2 => some (pc + 3, lv, .int 0 :: r, h)
    | _ => none
    else none
  | _ => none
/-- the statics that are read: 0 whether texts are compact, else one that is only handed on -/
def am_gs (sio : Value) (k : Nat) : Value := match k with
  | 0 => .int 1
  | _ => sio
section AMXR
variable {p : Program} {l : Launch} {e : Env} {R : Room} {s : State} {m : MethodId} {args : Array Value} {below : List Frame} {meth : Method} {c : Code} {H : Heap} {locs : List Loc} {cells slots : Nat} {Q : State → Prop}
variable {cc : ByteArray} {pc pc' : Nat} {ls : Array Slot} {lv lv' : List (Nat × Value)} {st st' : List Value} {ad : Nat → Nat} {h h' : List am_C}
variable {L : Nat} {xs : Nat → Int32} {len : List Nat} {byt : List (List Int32)} {refs : List (String × Nat × String × Nat)} {sio : Value} {A : Nat → Prop}
theorem am_xiald_ok (hx : p.tables.exec = Jvm.exec) (hb : c.code = cc) (hd : decode cc pc = .ok (.iaload, 1)) (hX : am_X L xs len byt refs sio A ad s H)
    (hr : am_xiald L xs pc lv st h = some (pc', lv', st', h')) (kk : lv = lv' → h = h' → W p l e R s m args below meth c H locs cells slots Q (F0 m pc' ls (st'.map (am_v ad)))) : W p l e R s m args below meth c H locs cells slots Q (F0 m pc ls (st.map (am_v ad))) := by
  unfold am_xiald at hr
  split at hr
  · rename_i i q r
    split at hr
    · rename_i hz
      obtain ⟨rfl, hi⟩ := hz
      cases hr
      obtain ⟨⟨⟨scr, h1, h2, h3, h4, h5⟩, -⟩, -⟩ := hX
      have hlt : i.toNatClampNeg < L := Nat.not_le.mp fun q => hi (Or.inr q)
      exact W.iald (v := .int (xs i.toNatClampNeg)) hx hb h1 h2 h3 (by rw [h4]; exact hi) (h5 _ hlt) rfl rfl hd (kk rfl rfl)
    · cases hr
  · cases hr
theorem am_xbald_ok (hx : p.tables.exec = Jvm.exec) (hb : c.code = cc) (hd : decode cc pc = .ok (.baload, 1)) (hX : am_X L xs len byt refs sio A ad s H)
    (hr : am_xbald len byt pc lv st h = some (pc', lv', st', h')) (kk : lv = lv' → h = h' → W p l e R s m args below meth c H locs cells slots Q (F0 m pc' ls (st'.map (am_v ad)))) : W p l e R s m args below meth c H locs cells slots Q (F0 m pc ls (st.map (am_v ad))) := by
  unfold am_xbald at hr
  split at hr
  · rename_i i q r
    split at hr
    · rename_i hz
      obtain ⟨hq, hn, hi⟩ := hz
      cases hr
      obtain ⟨cell, h1, h2, h3, h4, h5, h6, h7⟩ := (hX.2.1 _ hn).2.2.2
      have hlt : i.toNatClampNeg < len.getD ((q - 1000002) / 2) 0 := Nat.not_le.mp fun q => hi (Or.inr q)
      rw [← hq] at h1
      exact W.bald (v := .int ((byt.getD ((q - 1000002) / 2) []).getD i.toNatClampNeg 0)) hx hb h1 h2 h3 (fun z => hi (z.elim Or.inl (fun z => Or.inr (Nat.le_trans h4 z)))) (h6 _ hlt) rfl rfl hd (kk rfl rfl)
    · cases hr
  · cases hr
theorem am_xalen_ok (hx : p.tables.exec = Jvm.exec) (hb : c.code = cc) (hd : decode cc pc = .ok (.arraylength, 1)) (hX : am_X L xs len byt refs sio A ad s H)
    (hr : am_xalen L len pc lv st h = some (pc', lv', st', h')) (kk : lv = lv' → h = h' → W p l e R s m args below meth c H locs cells slots Q (F0 m pc' ls (st'.map (am_v ad)))) : W p l e R s m args below meth c H locs cells slots Q (F0 m pc ls (st.map (am_v ad))) := by
  unfold am_xalen at hr
  split at hr
  · rename_i q r
    split at hr
    · rename_i hq
      subst hq
      cases hr
      obtain ⟨⟨⟨scr, h1, h2, h3, h4, h5⟩, -⟩, -⟩ := hX
      exact W.alen (n := Int32.ofNat L) hx hb h1 h2 (by rw [h4] <;> rfl) rfl rfl hd (kk rfl rfl)
    · split at hr
      · rename_i hz
        obtain ⟨hq, hn⟩ := hz
        cases hr
        obtain ⟨cell, h1, h2, h3, h4, h5, h6, h7⟩ := (hX.2.1 _ hn).2.2.2
        rw [← hq] at h1
        exact W.alen (n := Int32.ofNat (len.getD ((q - 1000002) / 2) 0)) hx hb h1 h2 h5 rfl rfl hd (kk rfl rfl)
      · cases hr
  · cases hr
theorem am_xgetf_ok {own : String} {idx w : Nat} (hx : p.tables.exec = Jvm.exec) (hb : c.code = cc) (hd : decode cc pc = .ok (.getfield idx, 3)) (hown : s.vm.findClass own = some m.cls) (hX : am_X L xs len byt refs sio A ad s H)
    (hlink : (w = 1 ∧ (Cond.fieldLink own idx "java/lang/String" "value" "[B").before args s = true) ∨ (w = 2 ∧ (Cond.fieldLink own idx "java/lang/String" "coder" "B").before args s = true))
    (hr : am_xgetf len w pc lv st h = some (pc', lv', st', h')) (kk : lv = lv' → h = h' → W p l e R s m args below meth c H locs cells slots Q (F0 m pc' ls (st'.map (am_v ad)))) : W p l e R s m args below meth c H locs cells slots Q (F0 m pc ls (st.map (am_v ad))) := by
  unfold am_xgetf at hr
  split at hr
  · rename_i q r
    split at hr
    · rename_i hz
      obtain ⟨hq, hn⟩ := hz
      obtain ⟨-, ⟨cf, k, fi, f, cell, g1, g2, g3, g4, g5, g6⟩, ⟨cf', k', fi', f', cell', j1, j2, j3, j4, j5, j6⟩, -⟩ := hX.2.1 _ hn
      rw [← hq] at g3 j3
      rcases hlink with ⟨rfl, hl⟩ | ⟨rfl, hl⟩
      · cases hr
        exact W.getf hx hb hown hl j1 j2 j3 j4 (v := .ref (ad (am_kB ((q - 1000001) / 2)))) j5 rfl rfl hd (kk rfl rfl)
      · cases hr
        exact W.getf hx hb hown hl g1 g2 g3 g4 (v := .int 0) g5 rfl rfl hd (kk rfl rfl)
    · cases hr
  · cases hr
theorem am_xgets_ok {own : String} {idx k : Nat} (hx : p.tables.exec = Jvm.exec) (hb : c.code = cc) (hd : decode cc pc = .ok (.getstatic idx, 3)) (hown : s.vm.findClass own = some m.cls) (hX : am_X L xs len byt refs sio A ad s H) (hlink : (k = 0 ∧ (Cond.fieldLink own idx "java/lang/String" "COMPACT_STRINGS" "Z").before args s = true) ∨ (¬ k = 0 ∧ (Cond.fieldLink own idx "jdk/internal/util/Preconditions" "SIOOBE_FORMATTER" "Ljava/util/function/BiFunction;").before args s = true))
    (kk : W p l e R s m args below meth c H locs cells slots Q (F0 m (pc + 3) ls ((am_gs sio k :: st).map (am_v ad)))) : W p l e R s m args below meth c H locs cells slots Q (F0 m pc ls (st.map (am_v ad))) := by
  rcases hlink with ⟨rfl, hlink⟩ | ⟨hk, hlink⟩
  · obtain ⟨cf, kf, fi, f, a, cell, h1, h2, h3, h4, h5, h6, h7, h8⟩ := hX.2.2.2.1.1
    exact W.gets hx hb hown hlink h1 h2 h3 h4 h5 (fun e => by rw [e] at h6; cases h6) h7 rfl hd kk
  · obtain ⟨cf, kf, fi, f, a, cell, h1, h2, h3, h4, h5, h6, h7, h8⟩ := hX.2.2.2.1.2
    cases k with
    | zero => exact absurd rfl hk
    | succ n => exact W.gets hx hb hown hlink h1 h2 h3 h4 h5 (fun e => by rw [e] at h6; cases h6) h7 rfl hd kk
theorem am_xwf {pc pc' : Nat} (hw : am_ok3 lv st h) {f : am_FH} (hf : f = am_xiald L xs ∨ f = am_xbald len byt ∨ f = am_xalen L len ∨ ∃ w, f = am_xgetf len w) (hr : f pc lv st h = some (pc', lv', st', h')) : am_ok3 lv' st' h' ∧ h.length = h'.length := by
  obtain ⟨hL, hS, hH⟩ := hw
  rcases hf with rfl | rfl | rfl | ⟨w, rfl⟩
  · unfold am_xiald at hr
    split at hr
    · split at hr
      · cases hr
        exact ⟨⟨hL, am_okS_c.mpr ⟨trivial, (am_okS_c.mp (am_okS_c.mp hS).2).2⟩, hH⟩, rfl⟩
      · cases hr
    · cases hr
  · unfold am_xbald at hr
    split at hr
    · split at hr
      · cases hr
        exact ⟨⟨hL, am_okS_c.mpr ⟨trivial, (am_okS_c.mp (am_okS_c.mp hS).2).2⟩, hH⟩, rfl⟩
      · cases hr
    · cases hr
  · unfold am_xalen at hr
    split at hr
    · split at hr
      · cases hr
        exact ⟨⟨hL, am_okS_c.mpr ⟨trivial, (am_okS_c.mp hS).2⟩, hH⟩, rfl⟩
      · split at hr
        · cases hr
          exact ⟨⟨hL, am_okS_c.mpr ⟨trivial, (am_okS_c.mp hS).2⟩, hH⟩, rfl⟩
        · cases hr
    · cases hr
  · unfold am_xgetf at hr
    split at hr
    · split at hr
      · split at hr
        · cases hr
          exact ⟨⟨hL, am_okS_c.mpr ⟨Or.inr (am_kB_ge _), (am_okS_c.mp hS).2⟩, hH⟩, rfl⟩
        · cases hr
          exact ⟨⟨hL, am_okS_c.mpr ⟨trivial, (am_okS_c.mp hS).2⟩, hH⟩, rfl⟩
        · cases hr
      · cases hr
    · cases hr
end AMXR
end
section
/-! ===== THE PURE MACHINE, part 13: a step, a method, a call ===== -/
/-- an entry of a method's table: instruction, length, and what it links to -/
abbrev am_I : Type := Instr × Nat × Nat × Nat × Nat
/-- a method: name, bytes, locals, what it returns, rows that catch, its table -/
abbrev am_M : Type := MethodName × ByteArray × Nat × Option FieldType × List (Nat × Nat × Nat × Nat) × (Nat → Option am_I)
abbrev am_St : Type := Nat × List (Nat × Value) × List Value × List am_C × Nat × Nat
/-- how a method ends: with a value or none, or with the number of what it throws; the cells; how many cells and slots it made -/
abbrev am_Re : Type := (Option Value ⊕ Nat) × List am_C × Nat × Nat
abbrev am_SR : Type := Option (am_St ⊕ am_Re)
abbrev am_Ca : Type := Nat → List Value → List am_C → Option am_Re
def am_lift (r : am_R) (h : List am_C) (nc ns : Nat) : am_SR := match r with
  | some (pc, lv, st) => some (.inl (pc, lv, st, h, nc, ns))
  | none => none
def am_liftH (r : am_RH) (nc ns : Nat) : am_SR := match r with
  | some (pc, lv, st, h) => some (.inl (pc, lv, st, h, nc, ns))
  | none => none
def am_liftN (r : am_RN) (nc ns : Nat) : am_SR := match r with
  | some (pc, lv, st, h, n) => some (.inl (pc, lv, st, h, nc + 1, ns + n))
  | none => none
/-- the world around: the script, the texts, the fields' types, fresh objects' fields, which class a throw is of, which throw a row's class names, and a static of the JDK's that nobody asks -/
abbrev am_En : Type := (Nat × (Nat → Int32)) × (List Nat × List (List Int32)) × (Nat → Nat → FieldType) × (Nat → List Value) × (Nat → Nat) × (Nat → Nat) × Value
def am_iaload (E : am_En) : am_FH := fun pc lv st h => match st with
  | .int i :: .ref q :: r => if q < 1000000 then am_iald 0 pc lv (.int i :: .ref q :: r) h else am_xiald E.1.1 E.1.2 pc lv (.int i :: .ref q :: r) h
  | _ => none
def am_baload (E : am_En) : am_FH := fun pc lv st h => match st with
  | .int i :: .ref q :: r => if q < 1000000 then am_bald pc lv (.int i :: .ref q :: r) h else am_xbald E.2.1.1 E.2.1.2 pc lv (.int i :: .ref q :: r) h
  | _ => none
def am_alength (E : am_En) : am_FH := fun pc lv st h => match st with
  | .ref q :: r => if q < 1000000 then am_alen pc lv (.ref q :: r) h else am_xalen E.1.1 E.2.1.1 pc lv (.ref q :: r) h
  | _ => none
def am_getfield (E : am_En) (a b c : Nat) : am_FH := match c with
  | 0 => am_getf a b
  | _ => am_xgetf E.2.1.1 a
def am_ldc (len a c : Nat) : am_F := match c with
  | 0 => am_push (.int (Int32.ofNat a)) len
  | _ => am_push (.ref (am_kT a)) len
/-- the first row that covers the place and names the throw -/
def am_find (E : am_En) (rows : List (Nat × Nat × Nat × Nat)) (pc x : Nat) : Option Nat := match rows with
  | [] => none
  | r :: rs => if r.1 ≤ pc ∧ pc < r.2.1 then (if E.2.2.2.2.2.1 r.2.2.2 = x then some r.2.2.1 else am_find E rs pc x) else none
/-- whether a row covers the place -/
def am_covered (rows : List (Nat × Nat × Nat × Nat)) (pc : Nat) : Bool := rows.any (fun r => decide (r.1 ≤ pc) && decide (pc < r.2.1))
def am_back (E : am_En) (rows : List (Nat × Nat × Nat × Nat)) (pc : Nat) (lv : List (Nat × Value)) (rest : List Value) (nc ns : Nat) (r : Option am_Re) : am_SR := match r with
  | some (.inl v, h, k, n) => some (.inl (pc + 3, lv, v.toList ++ rest, h, nc + k, ns + n))
  | some (.inr x, h, k, n) => if am_covered rows pc = true then match am_find E rows pc x with
      | some t => if h.length < 1000000 then some (.inl (t, lv, [.ref h.length], h ++ [.inr (E.2.2.2.2.1 x, [])], nc + k, ns + n)) else none
      | none => none
    else some (.inr (.inr x, h, nc + k, ns + n))
  | none => none
def am_cat (st : List Value) : Nat := (st.map fun v => v.category).sum
/-- calls: 0 of an object of ours, 1 static, 2 static of the nest, 3 static with rows, 4 a constructor, 5 a constructor of the nest, 6 Object's own, 7 of a text -/
def am_invoke (E : am_En) (call : am_Ca) (rows : List (Nat × Nat × Nat × Nat)) (cn : Nat → Nat) (a b c : Nat) (S : am_St) : am_SR := match S with
  | (pc, lv, st, h, nc, ns) => if b ≤ st.length then match c, st.drop b with
      | 6, .ref _ :: rest => if am_cat rest ≤ 8 then some (.inl (pc + 3, lv, rest, h, nc, ns)) else none
      | 0, .ref q :: rest => match h[q]? with
        | some (.inr (cj, _)) => if cj = cn a ∧ am_cat rest ≤ 8 then am_back E rows pc lv rest nc ns (call a (.ref q :: (st.take b).reverse) h) else none
        | _ => none
      | 7, .ref q :: rest => if (q = am_kT ((q - 1000001) / 2) ∧ (q - 1000001) / 2 < E.2.1.1.length) ∧ am_cat rest ≤ 8 then am_back E rows pc lv rest nc ns (call a (.ref q :: (st.take b).reverse) h) else none
      | 4, .ref q :: rest => if am_cat rest ≤ 8 then am_back E rows pc lv rest nc ns (call a (.ref q :: (st.take b).reverse) h) else none
      | 5, .ref q :: rest => if am_cat rest ≤ 8 then am_back E rows pc lv rest nc ns (call a (.ref q :: (st.take b).reverse) h) else none
      | 1, rest => if am_cat rest ≤ 8 then am_back E rows pc lv rest nc ns (call a (st.take b).reverse h) else none
      | 2, rest => if am_cat rest ≤ 8 then am_back E rows pc lv rest nc ns (call a (st.take b).reverse h) else none
      | 3, rest => if am_cat rest ≤ 8 then am_back E rows pc lv rest nc ns (call a (st.take b).reverse h) else none
      | _, _ => none
    else none
def am_ireturn (ret : Option FieldType) (st : List Value) (h : List am_C) (nc ns : Nat) : am_SR := match st with
  | [.int v] => match ret with
    | some .int => some (.inr (.inl (some (.int v)), h, nc, ns))
    | some .boolean => if v = 0 ∨ v = 1 then some (.inr (.inl (some (.int v)), h, nc, ns)) else none
    | some .char => if ¬ v < 0 ∧ v.toNatClampNeg < 65536 then some (.inr (.inl (some (.int v)), h, nc, ns)) else none
    | some .byte => if narrow .byte (.int v) = .int v then some (.inr (.inl (some (.int v)), h, nc, ns)) else none
    | _ => none
  | _ => none
def am_lreturn (ret : Option FieldType) (st : List Value) (h : List am_C) (nc ns : Nat) : am_SR := match st, ret with
  | [.long v], some .long => some (.inr (.inl (some (.long v)), h, nc, ns))
  | _, _ => none
def am_areturn (ret : Option FieldType) (st : List Value) (h : List am_C) (nc ns : Nat) : am_SR := match st, ret with
  | [.ref v], some (.object _) => some (.inr (.inl (some (.ref v)), h, nc, ns))
  | [.null], some (.object _) => some (.inr (.inl (some .null), h, nc, ns))
  | _, _ => none
def am_return (ret : Option FieldType) (st : List Value) (h : List am_C) (nc ns : Nat) : am_SR := match st, ret with
  | [], none => some (.inr (.inl none, h, nc, ns))
  | _, _ => none
/-- new: 0 an object, 1 what is thrown at once (b: how long the instruction is that loads its text) -/
def am_make (E : am_En) (dd : Nat) (rows : List (Nat × Nat × Nat × Nat)) (a b c : Nat) (S : am_St) : am_SR := match S with
  | (pc, lv, st, h, nc, ns) => match c with
    | 0 => am_liftN (am_new a (E.2.2.2.1 a) pc lv st h) nc ns
    | _ => if 6 ≤ dd ∧ am_cat st ≤ 8 ∧ am_covered rows (pc + 4 + b + 3) = false then some (.inr (.inr a, h, nc + 1, ns + 6)) else none
def am_step (E : am_En) (cn : Nat → Nat) (dd : Nat) (call : am_Ca) (me : am_M) (t : am_I) (S : am_St) : am_SR := match t with
  | (i, len, a, b, c) => match i with
    | .getfield _ => am_liftH (am_getfield E a b c S.1 S.2.1 S.2.2.1 S.2.2.2.1) S.2.2.2.2.1 S.2.2.2.2.2
    | .putfield _ => am_liftH (am_putf a b (E.2.2.1 a b) S.1 S.2.1 S.2.2.1 S.2.2.2.1) S.2.2.2.2.1 S.2.2.2.2.2
    | .iaload => am_liftH (am_iaload E S.1 S.2.1 S.2.2.1 S.2.2.2.1) S.2.2.2.2.1 S.2.2.2.2.2
    | .baload => am_liftH (am_baload E S.1 S.2.1 S.2.2.1 S.2.2.2.1) S.2.2.2.2.1 S.2.2.2.2.2
    | .laload => am_liftH (am_lald S.1 S.2.1 S.2.2.1 S.2.2.2.1) S.2.2.2.2.1 S.2.2.2.2.2
    | .aaload => am_liftH (am_aald S.1 S.2.1 S.2.2.1 S.2.2.2.1) S.2.2.2.2.1 S.2.2.2.2.2
    | .iastore => am_liftH (am_iast S.1 S.2.1 S.2.2.1 S.2.2.2.1) S.2.2.2.2.1 S.2.2.2.2.2
    | .bastore => am_liftH (am_bast S.1 S.2.1 S.2.2.1 S.2.2.2.1) S.2.2.2.2.1 S.2.2.2.2.2
    | .lastore => am_liftH (am_last S.1 S.2.1 S.2.2.1 S.2.2.2.1) S.2.2.2.2.1 S.2.2.2.2.2
    | .aastore => am_liftH (am_aast 10 4 S.1 S.2.1 S.2.2.1 S.2.2.2.1) S.2.2.2.2.1 S.2.2.2.2.2
    | .arraylength => am_liftH (am_alength E S.1 S.2.1 S.2.2.1 S.2.2.2.1) S.2.2.2.2.1 S.2.2.2.2.2
    | .newarray _ => am_liftN (am_newa a S.1 S.2.1 S.2.2.1 S.2.2.2.1) S.2.2.2.2.1 S.2.2.2.2.2
    | .anewarray _ => am_liftN (am_newq a S.1 S.2.1 S.2.2.1 S.2.2.2.1) S.2.2.2.2.1 S.2.2.2.2.2
    | .new _ => am_make E dd me.2.2.2.2.1 a b c S
    | .ldc _ => am_lift (am_ldc 2 a c me.2.2.1 S.1 S.2.1 S.2.2.1) S.2.2.2.1 S.2.2.2.2.1 S.2.2.2.2.2
    | .ldc_w _ => am_lift (am_ldc 3 a c me.2.2.1 S.1 S.2.1 S.2.2.1) S.2.2.2.1 S.2.2.2.2.1 S.2.2.2.2.2
    | .ldc2_w _ => am_lift (am_push (.long (Int64.ofNat a)) 3 me.2.2.1 S.1 S.2.1 S.2.2.1) S.2.2.2.1 S.2.2.2.2.1 S.2.2.2.2.2
    | .getstatic _ => am_lift (am_push (am_gs E.2.2.2.2.2.2 c) 3 me.2.2.1 S.1 S.2.1 S.2.2.1) S.2.2.2.1 S.2.2.2.2.1 S.2.2.2.2.2
    | .invokevirtual _ => am_invoke E call me.2.2.2.2.1 cn a b c S
    | .invokespecial _ => am_invoke E call me.2.2.2.2.1 cn a b c S
    | .invokestatic _ => am_invoke E call me.2.2.2.2.1 cn a b c S
    | .ireturn => am_ireturn me.2.2.2.1 S.2.2.1 S.2.2.2.1 S.2.2.2.2.1 S.2.2.2.2.2
    | .lreturn => am_lreturn me.2.2.2.1 S.2.2.1 S.2.2.2.1 S.2.2.2.2.1 S.2.2.2.2.2
    | .areturn => am_areturn me.2.2.2.1 S.2.2.1 S.2.2.2.1 S.2.2.2.2.1 S.2.2.2.2.2
    | .return_ => am_return me.2.2.2.1 S.2.2.1 S.2.2.2.1 S.2.2.2.2.1 S.2.2.2.2.2
    | _ => am_lift (am_pure i len me.2.2.1 S.1 S.2.1 S.2.2.1) S.2.2.2.1 S.2.2.2.2.1 S.2.2.2.2.2
def am_run (E : am_En) (cn : Nat → Nat) (dd : Nat) (call : am_Ca) (me : am_M) (n : Nat) (S : am_St) : Option am_Re := match n with
  | 0 => none
  | n + 1 => match me.2.2.2.2.2 S.1 with
    | some t => match am_step E cn dd call me t S with
      | some (.inl S') => am_run E cn dd call me n S'
      | some (.inr r) => some r
      | none => none
    | none => none
/-- a call at depth d: every method's own walk has as much fuel -/
def am_call (E : am_En) (cn : Nat → Nat) (pg : Nat → am_M) (fuel : Nat) (d : Nat) : am_Ca := match d with
  | 0 => fun _ _ _ => none
  | d + 1 => fun mi av h => if am_cat av ≤ (pg mi).2.2.1 then am_run E cn (d + 1) (am_call E cn pg fuel d) (pg mi) fuel (0, lv_args 0 av, [], h, 0, 0) else none
end
section
/-! ===== THE PURE MACHINE, part 14: when a method's table is the method's ===== -/
/-- what the tables must say: tb the words, cl the classes, refs the texts in constant pools, xn and xu the names of what is thrown and of its superclasses -/
abbrev am_Ta : Type := List Cond × List vw_C × List (String × Nat × String × Nat) × (Nat → String) × List String
def am_fieldOk (K : am_Ta) (own : String) (idx a b : Nat) : Prop := ∃ C T N, K.2.1[a]? = some (C, T, N) ∧ b < N ∧ Cond.fieldLink own idx (T b).1 (T b).2.1 (T b).2.2.1 ∈ K.1
def am_classOk (K : am_Ta) (C : String) (T : u_T) (N : Nat) : Prop := (∀ w ∈ u_ws C T N, w ∈ K.1) ∧ (∀ a, a < N → ∀ b, b < N → a ≠ b → (T a).2.1 ≠ (T b).2.1)
/-- a method that is called: it can be entered -/
def am_entryOk (K : am_Ta) (me : am_M) (b : Nat) (this : Bool) : Prop :=
  (me.1.cls ≠ "java/lang/invoke/MethodHandle" ∧ me.1.cls ≠ "java/lang/invoke/VarHandle") ∧ plainFor me.1 = true ∧ me.2.2.1 ≤ 13 ∧ (∀ sig, parseMethodDescriptor me.1.desc = some sig → b = sig.parameters.length) ∧
  (Cond.code me.1 me.2.1 me.2.2.1 me.2.2.2.1 ∈ K.1 ∧ me.2.2.2.2.1 = [] ∨ Cond.codeWith me.1 me.2.1 me.2.2.1 me.2.2.2.1 me.2.2.2.2.1 ∈ K.1 ∧ this = false)
def am_V (E : am_En) (K : am_Ta) (cn : Nat → Nat) (pg : Nat → am_M) (me : am_M) (pc : Nat) (t : am_I) : Prop :=
  decode me.2.1 pc = .ok (t.1, t.2.1) ∧ am_len t.1 t.2.1 = true ∧ match t with
  | (i, len, a, b, c) => match i with
    | .getfield idx => (c = 0 → am_fieldOk K me.1.cls idx a b) ∧ (¬ c = 0 → (a = 1 ∧ Cond.fieldLink me.1.cls idx "java/lang/String" "value" "[B" ∈ K.1) ∨ (a = 2 ∧ Cond.fieldLink me.1.cls idx "java/lang/String" "coder" "B" ∈ K.1))
    | .putfield idx => ∃ C T N, K.2.1[a]? = some (C, T, N) ∧ b < N ∧ Cond.fieldLink me.1.cls idx (T b).1 (T b).2.1 (T b).2.2.1 ∈ K.1 ∧ ((T b).2.2.2 = false ∨ ((T b).2.2.2 = true ∧ me.1.name = "<init>" ∧ (T b).1 = me.1.cls)) ∧ parseFieldDescriptor (T b).2.2.1 = some (E.2.2.1 a b)
    | .newarray atype => newarray.typeOf atype = am_ty a ∧ Cond.arrayClass (newarray.typeOf atype) ∈ K.1
    | .anewarray idx => ∃ C, am_ty a = .object C ∧ Cond.classLink me.1.cls idx C ∈ K.1 ∧ Cond.arrayOver (.object C) ∈ K.1
    | .new idx => (c = 0 → ∃ C T N, K.2.1[a]? = some (C, T, N) ∧ Cond.classLink me.1.cls idx C ∈ K.1 ∧ Cond.instantiable C N ∈ K.1 ∧ Cond.initialized C ∈ K.1) ∧
        (¬ c = 0 → a < 3 ∧ decode me.2.1 (pc + 3) = .ok (.dup, 1) ∧ (∃ is ic text k, ((decode me.2.1 (pc + 4) = .ok (.ldc is, 2) ∧ b = 2) ∨ (decode me.2.1 (pc + 4) = .ok (.ldc_w is, 3) ∧ b = 3)) ∧ decode me.2.1 (pc + 4 + b) = .ok (.invokespecial ic, 3) ∧ decode me.2.1 (pc + 4 + b + 3) = .ok (.athrow, 1) ∧ (me.1.cls, is, text, k) ∈ K.2.2.1 ∧
          (∀ w ∈ Bundle.ownAtoms me.1.cls ic (K.2.2.2.1 a) K.2.2.2.2, am_xw w) ∧ (∀ w ∈ Bundle.ownAtoms me.1.cls ic (K.2.2.2.1 a) K.2.2.2.2, am_carry w = true → w ∈ K.1)) ∧ Cond.classLink me.1.cls idx (K.2.2.2.1 a) ∈ K.1 ∧ Cond.initialized (K.2.2.2.1 a) ∈ K.1)
    | .ldc idx => (c = 0 → Cond.constant me.1.cls idx (Int32.ofNat a) ∈ K.1) ∧ (¬ c = 0 → a < E.2.1.1.length ∧ ∃ tx, (me.1.cls, idx, tx, a) ∈ K.2.2.1)
    | .ldc_w idx => (c = 0 → Cond.constant me.1.cls idx (Int32.ofNat a) ∈ K.1) ∧ (¬ c = 0 → a < E.2.1.1.length ∧ ∃ tx, (me.1.cls, idx, tx, a) ∈ K.2.2.1)
    | .ldc2_w idx => Cond.constantLong me.1.cls idx (Int64.ofNat a) ∈ K.1
    | .getstatic idx => (c = 0 ∧ Cond.fieldLink me.1.cls idx "java/lang/String" "COMPACT_STRINGS" "Z" ∈ K.1) ∨ (¬ c = 0 ∧ Cond.fieldLink me.1.cls idx "jdk/internal/util/Preconditions" "SIOOBE_FORMATTER" "Ljava/util/function/BiFunction;" ∈ K.1)
    | .invokevirtual idx => (c = 0 ∨ c = 7) ∧ am_entryOk K (pg a) b true ∧ Cond.methodLink me.1.cls idx (pg a).1 ∈ K.1 ∧ Cond.instanceMethod (pg a).1 ∈ K.1 ∧
        (c = 0 → ∃ C T N, K.2.1[cn a]? = some (C, T, N) ∧ Cond.selects C (pg a).1 (pg a).1 ∈ K.1) ∧ (c = 7 → Cond.selects "java/lang/String" (pg a).1 (pg a).1 ∈ K.1)
    | .invokestatic idx => am_entryOk K (pg a) b false ∧ Cond.static (pg a).1 ∈ K.1 ∧ Cond.initialized (pg a).1.cls ∈ K.1 ∧
        ((c = 1 ∧ (pg a).2.2.2.2.1 = [] ∧ Cond.code (pg a).1 (pg a).2.1 (pg a).2.2.1 (pg a).2.2.2.1 ∈ K.1 ∧ Cond.methodLink me.1.cls idx (pg a).1 ∈ K.1) ∨
         (c = 2 ∧ (pg a).2.2.2.2.1 = [] ∧ Cond.code (pg a).1 (pg a).2.1 (pg a).2.2.1 (pg a).2.2.2.1 ∈ K.1 ∧ ∃ host, Cond.methodLinkNest me.1.cls idx (pg a).1 host ∈ K.1) ∨
         (c = 3 ∧ Cond.codeWith (pg a).1 (pg a).2.1 (pg a).2.2.1 (pg a).2.2.2.1 (pg a).2.2.2.2.1 ∈ K.1 ∧ Cond.methodLink me.1.cls idx (pg a).1 ∈ K.1))
    | .invokespecial idx => (c = 6 → b = 0 ∧ Cond.methodLink me.1.cls idx objectInit ∈ K.1 ∧ Cond.instanceMethod objectInit ∈ K.1 ∧ Cond.code objectInit ⟨#[0xb1]⟩ 1 none ∈ K.1) ∧
        (¬ c = 6 → (c = 4 ∨ c = 5) ∧ am_entryOk K (pg a) b true ∧ (pg a).1.name = "<init>" ∧ (pg a).2.2.2.1 = none ∧ Cond.instanceMethod (pg a).1 ∈ K.1 ∧ (c = 4 → Cond.methodLink me.1.cls idx (pg a).1 ∈ K.1) ∧ (c = 5 → ∃ host, Cond.methodLinkNest me.1.cls idx (pg a).1 host ∈ K.1))
    | _ => True
/-- the whole program's tables are right -/
def am_PV (E : am_En) (K : am_Ta) (cn : Nat → Nat) (pg : Nat → am_M) : Prop :=
  (∀ mi pc t, (pg mi).2.2.2.2.2 pc = some t → am_V E K cn pg (pg mi) pc t) ∧
  (∀ w ∈ K.1, am_carry w = true) ∧
  (∀ ci C T N, K.2.1[ci]? = some (C, T, N) → am_classOk K C T N ∧ (∀ k, k < N → parseFieldDescriptor (T k).2.2.1 = some (E.2.2.1 ci k)) ∧ (∀ j, j < N → defaultValue (E.2.2.1 ci j) = vp_V (E.2.2.2.1 ci) j) ∧ (E.2.2.2.1 ci).length = N ∧ (∀ v ∈ E.2.2.2.1 ci, ∀ ad : Nat → Nat, am_v ad v = v) ∧ ∀ k, am_okS k (E.2.2.2.1 ci)) ∧
  (∃ r4 r5, K.2.1[10]? = some r4 ∧ K.2.1[4]? = some r5 ∧ am_ty 4 = .object r4.1 ∧ am_ty 5 = .object r5.1) ∧
  (∀ x, Bundle.fit (K.2.2.2.1 x) = true) ∧ (∀ n ∈ K.2.2.2.2, Bundle.fit n = true) ∧ K.2.2.2.2.length = 2 ∧
  (∀ mi, ∀ r ∈ (pg mi).2.2.2.2.1, r.2.2.2 ≠ 0 ∧ E.2.2.2.2.2.1 r.2.2.2 < 3 ∧ Cond.classLink (pg mi).1.cls r.2.2.2 (K.2.2.2.1 (E.2.2.2.2.2.1 r.2.2.2)) ∈ K.1 ∧ Cond.castable (K.2.2.2.1 (E.2.2.2.2.2.1 r.2.2.2)) (K.2.2.2.1 (E.2.2.2.2.2.1 r.2.2.2)) ∈ K.1) ∧
  (∀ x, x < 3 → ∃ T, K.2.1[E.2.2.2.2.1 x]? = some (K.2.2.2.1 x, T, 0)) ∧ (∀ n, am_okv n E.2.2.2.2.2.2)
end
section
/-! ===== THE PURE MACHINE, part 15: the counts of what is made only grow ===== -/
theorem am_lift_n {r : am_R} {h : List am_C} {nc ns : Nat} {x : am_St ⊕ am_Re} (hr : am_lift r h nc ns = some x) : ∃ pc lv st, r = some (pc, lv, st) ∧ x = .inl (pc, lv, st, h, nc, ns) := by
  unfold am_lift at hr
  split at hr
  · cases hr
    exact ⟨_, _, _, rfl, rfl⟩
  · cases hr
theorem am_liftH_n {r : am_RH} {nc ns : Nat} {x : am_St ⊕ am_Re} (hr : am_liftH r nc ns = some x) : ∃ pc lv st h, r = some (pc, lv, st, h) ∧ x = .inl (pc, lv, st, h, nc, ns) := by
  unfold am_liftH at hr
  split at hr
  · cases hr
    exact ⟨_, _, _, _, rfl, rfl⟩
  · cases hr
theorem am_liftN_n {r : am_RN} {nc ns : Nat} {x : am_St ⊕ am_Re} (hr : am_liftN r nc ns = some x) : ∃ pc lv st h n, r = some (pc, lv, st, h, n) ∧ x = .inl (pc, lv, st, h, nc + 1, ns + n) := by
  unfold am_liftN at hr
  split at hr
  · cases hr
    exact ⟨_, _, _, _, _, rfl, rfl⟩
  · cases hr
def am_cnt (x : am_St ⊕ am_Re) : Nat × Nat := match x with
  | .inl S => (S.2.2.2.2.1, S.2.2.2.2.2)
  | .inr r => (r.2.2.1, r.2.2.2)
abbrev am_up (nc ns : Nat) (x : am_St ⊕ am_Re) : Prop := nc ≤ (am_cnt x).1 ∧ ns ≤ (am_cnt x).2
theorem am_lift_up {r : am_R} {h : List am_C} {nc ns : Nat} {x : am_St ⊕ am_Re} (hr : am_lift r h nc ns = some x) : am_up nc ns x := by
  obtain ⟨_, _, _, -, rfl⟩ := am_lift_n hr
  exact ⟨Nat.le_refl _, Nat.le_refl _⟩
theorem am_liftH_up {r : am_RH} {nc ns : Nat} {x : am_St ⊕ am_Re} (hr : am_liftH r nc ns = some x) : am_up nc ns x := by
  obtain ⟨_, _, _, _, -, rfl⟩ := am_liftH_n hr
  exact ⟨Nat.le_refl _, Nat.le_refl _⟩
theorem am_liftN_up {r : am_RN} {nc ns : Nat} {x : am_St ⊕ am_Re} (hr : am_liftN r nc ns = some x) : am_up nc ns x := by
  obtain ⟨_, _, _, _, _, -, rfl⟩ := am_liftN_n hr
  exact ⟨Nat.le_add_right _ _, Nat.le_add_right _ _⟩
theorem am_back_up {E : am_En} {rows : List (Nat × Nat × Nat × Nat)} {pc : Nat} {lv : List (Nat × Value)} {rest : List Value} {nc ns : Nat} {r : Option am_Re} {x : am_St ⊕ am_Re} (hr : am_back E rows pc lv rest nc ns r = some x) : am_up nc ns x := by
  unfold am_back at hr
  split at hr
  · cases hr
    exact ⟨Nat.le_add_right _ _, Nat.le_add_right _ _⟩
  · split at hr
    · split at hr
      · split at hr
        · cases hr
          exact ⟨Nat.le_add_right _ _, Nat.le_add_right _ _⟩
        · cases hr
      · cases hr
    · cases hr
      exact ⟨Nat.le_add_right _ _, Nat.le_add_right _ _⟩
  · cases hr
theorem am_invoke_up {E : am_En} {call : am_Ca} {rows : List (Nat × Nat × Nat × Nat)} {cn : Nat → Nat} {a b c : Nat} {S : am_St} {x : am_St ⊕ am_Re} (hr : am_invoke E call rows cn a b c S = some x) : am_up S.2.2.2.2.1 S.2.2.2.2.2 x := by
  obtain ⟨pc, lv, st, h, nc, ns⟩ := S
  unfold am_invoke at hr
  dsimp only at hr
  split at hr
  · split at hr
    · split at hr
      · cases hr
        exact ⟨Nat.le_refl _, Nat.le_refl _⟩
      · cases hr
    · split at hr
      · split at hr
        · exact am_back_up hr
        · cases hr
      · cases hr
    all_goals first
      | (split at hr
         · exact am_back_up hr
         · cases hr)
      | cases hr
  · cases hr
theorem am_make_up {E : am_En} {dd : Nat} {rows : List (Nat × Nat × Nat × Nat)} {a b c : Nat} {S : am_St} {x : am_St ⊕ am_Re} (hr : am_make E dd rows a b c S = some x) : am_up S.2.2.2.2.1 S.2.2.2.2.2 x := by
  obtain ⟨pc, lv, st, h, nc, ns⟩ := S
  unfold am_make at hr
  dsimp only at hr
  split at hr
  · exact am_liftN_up hr
  · split at hr
    · cases hr
      exact ⟨Nat.le_add_right _ _, Nat.le_add_right _ _⟩
    · cases hr
theorem am_ireturn_up {ret : Option FieldType} {st : List Value} {h : List am_C} {nc ns : Nat} {x : am_St ⊕ am_Re} (hr : am_ireturn ret st h nc ns = some x) : am_up nc ns x := by
  unfold am_ireturn at hr
  split at hr
  · split at hr
    · cases hr
      exact ⟨Nat.le_refl _, Nat.le_refl _⟩
    all_goals first
      | (split at hr
         · cases hr
           exact ⟨Nat.le_refl _, Nat.le_refl _⟩
         · cases hr)
      | cases hr
  · cases hr
theorem am_lreturn_up {ret : Option FieldType} {st : List Value} {h : List am_C} {nc ns : Nat} {x : am_St ⊕ am_Re} (hr : am_lreturn ret st h nc ns = some x) : am_up nc ns x := by
  unfold am_lreturn at hr
  split at hr <;> cases hr
  exact ⟨Nat.le_refl _, Nat.le_refl _⟩
theorem am_areturn_up {ret : Option FieldType} {st : List Value} {h : List am_C} {nc ns : Nat} {x : am_St ⊕ am_Re} (hr : am_areturn ret st h nc ns = some x) : am_up nc ns x := by
  unfold am_areturn at hr
  split at hr <;> cases hr <;> exact ⟨Nat.le_refl _, Nat.le_refl _⟩
theorem am_return_up {ret : Option FieldType} {st : List Value} {h : List am_C} {nc ns : Nat} {x : am_St ⊕ am_Re} (hr : am_return ret st h nc ns = some x) : am_up nc ns x := by
  unfold am_return at hr
  split at hr <;> cases hr
  exact ⟨Nat.le_refl _, Nat.le_refl _⟩
theorem am_step_up {E : am_En} {cn : Nat → Nat} {dd : Nat} {call : am_Ca} {me : am_M} {t : am_I} {S : am_St} {x : am_St ⊕ am_Re} (hr : am_step E cn dd call me t S = some x) : am_up S.2.2.2.2.1 S.2.2.2.2.2 x := by
  obtain ⟨i, len, a, b, c⟩ := t
  unfold am_step at hr
  dsimp only at hr
  split at hr <;> first
    | exact am_liftH_up hr
    | exact am_liftN_up hr
    | exact am_make_up hr
    | exact am_lift_up hr
    | exact am_invoke_up hr
    | exact am_ireturn_up hr
    | exact am_lreturn_up hr
    | exact am_areturn_up hr
    | exact am_return_up hr
theorem am_run_up {E : am_En} {cn : Nat → Nat} {dd : Nat} {call : am_Ca} {me : am_M} {r : am_Re} : ∀ (n : Nat) (S : am_St), am_run E cn dd call me n S = some r → S.2.2.2.2.1 ≤ r.2.2.1 ∧ S.2.2.2.2.2 ≤ r.2.2.2 := by
  intro n
  induction n with
  | zero => intro S h; cases h
  | succ n ih =>
    intro S h
    unfold am_run at h
    split at h
    · split at h
      · rename_i S' hs
        obtain ⟨h1, h2⟩ := am_step_up hs
        obtain ⟨h3, h4⟩ := ih S' h
        exact ⟨Nat.le_trans h1 h3, Nat.le_trans h2 h4⟩
      · rename_i r' hs
        cases h
        exact am_step_up hs
      · cases h
    · cases h
end
section
/-! ===== THE PURE MACHINE, part 16: a step of it is a step of the machine ===== -/
/-- what is known of the tables at a state -/
def am_At (K : am_Ta) (D : va_G) (cA : Nat → ClassId) (s : State) : Prop := (∀ w ∈ K.1, ∀ a : Array Value, w.before a s = true) ∧ va_K D K.2.1 (am_tys cA) s ∧ ∀ x y, x < 3 → y < 3 → x ≠ y → va_Nc (K.2.2.2.1 x) (K.2.2.2.1 y) s
theorem am_At.warm {K : am_Ta} {D : va_G} {cA : Nat → ClassId} {s U : State} (hc : ∀ w ∈ K.1, am_carry w = true) (hW : s.WarmedH U.vm) (h : am_At K D cA s) : am_At K D cA U :=
  ⟨fun w hw a => am_carried (hc w hw) hW (h.1 w hw a), va_K.moved hW.alike h.2.1, fun x y h1 h2 h3 => (h.2.2 x y h1 h2 h3).moved hW.alike⟩
/-- the machine's state is the pure machine's -/
def am_good (E : am_En) (K : am_Ta) (D : va_G) (cA : Nat → ClassId) (A : Nat → Prop) (H0 : Heap) (s : State) (nL : Nat) (ad : Nat → Nat) (ls : Array Slot) (S : am_St) (H : Heap) (locs : List Loc) : Prop :=
  lv_has ls nL (am_L ad S.2.1) ∧ am_ok3 S.2.1 S.2.2.1 S.2.2.2.1 ∧ va_P D K.2.1 (am_W cA ad S.2.2.2.1) H ∧ va_D A (am_W cA ad S.2.2.2.1) ∧ va_S A H0 H locs ∧ am_X E.1.1 E.1.2 E.2.1.1 E.2.1.2 K.2.2.1 E.2.2.2.2.2.2 A ad s H
def am_ex (n : Nat) (ad ad' : Nat → Nat) : Prop := ∀ k, (k < n ∨ 1000000 ≤ k) → ad' k = ad k
theorem am_ex.rf {n : Nat} {ad : Nat → Nat} : am_ex n ad ad := fun _ _ => rfl
theorem am_ex.tr {n k : Nat} {a b c : Nat → Nat} (h1 : am_ex n a b) (hn : n ≤ k) (h2 : am_ex k b c) : am_ex n a c := fun j hj => by
  rw [h2 j (hj.elim (fun z => Or.inl (Nat.lt_of_lt_of_le z hn)) Or.inr)]
  exact h1 j hj
theorem am_ex.ad {n q : Nat} {ad : Nat → Nat} (hn : n < 1000000) : am_ex n ad (am_ad ad n q) := fun k hk => am_ad_ne hn hk
/-- how a method's end is seen: cells lie where they lay, the answer or what is thrown -/
def am_Qc (K : am_Ta) (D : va_G) (cA : Nat → ClassId) (A : Nat → Prop) (H0 : Heap) (s : State) (n0 : Nat) (ad0 : Nat → Nat) (r : am_Re) : Outcome → Heap → Vm → Prop := fun o H1 _ =>
  ∃ ad' : Nat → Nat, am_ex n0 ad0 ad' ∧ n0 ≤ r.2.1.length ∧ am_okH r.2.1.length r.2.1 ∧ va_P D K.2.1 (am_W cA ad' r.2.1) H1 ∧ va_D A (am_W cA ad' r.2.1) ∧ va_S A H0 H1 [] ∧ (match r.1 with
    | .inl v => o = .returned (v.map (am_v ad')) ∧ ∀ w, v = some w → am_okv r.2.1.length w
    | .inr x => x < 3 ∧ ∃ (q : Addr) (cell : Cell), o = .threw q ∧ H1[q]? = some cell ∧ cell.vm = .none ∧ s.vm.findClass (K.2.2.2.1 x) = some cell.cls ∧ A q ∧ ∀ k, k < r.2.1.length → ad' k ≠ q)
def am_room (d nc ns : Nat) : Room := { frames := d, cells := nc, slots := ns, locals := 32 * d + 100 }
theorem am_frame {A : Nat → Prop} {H0 H H1 : Heap} {locs locs1 : List Loc} (hA : ∀ q, H0.size ≤ q → A q) (h : va_S A H0 H locs) (h1 : va_S A H0 H1 locs1) : ∀ a : Nat, a < H.size → ¬ A a → H1[a]? = H[a]? := fun a _ ha => by
  have hlt : a < H0.size := Nat.not_le.mp fun z => ha (hA a z)
  rw [h1.2.1 a hlt ha, h.2.1 a hlt ha]
section AMS
variable {E : am_En} {K : am_Ta} {cn : Nat → Nat} {pg : Nat → am_M} {D : va_G} {cA : Nat → ClassId} {A : Nat → Prop} {H0 : Heap}
variable {p : Program} {l : Launch} {e : Env} {R : Room} {s : State} {m : MethodId} {args : Array Value} {below : List Frame} {meth : Method} {c : Code} {H : Heap} {locs : List Loc} {Q : State → Prop} {me : am_M} {ad : Nat → Nat} {ls : Array Slot}
/-- the goal behind a step -/
abbrev am_go (E : am_En) (K : am_Ta) (D : va_G) (cA : Nat → ClassId) (A : Nat → Prop) (H0 : Heap) (p : Program) (l : Launch) (e : Env) (R : Room) (s : State) (m : MethodId) (args : Array Value) (below : List Frame) (meth : Method) (c : Code) (Q : State → Prop) (nL : Nat) (ad : Nat → Nat) (n0 : Nat) (S' : am_St) : Prop :=
  ∀ (ad' : Nat → Nat) (ls' : Array Slot) (H' : Heap) (locs' : List Loc), am_good E K D cA A H0 s nL ad' ls' S' H' locs' → am_ex n0 ad ad' → n0 ≤ S'.2.2.2.1.length → W p l e R s m args below meth c H' locs' S'.2.2.2.2.1 S'.2.2.2.2.2 Q (F0 m S'.1 ls' (S'.2.2.1.map (am_v ad')))
variable {pc : Nat} {lv : List (Nat × Value)} {st : List Value} {h : List am_C} {nc ns : Nat} {S' : am_St} {i : Instr} {len a b k : Nat}
theorem am_s_pure (hx : p.tables.exec = Jvm.exec) (hb : c.code = me.2.1) (hd : decode me.2.1 pc = .ok (i, len)) (hn : am_len i len = true) (hg : am_good E K D cA A H0 s me.2.2.1 ad ls (pc, lv, st, h, nc, ns) H locs)
    (hr : am_lift (am_pure i len me.2.2.1 pc lv st) h nc ns = some (.inl S')) (kk : am_go E K D cA A H0 p l e R s m args below meth c Q me.2.2.1 ad h.length S') : W p l e R s m args below meth c H locs nc ns Q (F0 m pc ls (st.map (am_v ad))) := by
  obtain ⟨pc', lv', st', hp, he⟩ := am_lift_n hr
  cases he
  obtain ⟨hl, ⟨w1, w2, w3⟩, hP, hD, hS, hX⟩ := hg
  obtain ⟨v1, v2⟩ := am_pure_wf w1 w2 hp
  exact am_pure_ok hx hb hd hn hl hp (fun ls' hl' => kk ad ls' H locs ⟨hl', ⟨v1, v2, w3⟩, hP, hD, hS, hX⟩ am_ex.rf (Nat.le_refl _))
/-- instructions that only read cells -/
theorem am_s_read {f : am_FH} (hg : am_good E K D cA A H0 s me.2.2.1 ad ls (pc, lv, st, h, nc, ns) H locs) (hr : am_liftH (f pc lv st h) nc ns = some (.inl S'))
    (hwf : ∀ {pc' lv' st' h'}, am_ok3 lv st h → f pc lv st h = some (pc', lv', st', h') → am_ok3 lv' st' h' ∧ h.length = h'.length)
    (row : ∀ {pc' lv' st' h'}, f pc lv st h = some (pc', lv', st', h') → (lv = lv' → h = h' → W p l e R s m args below meth c H locs nc ns Q (F0 m pc' ls (st'.map (am_v ad)))) → W p l e R s m args below meth c H locs nc ns Q (F0 m pc ls (st.map (am_v ad))))
    (kk : am_go E K D cA A H0 p l e R s m args below meth c Q me.2.2.1 ad h.length S') : W p l e R s m args below meth c H locs nc ns Q (F0 m pc ls (st.map (am_v ad))) := by
  obtain ⟨pc', lv', st', h', hp, he⟩ := am_liftH_n hr
  cases he
  obtain ⟨hl, hw, hP, hD, hS, hX⟩ := hg
  obtain ⟨v1, v2⟩ := hwf hw hp
  refine row hp (fun e1 e2 => ?_)
  subst e1
  subst e2
  exact kk ad ls H locs ⟨hl, v1, hP, hD, hS, hX⟩ am_ex.rf (Nat.le_refl _)
/-- instructions that write a cell -/
theorem am_s_write {f : am_FH} (hA : ∀ q, H0.size ≤ q → A q) (hg : am_good E K D cA A H0 s me.2.2.1 ad ls (pc, lv, st, h, nc, ns) H locs) (hr : am_liftH (f pc lv st h) nc ns = some (.inl S'))
    (hwf : ∀ {pc' lv' st' h'}, am_ok3 lv st h → f pc lv st h = some (pc', lv', st', h') → am_ok3 lv' st' h' ∧ h.length = h'.length)
    (row : ∀ {pc' lv' st' h'}, f pc lv st h = some (pc', lv', st', h') → (∀ (H1 : Heap) (locs1 : List Loc), lv = lv' → va_P D K.2.1 (am_W cA ad h') H1 → va_D A (am_W cA ad h') → va_S A H0 H1 locs1 → W p l e R s m args below meth c H1 locs1 nc ns Q (F0 m pc' ls (st'.map (am_v ad)))) → W p l e R s m args below meth c H locs nc ns Q (F0 m pc ls (st.map (am_v ad))))
    (kk : am_go E K D cA A H0 p l e R s m args below meth c Q me.2.2.1 ad h.length S') : W p l e R s m args below meth c H locs nc ns Q (F0 m pc ls (st.map (am_v ad))) := by
  obtain ⟨pc', lv', st', h', hp, he⟩ := am_liftH_n hr
  cases he
  obtain ⟨hl, hw, hP, hD, hS, hX⟩ := hg
  obtain ⟨v1, v2⟩ := hwf hw hp
  refine row hp (fun H1 locs1 e1 a1 a2 a3 => ?_)
  subst e1
  exact kk ad ls H1 locs1 ⟨hl, v1, a1, a2, a3, hX.kept (am_frame hA hS a3)⟩ am_ex.rf (by rw [← v2]; exact Nat.le_refl _)
/-- instructions that make a cell -/
theorem am_s_new {f : am_FN} (hso : am_okv 0 E.2.2.2.2.2.2) (hA : ∀ q, H0.size ≤ q → A q) (hg : am_good E K D cA A H0 s me.2.2.1 ad ls (pc, lv, st, h, nc, ns) H locs) (hr : am_liftN (f pc lv st h) nc ns = some (.inl S'))
    (hwf : ∀ {pc' lv' st' h' n}, am_ok3 lv st h → f pc lv st h = some (pc', lv', st', h', n) → am_ok3 lv' st' h' ∧ h'.length = h.length + 1)
    (row : ∀ {pc' lv' st' h' n}, f pc lv st h = some (pc', lv', st', h', n) → S'.2.2.2.2.2 = ns + n → S'.2.2.2.2.1 = nc + 1 → (lv = lv' → h.length < 1000000 → am_Knew p l e R s m args below meth c locs nc ns Q D K.2.1 A H0 cA ad h h' ls pc' st' n) → W p l e R s m args below meth c H locs nc ns Q (F0 m pc ls (st.map (am_v ad))))
    (kk : am_go E K D cA A H0 p l e R s m args below meth c Q me.2.2.1 ad h.length S') : W p l e R s m args below meth c H locs nc ns Q (F0 m pc ls (st.map (am_v ad))) := by
  obtain ⟨pc', lv', st', h', n, hp, he⟩ := am_liftN_n hr
  cases he
  obtain ⟨hl, hw, hP, hD, hS, hX⟩ := hg
  obtain ⟨v1, v2⟩ := hwf hw hp
  refine row hp rfl rfl (fun e1 hn q H1 a1 a2 a3 => ?_)
  subst e1
  have hx : am_ex h.length ad (am_ad ad h.length q) := am_ex.ad hn
  exact kk (am_ad ad h.length q) ls H1 locs ⟨by rw [am_L_ad hn hw.1]; exact hl, v1, a1, a2, a3, (hX.kept (am_frame hA hS a3)).ext hso (fun k hk => hx k (Or.inr hk))⟩ hx (by rw [v2]; exact Nat.le_succ _)
end AMS
end
section
/-! ===== THE PURE MACHINE, part 17: behind a call ===== -/
theorem am_v_ex {n : Nat} {ad ad' : Nat → Nat} {v : Value} (hx : am_ex n ad ad') (h : am_okv n v) : am_v ad' v = am_v ad v := by
  cases v <;> try rfl
  exact congrArg Value.ref (hx _ h)
theorem am_L_ex {n : Nat} {ad ad' : Nat → Nat} {lv : List (Nat × Value)} (hx : am_ex n ad ad') (h : am_okL n lv) : am_L ad' lv = am_L ad lv := by
  unfold am_L
  exact List.map_congr_left (fun q hq => by rw [am_v_ex hx (h q hq)])
theorem am_S_ex {n : Nat} {ad ad' : Nat → Nat} {st : List Value} (hx : am_ex n ad ad') (h : am_okS n st) : st.map (am_v ad') = st.map (am_v ad) := List.map_congr_left (fun q hq => am_v_ex hx (h q hq))
theorem am_W_mono {p : Program} {l : Launch} {e : Env} {R : Room} {s : State} {m : MethodId} {args : Array Value} {below : List Frame} {meth : Method} {c : Code} {H : Heap} {locs : List Loc} {cells slots : Nat} {Q Q' : State → Prop} {g : JFrame} (h : ∀ t, Q t → Q' t) (k : W p l e R s m args below meth c H locs cells slots Q g) : W p l e R s m args below meth c H locs cells slots Q' g := fun T hT X => by
  obtain ⟨t, a, b⟩ := k T hT X
  exact ⟨t, a, h t b⟩
/-- calls are sound down to a depth -/
def am_CS (l : Launch) (E : am_En) (K : am_Ta) (pg : Nat → am_M) (D : va_G) (cA : Nat → ClassId) (A : Nat → Prop) (H0 : Heap) (call : am_Ca) (d : Nat) : Prop :=
  ∀ (mi : Nat) (av : List Value) (h : List am_C) (r : am_Re), call mi av h = some r → am_okS h.length av → am_okH h.length h → ∀ (p : Program) (e : Env) (s : State) (m : MethodId) (below : List Frame) (meth : Method) (c : Code) (H : Heap) (ad : Nat → Nat), p.tables.exec = Jvm.exec →
    am_Is (pg mi).1 (pg mi).2.1 (pg mi).2.2.1 (pg mi).2.2.2.1 (pg mi).2.2.2.2.1 s m meth c → am_At K D cA s → va_P D K.2.1 (am_W cA ad h) H → va_D A (am_W cA ad h) → va_S A H0 H [] → am_X E.1.1 E.1.2 E.2.1.1 E.2.1.2 K.2.2.1 E.2.2.2.2.2.2 A ad s H →
    W p l e (am_room d r.2.2.1 r.2.2.2) s m (av.map (am_v ad)).toArray below meth c H [] 0 0 (am_MQ below (am_Qc K D cA A H0 s h.length ad r) s r.2.2.1 r.2.2.2 A) (entryFrame m (av.map (am_v ad)).toArray (pg mi).2.2.1)
section AMB
variable {E : am_En} {K : am_Ta} {cn : Nat → Nat} {pg : Nat → am_M} {D : va_G} {cA : Nat → ClassId} {A : Nat → Prop} {H0 : Heap}
variable {p : Program} {l : Launch} {e : Env} {R : Room} {s : State} {m : MethodId} {args : Array Value} {below : List Frame} {meth : Method} {c : Code} {H : Heap} {locs : List Loc} {Q : State → Prop} {mi : Nat} {ad : Nat → Nat} {ls : Array Slot}
variable {pc : Nat} {lv : List (Nat × Value)} {st rest : List Value} {h : List am_C} {nc ns : Nat} {a d : Nat}
theorem am_callee (hc : ∀ w ∈ K.1, am_carry w = true) {call : am_Ca} (hcs : am_CS l E K pg D cA A H0 call d) {av : List Value} {r : am_Re} (hcall : call a av h = some r) (hx : p.tables.exec = Jvm.exec) (hAt : am_At K D cA s) (hw : am_okS h.length av) (hH : am_okH h.length h) (hP : va_P D K.2.1 (am_W cA ad h) H) (hD : va_D A (am_W cA ad h)) (hS : va_S A H0 H locs) (hX : am_X E.1.1 E.1.2 E.2.1.1 E.2.1.2 K.2.2.1 E.2.2.2.2.2.2 A ad s H) :
    am_Callee p l e (am_room d r.2.2.1 r.2.2.2) (pg a).1 (pg a).2.1 (pg a).2.2.1 (pg a).2.2.2.1 (pg a).2.2.2.2.1 s H (av.map (am_v ad)).toArray (am_Qc K D cA A H0 s h.length ad r) r.2.2.1 r.2.2.2 A := by
  intro s' mk below' methk ck hW hh hI
  refine am_W_mono ?_ (hcs a av h r hcall hw hH p e s' mk below' methk ck H ad hx hI (hAt.warm hc hW) hP hD ⟨hS.1, hS.2.1, fun z hz => nomatch hz⟩ (hX.warm hW))
  intro t ht
  obtain ⟨o, h1, h2, hq, h3⟩ := ht
  refine ⟨o, h1, h2, ?_, h3⟩
  obtain ⟨ad', q1, q2, q3, q4, q5, q6, q7⟩ := hq
  refine ⟨ad', q1, q2, q3, q4, q5, q6, ?_⟩
  split at q7
  · exact q7
  · obtain ⟨z1, q, cell, z2, z3, z4, z5, z6⟩ := q7
    exact ⟨z1, q, cell, z2, z3, z4, by rw [← hW.alike.findClass]; exact z5, z6⟩
theorem am_find_split {rows : List (Nat × Nat × Nat × Nat)} {x t : Nat} (hf : am_find E rows pc x = some t) : ∃ pre r suf, rows = pre ++ r :: suf ∧ (∀ y ∈ pre, (y.1 ≤ pc ∧ pc < y.2.1) ∧ E.2.2.2.2.2.1 y.2.2.2 ≠ x) ∧ (r.1 ≤ pc ∧ pc < r.2.1) ∧ E.2.2.2.2.2.1 r.2.2.2 = x ∧ r.2.2.1 = t := by
  induction rows with
  | nil => cases hf
  | cons r rs ih =>
    unfold am_find at hf
    split at hf
    · rename_i hc
      split at hf
      · rename_i hx
        cases hf
        exact ⟨[], r, rs, rfl, (fun y hy => nomatch hy), hc, hx, rfl⟩
      · rename_i hx
        obtain ⟨pre, r', suf, h1, h2, h3⟩ := ih hf
        refine ⟨r :: pre, r', suf, by rw [h1]; rfl, fun y hy => ?_, h3⟩
        rcases List.mem_cons.mp hy with rfl | hy
        · exact ⟨hc, hx⟩
        · exact h2 y hy
    · cases hf
theorem am_cov {z : ExceptionTableEntry} : covers z pc = true ↔ z.startPc ≤ pc ∧ pc < z.endPc := by
  simp [covers]
theorem am_s_back (hPV : am_PV E K cn pg) (hA : ∀ q, H0.size ≤ q → A q) (hAt : am_At K D cA s) (hown : s.vm.findClass (pg mi).1.cls = some m.cls) (hrows : c.exceptionTable.toList.map (fun h => (h.startPc, h.endPc, h.handlerPc, h.catchType)) = (pg mi).2.2.2.2.1) (hlocks : meth.locks = false)
    (hg : am_good E K D cA A H0 s (pg mi).2.2.1 ad ls (pc, lv, st, h, nc, ns) H locs) (hrest : am_okS h.length rest) {r0 : am_Re} {x : am_St ⊕ am_Re} (hk : am_back E (pg mi).2.2.2.2.1 pc lv rest nc ns (some r0) = some x)
    (hin : ∀ S', x = .inl S' → am_go E K D cA A H0 p l e R s m args below meth c Q (pg mi).2.2.1 ad h.length S') {n0 : Nat} {ad0 : Nat → Nat} (hout : ∀ r, x = .inr r → Q = am_MQ below (am_Qc K D cA A H0 s n0 ad0 r) s r.2.2.1 r.2.2.2 A) (hex0 : am_ex n0 ad0 ad) (hn0 : n0 ≤ h.length) :
    ∀ (o : Outcome) (H1 : Heap) (vm1 : Vm) (L : List Loc), (∀ q ∈ L, A q.base) → am_Qc K D cA A H0 s h.length ad r0 o H1 vm1 → s.WarmedH vm1 → am_next p l e R s m args below meth c H1 (locs ++ L) (nc + r0.2.2.1) (ns + r0.2.2.2) Q pc ls (rest.map (am_v ad)) o := by
  intro o H1 vm1 L hL hq hW
  obtain ⟨hl, ⟨w1, w2, w3⟩, hP, hD, hS, hX⟩ := hg
  obtain ⟨ad', hx, hn, hH', hP', hD', hS', hend⟩ := hq
  have hS2 : va_S A H0 H1 (locs ++ L) := ⟨hS'.1, hS'.2.1, fun z hz => (List.mem_append.mp hz).elim (hS.2.2 z) (hL z)⟩
  have hX2 : am_X E.1.1 E.1.2 E.2.1.1 E.2.1.2 K.2.2.1 E.2.2.2.2.2.2 A ad' s H1 := (hX.kept (am_frame hA hS hS')).ext (hPV.2.2.2.2.2.2.2.2.2 0) (fun k hk => hx k (Or.inr hk))
  obtain ⟨oo, h', k, n⟩ := r0
  dsimp only at hn hH' hP' hD' hend ⊢
  have hlL : lv_has ls (pg mi).2.2.1 (am_L ad' lv) := by rw [am_L_ex hx w1]; exact hl
  cases oo with
  | inl v =>
    obtain ⟨rfl, hv⟩ := hend
    unfold am_back at hk
    dsimp only at hk
    cases hk
    have hstk : (v.toList ++ rest).map (am_v ad') = (v.map (am_v ad')).toList ++ rest.map (am_v ad) := by
      rw [List.map_append, am_S_ex hx hrest]
      cases v <;> rfl
    have hok : am_okS h'.length (v.toList ++ rest) := fun z hz => by
      rcases List.mem_append.mp hz with hz | hz
      · cases v with
        | none => cases hz
        | some w =>
          rw [List.mem_singleton.mp (show z ∈ [w] from hz)]
          exact hv w rfl
      · exact am_okv_mono hn (hrest z hz)
    have go := hin _ rfl ad' ls H1 (locs ++ L) ⟨hlL, ⟨am_okL_mono hn w1, hok, hH'⟩, hP', hD', hS2, hX2⟩ hx hn
    dsimp only at go
    rw [hstk] at go
    exact go
  | inr x0 =>
    obtain ⟨hx3, q, cell, rfl, c1, c2, c3, c4, c5⟩ := hend
    unfold am_back at hk
    dsimp only at hk
    show am_T p l e R s m args below meth c H1 (locs ++ L) (nc + k) (ns + n) Q (F0 m pc ls (rest.map (am_v ad))) q
    split at hk
    · split at hk
      · rename_i t hf
        split at hk
        · rename_i hlen
          cases hk
          obtain ⟨pre, r, suf, e1, e2, e3, e4, e5⟩ := am_find_split hf
          obtain ⟨-, -, -, -, -, -, -, hR, hC, hso⟩ := hPV
          have hsplit0 : ∃ pre' x' suf', c.exceptionTable.toList = pre' ++ x' :: suf' ∧ pre'.map (fun h => (h.startPc, h.endPc, h.handlerPc, h.catchType)) = pre ∧ (x'.startPc, x'.endPc, x'.handlerPc, x'.catchType) = r := by
            rw [e1] at hrows
            obtain ⟨l1, l2, g1, g2, g3⟩ := List.map_eq_append_iff.mp hrows
            obtain ⟨y, ys, g4, g5, g6⟩ := List.map_eq_cons_iff.mp g3
            exact ⟨l1, y, ys, by rw [g1, g4], g2, g5⟩
          obtain ⟨pre', x', suf', s1, s2, s3⟩ := hsplit0
          have hrow : ∀ z ∈ (pg mi).2.2.2.2.1, z.2.2.2 ≠ 0 ∧ E.2.2.2.2.2.1 z.2.2.2 < 3 ∧ Cond.classLink (pg mi).1.cls z.2.2.2 (K.2.2.2.1 (E.2.2.2.2.2.1 z.2.2.2)) ∈ K.1 ∧ Cond.castable (K.2.2.2.1 (E.2.2.2.2.2.1 z.2.2.2)) (K.2.2.2.1 (E.2.2.2.2.2.1 z.2.2.2)) ∈ K.1 := fun z hz => hR mi z hz
          have hrr : r ∈ (pg mi).2.2.2.2.1 := by rw [e1]; exact List.mem_append_right _ List.mem_cons_self
          obtain ⟨r1, r2, r3, r4⟩ := hrow r hrr
          rw [e4] at r3 r4
          subst s3
          have hcx : (K.2.1[E.2.2.2.2.1 x0]?).isSome := by obtain ⟨T, hT⟩ := hC x0 hx3; rw [hT]; rfl
          obtain ⟨T0, hT0⟩ := hC x0 hx3
          refine am_caught (own := (pg mi).1.cls) (name := K.2.2.2.1 x0) (E := K.2.2.2.1 x0) hown pre' x' suf' s1 (fun z hz => ?_) (am_cov.mpr e3) r1 (hAt.1 _ r3 _) (hAt.1 _ r4 _) c1 c2 c3 ?_
          · have hz' : (z.startPc, z.endPc, z.handlerPc, z.catchType) ∈ pre := by rw [← s2]; exact List.mem_map.mpr ⟨z, hz, rfl⟩
            obtain ⟨f1, f2⟩ := e2 _ hz'
            obtain ⟨g1, g2, g3, -⟩ := hrow _ (by rw [e1]; exact List.mem_append_left _ hz')
            exact ⟨am_cov.mpr f1, g1, _, hAt.1 _ g3 _, hAt.2.2 _ _ hx3 g2 (fun z => f2 z.symm)⟩
          · have hcl : (K.2.1[E.2.2.2.2.1 x0]?) = some (K.2.2.2.1 x0, T0, 0) := hT0
            have hKn := hAt.2.1.1 _ _ hcl
            have hcell : cell.cls = D.1 (E.2.2.2.2.1 x0) := Option.some.inj (c3.symm.trans hKn.2.1)
            have hnew : va_P D K.2.1 (am_W cA ad' h' ++ [(q, .inr (E.2.2.2.2.1 x0, []))]) H1 := hP'.app (fun j z hz => by
              have hj : j < 1 := (List.getElem?_eq_some_iff.mp hz).1
              rw [show j = 0 by omega] at hz
              cases hz
              exact ⟨_, hcl, cell, c1, hcell, c2, fun j hj => absurd hj (Nat.not_lt_zero j)⟩)
            have hDn : va_D A (am_W cA ad' h' ++ [(q, .inr (E.2.2.2.2.1 x0, []))]) := va_D.app hD' ⟨fun i j y z hy hz _ => by
                have hi : i < 1 := (List.getElem?_eq_some_iff.mp hy).1
                have hj : j < 1 := (List.getElem?_eq_some_iff.mp hz).1
                omega, fun j z hz => by
                have hj : j < 1 := (List.getElem?_eq_some_iff.mp hz).1
                rw [show j = 0 by omega] at hz
                cases hz
                exact c4⟩ (fun i j y z hy hz hyz => by
              have hj : j < 1 := (List.getElem?_eq_some_iff.mp hz).1
              rw [show j = 0 by omega] at hz
              cases hz
              unfold am_W at hy
              rw [List.getElem?_mapIdx] at hy
              cases hi : h'[i]? with
              | none => rw [hi] at hy; cases hy
              | some w =>
                rw [hi] at hy
                cases hy
                exact c5 i (List.getElem?_eq_some_iff.mp hi).1 hyz)
            have he := am_W_new (cA := cA) (ad := ad') (q := q) (x := .inr (E.2.2.2.2.1 x0, [])) (y := .inr (E.2.2.2.2.1 x0, [])) hlen hH' rfl
            rw [he] at hnew hDn
            have hx2 : am_ex h'.length ad' (am_ad ad' h'.length q) := am_ex.ad hlen
            have go := hin _ rfl (am_ad ad' h'.length q) ls H1 (locs ++ L) ⟨by rw [am_L_ex hx2 (am_okL_mono hn w1)]; exact hlL, ⟨by rw [List.length_append]; exact am_okL_mono (Nat.le_trans hn (Nat.le_add_right _ _)) w1, by rw [List.length_append]; exact am_okS_c.mpr ⟨Or.inl (Nat.lt_succ_self _), fun z hz => nomatch hz⟩, by rw [List.length_append]; exact am_okH_push (am_okH_mono (Nat.le_add_right _ _) hH') (fun v hv => nomatch hv)⟩, hnew, hDn, hS2, hX2.ext (hso 0) (fun j hj => hx2 j (Or.inr hj))⟩ (hx.tr hn hx2) (by rw [List.length_append]; exact Nat.le_trans hn (Nat.le_add_right _ _))
            dsimp only at go
            have hst : [Value.ref h'.length].map (am_v (am_ad ad' h'.length q)) = [.ref q] := congrArg (fun z => [Value.ref z]) (am_ad_self ad' h'.length q)
            rw [hst, ← e5] at go
            exact go
        · cases hk
      · cases hk
    · rename_i hcov
      cases hk
      have hQ := hout _ rfl
      subst hQ
      refine am_leaves hlocks (fun z hz => ?_) (fun z hz => hS2.2.2 z hz) (Nat.le_refl _) (Nat.le_refl _) (fun vm1 hW1 => ?_)
      · have hmem : (z.startPc, z.endPc, z.handlerPc, z.catchType) ∈ (pg mi).2.2.2.2.1 := by rw [← hrows]; exact List.mem_map.mpr ⟨z, hz, rfl⟩
        cases hcz : covers z pc with
        | false => rfl
        | true =>
          exfalso
          apply hcov
          unfold am_covered
          rw [List.any_eq_true]
          have := am_cov.mp hcz
          exact ⟨_, hmem, by simp [this.1, this.2]⟩
      · exact ⟨ad', hex0.tr hn0 hx, Nat.le_trans hn0 hn, hH', hP', hD', hS', hx3, q, cell, rfl, c1, c2, c3, c4, c5⟩
end AMB
end
section
/-! ===== THE PURE MACHINE, part 18: calls, throws and ends ===== -/
section AMI
variable {E : am_En} {K : am_Ta} {cn : Nat → Nat} {pg : Nat → am_M} {D : va_G} {cA : Nat → ClassId} {A : Nat → Prop} {H0 : Heap}
variable {p : Program} {l : Launch} {e : Env} {s : State} {m : MethodId} {args : Array Value} {below : List Frame} {meth : Method} {c : Code} {H : Heap} {locs : List Loc} {Q : State → Prop} {mi : Nat} {ad : Nat → Nat} {ls : Array Slot}
variable {pc : Nat} {lv : List (Nat × Value)} {st : List Value} {h : List am_C} {nc ns : Nat} {a b k d mc ms : Nat}
/-- a method's walk: what is known all along -/
def am_Me (K : am_Ta) (pg : Nat → am_M) (D : va_G) (cA : Nat → ClassId) (p : Program) (s : State) (m : MethodId) (meth : Method) (c : Code) (mi : Nat) : Prop :=
  p.tables.exec = Jvm.exec ∧ am_Is (pg mi).1 (pg mi).2.1 (pg mi).2.2.1 (pg mi).2.2.2.1 (pg mi).2.2.2.2.1 s m meth c ∧ am_At K D cA s
theorem am_catm (ad : Nat → Nat) (st : List Value) : ((st.map (am_v ad)).map fun v => v.category).sum = am_cat st := by
  unfold am_cat
  rw [List.map_map]
  congr 1
  exact List.map_congr_left (fun v _ => am_v_cat ad v)
theorem am_take (ad : Nat → Nat) (st : List Value) (b : Nat) : st.map (am_v ad) = (((st.take b).reverse).map (am_v ad)).reverse ++ (st.drop b).map (am_v ad) := by
  rw [List.map_reverse, List.reverse_reverse, ← List.map_append, List.take_append_drop]
theorem am_okS_take {n : Nat} (hS : am_okS n st) (b : Nat) : am_okS n (st.take b).reverse := fun v hv => hS v (List.mem_of_mem_take (List.mem_reverse.mp hv))
theorem am_okS_drop {n : Nat} (hS : am_okS n st) (b : Nat) : am_okS n (st.drop b) := fun v hv => hS v (List.mem_of_mem_drop hv)
theorem am_len_take (hb : b ≤ st.length) (ad : Nat → Nat) : (((st.take b).reverse).map (am_v ad)).length = b := by
  rw [List.length_map, List.length_reverse, List.length_take, Nat.min_eq_left hb]
theorem am_s_invoke (hPV : am_PV E K cn pg) (hA : ∀ q, H0.size ≤ q → A q) {call : am_Ca} (hcs : am_CS l E K pg D cA A H0 call d) (hM : am_Me K pg D cA p s m meth c mi) {i : Instr} {len : Nat} (hi : (∃ idx, i = .invokevirtual idx) ∨ (∃ idx, i = .invokespecial idx) ∨ ∃ idx, i = .invokestatic idx) (hV : am_V E K cn pg (pg mi) pc (i, len, a, b, k))
    (hg : am_good E K D cA A H0 s (pg mi).2.2.1 ad ls (pc, lv, st, h, nc, ns) H locs) {x : am_St ⊕ am_Re} (hr : am_invoke E call (pg mi).2.2.2.2.1 cn a b k (pc, lv, st, h, nc, ns) = some x) (hup : (am_cnt x).1 ≤ mc ∧ (am_cnt x).2 ≤ ms)
    (hin : ∀ S', x = .inl S' → am_go E K D cA A H0 p l e (am_room (d + 1) mc ms) s m args below meth c Q (pg mi).2.2.1 ad h.length S') {n0 : Nat} {ad0 : Nat → Nat} (hout : ∀ r, x = .inr r → Q = am_MQ below (am_Qc K D cA A H0 s n0 ad0 r) s r.2.2.1 r.2.2.2 A) (hex0 : am_ex n0 ad0 ad) (hn0 : n0 ≤ h.length) :
    W p l e (am_room (d + 1) mc ms) s m args below meth c H locs nc ns Q (F0 m pc ls (st.map (am_v ad))) := by
  obtain ⟨hx, hI, hAt⟩ := hM
  obtain ⟨hnamed, hmeth, hcode, hb0, hml, hret, hlocks, hrows⟩ := id hI
  have hown : s.vm.findClass (pg mi).1.cls = some m.cls := findClass_of_methodNamed hnamed
  obtain ⟨hd, hlen, hv⟩ := hV
  dsimp only at hd hlen hv
  have hl3 : len = 3 := by rcases hi with ⟨idx, rfl⟩ | ⟨idx, rfl⟩ | ⟨idx, rfl⟩ <;> exact eq_of_beq hlen
  subst hl3
  have hg0 := hg
  obtain ⟨hl, ⟨w1, w2, w3⟩, hP, hD, hS, hX⟩ := hg
  dsimp only at hl w1 w2 w3 hP hD
  have hsz : ls.size = (pg mi).2.2.1 := hl.1
  have hc : ∀ w ∈ K.1, am_carry w = true := hPV.2.1
  unfold am_invoke at hr
  dsimp only at hr
  split at hr
  · rename_i hbl
    have hwA := am_okS_take w2 b
    have hwR := am_okS_drop w2 b
    -- what every call has in common
    have common : ∀ {rest : List Value} {av : List Value}, am_okS h.length rest → am_okS h.length av → am_back E (pg mi).2.2.2.2.1 pc lv rest nc ns (call a av h) = some x →
        ∃ r0 : am_Re, (nc + r0.2.2.1 ≤ mc ∧ ns + r0.2.2.2 ≤ ms) ∧ am_Callee p l e (am_room d r0.2.2.1 r0.2.2.2) (pg a).1 (pg a).2.1 (pg a).2.2.1 (pg a).2.2.2.1 (pg a).2.2.2.2.1 s H (av.map (am_v ad)).toArray (am_Qc K D cA A H0 s h.length ad r0) r0.2.2.1 r0.2.2.2 A ∧
          ∀ (o : Outcome) (H1 : Heap) (vm1 : Vm) (L : List Loc), (∀ q ∈ L, A q.base) → am_Qc K D cA A H0 s h.length ad r0 o H1 vm1 → s.WarmedH vm1 → am_next p l e (am_room (d + 1) mc ms) s m args below meth c H1 (locs ++ L) (nc + r0.2.2.1) (ns + r0.2.2.2) Q pc ls (rest.map (am_v ad)) o := by
      intro rest av hrest hav hk
      cases hcall : call a av h with
      | none => rw [hcall] at hk; cases hk
      | some r0 =>
        rw [hcall] at hk
        refine ⟨r0, ?_, am_callee hc hcs hcall hx hAt hav w3 hP hD hS hX, am_s_back hPV hA hAt hown hrows hlocks hg0 hrest hk hin hout hex0 hn0⟩
        have hcnt : nc + r0.2.2.1 ≤ (am_cnt x).1 ∧ ns + r0.2.2.2 ≤ (am_cnt x).2 := by
          obtain ⟨oo, h', k', n'⟩ := r0
          unfold am_back at hk
          cases oo with
          | inl v =>
            dsimp only at hk
            cases hk
            exact ⟨Nat.le_refl _, Nat.le_refl _⟩
          | inr y =>
            dsimp only at hk
            split at hk
            · split at hk
              · split at hk
                · cases hk
                  exact ⟨Nat.le_refl _, Nat.le_refl _⟩
                · cases hk
              · cases hk
            · cases hk
              exact ⟨Nat.le_refl _, Nat.le_refl _⟩
        exact ⟨Nat.le_trans hcnt.1 hup.1, Nat.le_trans hcnt.2 hup.2⟩
    have hroom : ∀ {r0 : am_Re}, (pg a).2.2.1 ≤ 13 → (am_room d r0.2.2.1 r0.2.2.2).frames + 1 ≤ (am_room (d + 1) mc ms).frames ∧ 8 + ((pg a).2.2.1 + 11) + (am_room d r0.2.2.1 r0.2.2.2).locals ≤ (am_room (d + 1) mc ms).locals := fun {r0} h13 => ⟨Nat.le_refl _, by show 8 + ((pg a).2.2.1 + 11) + (32 * d + 100) ≤ 32 * (d + 1) + 100; omega⟩
    have hstk := am_take ad st b
    split at hr
    · -- Object's own constructor
      rename_i q rest hdrop
      split at hr
      · rename_i hcat
        cases hr
        rcases hi with ⟨idx, rfl⟩ | ⟨idx, rfl⟩ | ⟨idx, rfl⟩
        · exact absurd hv.1 (by decide)
        · obtain ⟨rfl, v1, v2, v3⟩ := hv.1 rfl
          have hst0 : st = .ref q :: rest := by simpa using hdrop
          subst hst0
          refine W.objInit hx hb0 hown (hAt.1 _ v1 _) (hAt.1 _ v2 _) (hAt.1 _ v3 _) rfl (hsz.trans hml.symm) rfl hd (Nat.succ_le_succ (Nat.zero_le _)) ?_ ?_
          · have := am_catm ad rest
            show 2 * 0 + ((rest.map (am_v ad)).map fun v => v.category).sum + 12 ≤ 32 * (d + 1) + 100
            omega
          · have go := hin _ rfl ad ls H locs ⟨hl, ⟨w1, fun v hv => w2 v (List.mem_cons_of_mem _ hv), w3⟩, hP, hD, hS, hX⟩ am_ex.rf (Nat.le_refl _)
            exact go
        · obtain ⟨-, -, -, hz | hz | hz⟩ := hv
          · exact absurd hz.1 (by decide)
          · exact absurd hz.1 (by decide)
          · exact absurd hz.1 (by decide)
      · cases hr
    · -- an object of ours
      rename_i q rest hdrop
      split at hr
      · rename_i cj fs hq
        split at hr
        · rename_i hz
          obtain ⟨hcj, hcat⟩ := hz
          rcases hi with ⟨idx, rfl⟩ | ⟨idx, rfl⟩ | ⟨idx, rfl⟩
          · obtain ⟨-, ⟨e1, e2, e3, e4, e5⟩, v1, v2, v3, -⟩ := hv
            obtain ⟨C, T, N, g1, g2⟩ := v3 rfl
            rcases e5 with ⟨e5, e6⟩ | ⟨-, e6⟩
            · rw [hdrop] at hstk
              obtain ⟨r0, u1, u2, u3⟩ := common (rest := rest) (av := .ref q :: (st.take b).reverse) (fun v hv => hwR v (by rw [hdrop]; exact List.mem_cons_of_mem _ hv)) (am_okS_c.mpr ⟨hwR _ (by rw [hdrop]; exact List.mem_cons_self), hwA⟩) hr
              rw [e6] at u2
              subst hcj
              obtain ⟨cellB, b1, b2, b3⟩ := va_recv hAt.2.1 hP g1 (am_W_at hq)
              have hstk2 : st.map (am_v ad) = (((st.take b).reverse).map (am_v ad)).reverse ++ .ref (ad q) :: rest.map (am_v ad) := hstk
              rw [hstk2]
              exact am_callV hx hb0 hml hsz hown e1 e2 (fun sig hsig => (am_len_take hbl ad).trans (e4 sig hsig)) (by rw [am_catm]; exact hcat) (hAt.1 _ v1 _) (hAt.1 _ v2 _) (hAt.1 _ g2 _) (hAt.1 _ e5 _) b1 b2 b3 hd (hroom e3).1 (hroom (r0 := r0) e3).2 u1.1 u1.2 u2 u3
            · cases e6
          · obtain ⟨hz | hz, -⟩ := hv.2 (by decide)
            · exact absurd hz (by decide)
            · exact absurd hz (by decide)
          · obtain ⟨-, -, -, hz | hz | hz⟩ := hv
            · exact absurd hz.1 (by decide)
            · exact absurd hz.1 (by decide)
            · exact absurd hz.1 (by decide)
        · cases hr
      · cases hr
    · -- a text
      rename_i q rest hdrop
      split at hr
      · rename_i hz
        obtain ⟨⟨hq, hqn⟩, hcat⟩ := hz
        rcases hi with ⟨idx, rfl⟩ | ⟨idx, rfl⟩ | ⟨idx, rfl⟩
        · obtain ⟨-, ⟨e1, e2, e3, e4, e5⟩, v1, v2, -, v3⟩ := hv
          have g2 := v3 rfl
          rcases e5 with ⟨e5, e6⟩ | ⟨-, e6⟩
          · rw [hdrop] at hstk
            obtain ⟨r0, u1, u2, u3⟩ := common (rest := rest) (av := .ref q :: (st.take b).reverse) (fun v hv => hwR v (by rw [hdrop]; exact List.mem_cons_of_mem _ hv)) (am_okS_c.mpr ⟨hwR _ (by rw [hdrop]; exact List.mem_cons_self), hwA⟩) hr
            rw [e6] at u2
            obtain ⟨cellB, b1, b2, b3, -⟩ := (hX.2.1 _ hqn).1
            rw [← hq] at b1
            have hstk2 : st.map (am_v ad) = (((st.take b).reverse).map (am_v ad)).reverse ++ .ref (ad q) :: rest.map (am_v ad) := hstk
            rw [hstk2]
            exact am_callV hx hb0 hml hsz hown e1 e2 (fun sig hsig => (am_len_take hbl ad).trans (e4 sig hsig)) (by rw [am_catm]; exact hcat) (hAt.1 _ v1 _) (hAt.1 _ v2 _) (hAt.1 _ g2 _) (hAt.1 _ e5 _) b1 b2 b3 hd (hroom e3).1 (hroom (r0 := r0) e3).2 u1.1 u1.2 u2 u3
          · cases e6
        · obtain ⟨hz | hz, -⟩ := hv.2 (by decide)
          · exact absurd hz (by decide)
          · exact absurd hz (by decide)
        · obtain ⟨-, -, -, hz | hz | hz⟩ := hv
          · exact absurd hz.1 (by decide)
          · exact absurd hz.1 (by decide)
          · exact absurd hz.1 (by decide)
      · cases hr
    · -- a constructor
      rename_i q rest hdrop
      split at hr
      · rename_i hcat
        rcases hi with ⟨idx, rfl⟩ | ⟨idx, rfl⟩ | ⟨idx, rfl⟩
        · obtain ⟨hz | hz, -⟩ := hv
          · exact absurd hz (by decide)
          · exact absurd hz (by decide)
        · obtain ⟨-, ⟨e1, e2, e3, e4, e5⟩, v0, vr, v1, v2, -⟩ := hv.2 (by decide)
          rcases e5 with ⟨e5, e6⟩ | ⟨-, e6⟩
          · rw [hdrop] at hstk
            obtain ⟨r0, u1, u2, u3⟩ := common (rest := rest) (av := .ref q :: (st.take b).reverse) (fun v hv => hwR v (by rw [hdrop]; exact List.mem_cons_of_mem _ hv)) (am_okS_c.mpr ⟨hwR _ (by rw [hdrop]; exact List.mem_cons_self), hwA⟩) hr
            rw [e6, vr] at u2
            rw [vr] at e5
            have hstk2 : st.map (am_v ad) = (((st.take b).reverse).map (am_v ad)).reverse ++ .ref (ad q) :: rest.map (am_v ad) := hstk
            rw [hstk2]
            exact am_callI hx hb0 hml hsz hown e1 e2 (fun sig hsig => (am_len_take hbl ad).trans (e4 sig hsig)) (by rw [am_catm]; exact hcat) v0 (hAt.1 _ (v2 rfl) _) (hAt.1 _ v1 _) (hAt.1 _ e5 _) hd (hroom e3).1 (hroom (r0 := r0) e3).2 u1.1 u1.2 u2 u3
          · cases e6
        · obtain ⟨-, -, -, hz | hz | hz⟩ := hv
          · exact absurd hz.1 (by decide)
          · exact absurd hz.1 (by decide)
          · exact absurd hz.1 (by decide)
      · cases hr
    · -- a constructor of the nest
      rename_i q rest hdrop
      split at hr
      · rename_i hcat
        rcases hi with ⟨idx, rfl⟩ | ⟨idx, rfl⟩ | ⟨idx, rfl⟩
        · obtain ⟨hz | hz, -⟩ := hv
          · exact absurd hz (by decide)
          · exact absurd hz (by decide)
        · obtain ⟨-, ⟨e1, e2, e3, e4, e5⟩, v0, vr, v1, -, v2⟩ := hv.2 (by decide)
          obtain ⟨host, v2⟩ := v2 rfl
          rcases e5 with ⟨e5, e6⟩ | ⟨-, e6⟩
          · rw [hdrop] at hstk
            obtain ⟨r0, u1, u2, u3⟩ := common (rest := rest) (av := .ref q :: (st.take b).reverse) (fun v hv => hwR v (by rw [hdrop]; exact List.mem_cons_of_mem _ hv)) (am_okS_c.mpr ⟨hwR _ (by rw [hdrop]; exact List.mem_cons_self), hwA⟩) hr
            rw [e6, vr] at u2
            rw [vr] at e5
            have hstk2 : st.map (am_v ad) = (((st.take b).reverse).map (am_v ad)).reverse ++ .ref (ad q) :: rest.map (am_v ad) := hstk
            rw [hstk2]
            exact am_callIN hx hb0 hml hsz hown e1 e2 (fun sig hsig => (am_len_take hbl ad).trans (e4 sig hsig)) (by rw [am_catm]; exact hcat) v0 (hAt.1 _ v2 _) (hAt.1 _ v1 _) (hAt.1 _ e5 _) hd (hroom e3).1 (hroom (r0 := r0) e3).2 u1.1 u1.2 u2 u3
          · cases e6
        · obtain ⟨-, -, -, hz | hz | hz⟩ := hv
          · exact absurd hz.1 (by decide)
          · exact absurd hz.1 (by decide)
          · exact absurd hz.1 (by decide)
      · cases hr
    all_goals first
      | (-- the statics
         split at hr
         · rename_i hcat
           rcases hi with ⟨idx, rfl⟩ | ⟨idx, rfl⟩ | ⟨idx, rfl⟩
           · obtain ⟨hz | hz, -⟩ := hv <;> exact absurd hz (by decide)
           · obtain ⟨hz | hz, -⟩ := hv.2 (by decide) <;> exact absurd hz (by decide)
           · obtain ⟨⟨e1, e2, e3, e4, -⟩, v1, v2, v3⟩ := hv
             obtain ⟨r0, u1, u2, u3⟩ := common (rest := st.drop b) (av := (st.take b).reverse) hwR hwA hr
             rw [hstk]
             rcases v3 with ⟨hk, e6, e5, v3⟩ | ⟨hk, e6, e5, host, v3⟩ | ⟨hk, e5, v3⟩
             · first
                 | exact absurd hk (by decide)
                 | (rw [e6] at u2
                    exact am_callS hx hb0 hml hsz hown e1 e2 (fun sig hsig => (am_len_take hbl ad).trans (e4 sig hsig)) (by rw [am_catm]; exact hcat) (hAt.1 _ v3 _) (hAt.1 _ v1 _) (hAt.1 _ v2 _) (hAt.1 _ e5 _) hd (hroom e3).1 (hroom (r0 := r0) e3).2 u1.1 u1.2 u2 u3)
             · first
                 | exact absurd hk (by decide)
                 | (rw [e6] at u2
                    exact am_callSN hx hb0 hml hsz hown e1 e2 (fun sig hsig => (am_len_take hbl ad).trans (e4 sig hsig)) (by rw [am_catm]; exact hcat) (hAt.1 _ v3 _) (hAt.1 _ v1 _) (hAt.1 _ v2 _) (hAt.1 _ e5 _) hd (hroom e3).1 (hroom (r0 := r0) e3).2 u1.1 u1.2 u2 u3)
             · first
                 | exact absurd hk (by decide)
                 | exact am_callSH hx hb0 hml hsz hown e1 e2 (fun sig hsig => (am_len_take hbl ad).trans (e4 sig hsig)) (by rw [am_catm]; exact hcat) (hAt.1 _ v3 _) (hAt.1 _ v1 _) (hAt.1 _ v2 _) (hAt.1 _ e5 _) hd (hroom e3).1 (hroom (r0 := r0) e3).2 u1.1 u1.2 u2 u3
         · cases hr)
      | cases hr
  · cases hr
end AMI
end
section
/-! ===== THE PURE MACHINE, part 19: every step, every method, every call ===== -/
section AMZ
variable {E : am_En} {K : am_Ta} {cn : Nat → Nat} {pg : Nat → am_M} {D : va_G} {cA : Nat → ClassId} {A : Nat → Prop} {H0 : Heap}
variable {p : Program} {l : Launch} {e : Env} {s : State} {m : MethodId} {args : Array Value} {below : List Frame} {meth : Method} {c : Code} {H : Heap} {locs : List Loc} {Q : State → Prop} {mi : Nat} {ad : Nat → Nat} {ls : Array Slot}
variable {pc : Nat} {lv : List (Nat × Value)} {st : List Value} {h : List am_C} {nc ns : Nat} {a b k d mc ms : Nat}
theorem am_MQ_of {Qc : Outcome → Heap → Vm → Prop} {free : Addr → Prop} {x : Array Value} {t : State} (hq : MQ below (fun _ _ o t => Qc o t.heap t.vm) x s mc ms free t) : am_MQ below Qc s mc ms free t := by
  obtain ⟨o, h1, h2, h3, L, ⟨-, h4, h5⟩, h6⟩ := hq
  exact ⟨o, h1, h2, h3, L, h4, h5, h6⟩
theorem am_s_make (hPV : am_PV E K cn pg) (hA : ∀ q, H0.size ≤ q → A q) (htr : l.stackTraces = false) (hM : am_Me K pg D cA p s m meth c mi) {idx len : Nat} (hV : am_V E K cn pg (pg mi) pc (.new idx, len, a, b, k))
    (hg : am_good E K D cA A H0 s (pg mi).2.2.1 ad ls (pc, lv, st, h, nc, ns) H locs) {x : am_St ⊕ am_Re} (hr : am_make E (d + 1) (pg mi).2.2.2.2.1 a b k (pc, lv, st, h, nc, ns) = some x) (hup : (am_cnt x).1 ≤ mc ∧ (am_cnt x).2 ≤ ms)
    (hin : ∀ S', x = .inl S' → am_go E K D cA A H0 p l e (am_room (d + 1) mc ms) s m args below meth c Q (pg mi).2.2.1 ad h.length S') {n0 : Nat} {ad0 : Nat → Nat} (hout : ∀ r, x = .inr r → Q = am_MQ below (am_Qc K D cA A H0 s n0 ad0 r) s r.2.2.1 r.2.2.2 A) (hex0 : am_ex n0 ad0 ad) (hn0 : n0 ≤ h.length) :
    W p l e (am_room (d + 1) mc ms) s m args below meth c H locs nc ns Q (F0 m pc ls (st.map (am_v ad))) := by
  obtain ⟨hx, hI, hAt⟩ := hM
  obtain ⟨hnamed, hmeth, hcode, hb0, hml, hret, hlocks, hrows⟩ := id hI
  have hown : s.vm.findClass (pg mi).1.cls = some m.cls := findClass_of_methodNamed hnamed
  obtain ⟨hd, hlen, hv⟩ := hV
  dsimp only at hd hlen hv
  have hl3 : len = 3 := eq_of_beq hlen
  subst hl3
  have hg0 := hg
  obtain ⟨hl, hw, hP, hD, hS, hX⟩ := hg
  dsimp only at hl hw hP hD
  obtain ⟨-, hcar, hcls, -, hfit, hnames, hlen2, -, -, hso⟩ := id hPV
  unfold am_make at hr
  dsimp only at hr
  split at hr
  · obtain ⟨C, T, N, g1, g2, g3, g4⟩ := hv.1 rfl
    obtain ⟨⟨k1, k2⟩, k3, k4, k5, k6, k7⟩ := hcls _ _ _ _ g1
    cases x with
    | inr r =>
      obtain ⟨_, _, _, _, _, -, hz⟩ := am_liftN_n hr
      cases hz
    | inl S' =>
      refine am_s_new (me := pg mi) (hso 0) hA hg0 hr (fun hw hp => am_new_wf k7 hw hp) (fun hp e1 e2 kk => ?_) (hin S' rfl)
      exact am_new_ok hx hb0 hd (fun w hw => hAt.1 w hw args) k1 (E.2.2.1 a) k3 hown (hAt.1 _ g2 _) (hAt.1 _ g3 _) (hAt.1 _ g4 _) hAt.2.1 hP hD hS hA g1 k4 k5 k6 hw.2.2 hw.2.1 (by show _ ≤ mc; rw [← e2]; exact hup.1) (by show _ ≤ ms; rw [← e1]; exact hup.2) hp kk
  · rename_i hc0
    split at hr
    · rename_i hz
      obtain ⟨h6, hcat, hcov⟩ := hz
      cases hr
      have hQ := hout _ rfl
      subst hQ
      obtain ⟨ha3, d3, ⟨is, ic, text, kk, d4, d6, d9, hrefs, hsp, hat⟩, v1, v2⟩ := hv.2 (fun z => hc0 (by rw [z]))
      refine am_throwS (A := A) (H0 := H) hx hb0 htr hlocks hd d3 d4 d6 d9 (fun z hz => ?_) hown (hfit a) hnames hsp (fun w hw hcw => hAt.1 w (hat w hw hcw) args) (hAt.1 _ v1 _) (hAt.1 _ v2 _) (hX.2.2.1 _ hrefs) hX.2.2.2.2.1 hX.2.2.2.2.2 ⟨Nat.le_refl _, fun _ _ _ => rfl, hS.2.2⟩ (hl.1.trans hml.symm) (by rw [am_catm]; exact hcat) (by rw [hlen2]; show 5 < d + 1; omega) (by rw [hlen2]; show 13 * 3 + 51 ≤ 32 * (d + 1) + 100; omega) hup.1 hup.2 hS.2.2 ?_
      · have hmem : (z.startPc, z.endPc, z.handlerPc, z.catchType) ∈ (pg mi).2.2.2.2.1 := by rw [← hrows]; exact List.mem_map.mpr ⟨z, hz, rfl⟩
        cases hcz : covers z (pc + 4 + b + 3) with
        | false => rfl
        | true =>
          exfalso
          have hany : am_covered (pg mi).2.2.2.2.1 (pc + 4 + b + 3) = true := by
            unfold am_covered
            rw [List.any_eq_true]
            have := am_cov.mp hcz
            exact ⟨_, hmem, by simp [this.1, this.2]⟩
          rw [hany] at hcov
          cases hcov
      · intro y H1 vm1 ce hW1 hkeep hsz hy c1 c2 c3
        have hP1 : va_P D K.2.1 (am_W cA ad h) H1 := hP.kept (fun j z hz => hkeep z.1 (hP j z hz).lt)
        refine ⟨ad, hex0, hn0, hw.2.2, hP1, hD, ⟨Nat.le_trans hS.1 hsz, fun q h1 h2 => by rw [hkeep q (Nat.lt_of_lt_of_le h1 hS.1)]; exact hS.2.1 q h1 h2, fun z hz => nomatch hz⟩, ha3, y, ce, rfl, c1, c2, c3, hA y (Nat.le_trans hS.1 hy), fun j hj => ?_⟩
        have hlt := (hP j _ (am_W_at (List.getElem?_eq_getElem hj))).lt
        dsimp only at hlt
        omega
    · cases hr
theorem am_s_ret (hM : am_Me K pg D cA p s m meth c mi) {R : Room} {i : Instr} (hd : decode (pg mi).2.1 pc = .ok (i, 1))
    (hg : am_good E K D cA A H0 s (pg mi).2.2.1 ad ls (pc, lv, st, h, nc, ns) H locs) {n0 : Nat} {ad0 : Nat → Nat} {r : am_Re} (hex0 : am_ex n0 ad0 ad) (hn0 : n0 ≤ h.length)
    (hr : (i = .ireturn ∧ am_ireturn (pg mi).2.2.2.1 st h nc ns = some (.inr r)) ∨ (i = .lreturn ∧ am_lreturn (pg mi).2.2.2.1 st h nc ns = some (.inr r)) ∨ (i = .areturn ∧ am_areturn (pg mi).2.2.2.1 st h nc ns = some (.inr r)) ∨ (i = .return_ ∧ am_return (pg mi).2.2.2.1 st h nc ns = some (.inr r))) :
    W p l e R s m args below meth c H locs nc ns (am_MQ below (am_Qc K D cA A H0 s n0 ad0 r) s r.2.2.1 r.2.2.2 A) (F0 m pc ls (st.map (am_v ad))) := by
  obtain ⟨hx, hI, hAt⟩ := hM
  obtain ⟨hnamed, hmeth, hcode, hb0, hml, hret, hlocks, hrows⟩ := id hI
  obtain ⟨hl, hw, hP, hD, hS, hX⟩ := hg
  dsimp only at hl hw hP hD
  have fin : ∀ (v : Option Value), (∀ w, v = some w → am_okv h.length w) → ∀ t : State, t.heap = H → s.WarmedH t.vm → am_Qc K D cA A H0 s n0 ad0 (.inl v, h, nc, ns) (.returned (v.map (am_v ad))) t.heap t.vm := fun v hv t ht hW =>
    ⟨ad, hex0, hn0, hw.2.2, by rw [ht]; exact hP, hD, by rw [ht]; exact ⟨hS.1, hS.2.1, fun z hz => nomatch hz⟩, rfl, hv⟩
  rcases hr with ⟨rfl, hr⟩ | ⟨rfl, hr⟩ | ⟨rfl, hr⟩ | ⟨rfl, hr⟩
  · unfold am_ireturn at hr
    split at hr
    · rename_i v
      have okv : ∀ w, some (Value.int v) = some w → am_okv h.length w := fun w hw => by cases hw; trivial
      have zr : ∀ {ty : FieldType}, meth.sig.returnType = some ty → narrow ty (.int v) = .int v → W p l e R s m args below meth c H locs nc ns (am_MQ below (am_Qc K D cA A H0 s n0 ad0 (.inl (some (.int v)), h, nc, ns)) s nc ns A) (F0 m pc ls [.int v]) := fun h1 h2 =>
        am_W_mono (fun t ht => am_MQ_of ht) (W.zret hx hb0 h1 h2 (fun t ht hW => fin (some (.int v)) okv t ht hW) hS.2.2 hd hlocks)
      split at hr
      · rename_i hq
        cases hr
        exact am_W_mono (fun t ht => am_MQ_of ht) (W.iret hx hb0 (hret.trans hq) (fun t ht hW => fin (some (.int v)) okv t ht hW) hS.2.2 hd hlocks)
      · rename_i hq
        split at hr
        · rename_i hz
          cases hr
          exact zr (hret.trans hq) (by rcases hz with rfl | rfl <;> decide)
        · cases hr
      · rename_i hq
        split at hr
        · rename_i hz
          cases hr
          obtain ⟨j, hj1, hj2⟩ := nI_of hz.1
          have hj3 : j < 65536 := by have := hz.2; rw [hj2, nI_clamp hj1] at this; exact this
          exact zr (hret.trans hq) (by rw [hj2]; exact (pk_charN hj3).1)
        · cases hr
      · rename_i hq
        split at hr
        · rename_i hz
          cases hr
          exact zr (hret.trans hq) hz
        · cases hr
      · cases hr
    · cases hr
  · unfold am_lreturn at hr
    split at hr
    · rename_i v hq
      cases hr
      exact am_W_mono (fun t ht => am_MQ_of ht) (W.lret hx hb0 (hret.trans hq) (fun t ht hW => fin (some (.long v)) (fun w hw => by cases hw; trivial) t ht hW) hS.2.2 hd hlocks)
    · cases hr
  · unfold am_areturn at hr
    split at hr
    · rename_i v n hq
      cases hr
      exact am_W_mono (fun t ht => am_MQ_of ht) (W.aret hx hb0 (hret.trans hq) (Or.inl ⟨_, rfl⟩) (Or.inr ⟨_, rfl⟩) (fun t ht hW => fin (some (.ref v)) (fun w hw2 => by cases hw2; exact hw.2.1 _ List.mem_cons_self) t ht hW) hS.2.2 hd hlocks)
    · rename_i n hq
      cases hr
      exact am_W_mono (fun t ht => am_MQ_of ht) (W.aret hx hb0 (hret.trans hq) (Or.inl ⟨_, rfl⟩) (Or.inl rfl) (fun t ht hW => fin (some .null) (fun w hw2 => by cases hw2; trivial) t ht hW) hS.2.2 hd hlocks)
    · cases hr
  · unfold am_return at hr
    split at hr
    · rename_i hq
      cases hr
      exact am_W_mono (fun t ht => am_MQ_of ht) (W.vret hx hb0 (hret.trans hq) (fun t ht hW => fin none (fun w hw2 => nomatch hw2) t ht hW) hS.2.2 hd hlocks)
    · cases hr
end AMZ
end
section
/-! ===== THE PURE MACHINE, part 20: it is sound ===== -/
section AMW
variable {E : am_En} {K : am_Ta} {cn : Nat → Nat} {pg : Nat → am_M} {D : va_G} {cA : Nat → ClassId} {A : Nat → Prop} {H0 : Heap}
variable {p : Program} {l : Launch} {e : Env} {s : State} {m : MethodId} {args : Array Value} {below : List Frame} {meth : Method} {c : Code} {H : Heap} {locs : List Loc} {Q : State → Prop} {mi : Nat} {ad : Nat → Nat} {ls : Array Slot}
variable {d mc ms : Nat}
set_option maxHeartbeats 1000000 in
theorem am_s_step (hPV : am_PV E K cn pg) (hA : ∀ q, H0.size ≤ q → A q) (htr : l.stackTraces = false) {call : am_Ca} (hcs : am_CS l E K pg D cA A H0 call d) (hM : am_Me K pg D cA p s m meth c mi) {t : am_I} {S : am_St} (hV : am_V E K cn pg (pg mi) S.1 t)
    (hg : am_good E K D cA A H0 s (pg mi).2.2.1 ad ls S H locs) {x : am_St ⊕ am_Re} (hr : am_step E cn (d + 1) call (pg mi) t S = some x) (hup : (am_cnt x).1 ≤ mc ∧ (am_cnt x).2 ≤ ms)
    (hin : ∀ S', x = .inl S' → am_go E K D cA A H0 p l e (am_room (d + 1) mc ms) s m args below meth c Q (pg mi).2.2.1 ad S.2.2.2.1.length S') {n0 : Nat} {ad0 : Nat → Nat} (hout : ∀ r, x = .inr r → Q = am_MQ below (am_Qc K D cA A H0 s n0 ad0 r) s r.2.2.1 r.2.2.2 A) (hex0 : am_ex n0 ad0 ad) (hn0 : n0 ≤ S.2.2.2.1.length) :
    W p l e (am_room (d + 1) mc ms) s m args below meth c H locs S.2.2.2.2.1 S.2.2.2.2.2 Q (F0 m S.1 ls (S.2.2.1.map (am_v ad))) := by
  obtain ⟨pc, lv, st, h, nc, ns⟩ := S
  obtain ⟨i, len, a, b, k⟩ := t
  obtain ⟨hx, hI, hAt⟩ := id hM
  obtain ⟨hnamed, hmeth, hcode, hb0, hml, hret, hlocks, hrows⟩ := id hI
  have hown : s.vm.findClass (pg mi).1.cls = some m.cls := findClass_of_methodNamed hnamed
  have hmn : meth.name = (pg mi).1.name := (name_of_methodNamed hnamed hmeth).1
  obtain ⟨hd, hlen, hv⟩ := id hV
  obtain ⟨hl, hw, hP, hD, hS, hX⟩ := id hg
  dsimp only at hd hlen hv hl hw hP hD hin hn0 ⊢
  obtain ⟨hpv1, hcar, hcls, ⟨r4, r5, hr4, hr5, ht4, ht5⟩, -, -, -, -, -, hso⟩ := id hPV
  have hts : ∀ w ∈ K.1, w.before args s = true := fun w hw => hAt.1 w hw args
  unfold am_step at hr
  dsimp only at hr
  have noR : ∀ {r : am_RH} {rr : am_Re}, ¬ am_liftH r nc ns = some (.inr rr) := fun hz => by obtain ⟨_, _, _, _, -, h9⟩ := am_liftH_n hz; cases h9
  have noN : ∀ {r : am_RN} {rr : am_Re}, ¬ am_liftN r nc ns = some (.inr rr) := fun hz => by obtain ⟨_, _, _, _, _, -, h9⟩ := am_liftN_n hz; cases h9
  have noP : ∀ {r : am_R} {rr : am_Re}, ¬ am_lift r h nc ns = some (.inr rr) := fun hz => by obtain ⟨_, _, _, -, h9⟩ := am_lift_n hz; cases h9
  split at hr
  · -- getfield
    rename_i idx
    have h3 : len = 3 := eq_of_beq hlen
    subst h3
    cases x with
    | inr r => exact absurd hr noR
    | inl S' =>
      by_cases hk : k = 0
      · subst hk
        obtain ⟨C, T, N, g1, g2, g3⟩ := hv.1 rfl
        exact am_s_read (me := pg mi) hg hr (fun hw hp => am_getf_wf hw hp) (fun hp kk => am_getf_ok hx hb0 hd hts (hcls _ _ _ _ g1).1.1 hown hAt.2.1 hP g1 g2 (hAt.1 _ g3 _) hp kk) (hin S' rfl)
      · have he : am_getfield E a b k = am_xgetf E.2.1.1 a := by
          cases k with
          | zero => exact absurd rfl hk
          | succ n => rfl
        rw [he] at hr
        have hlk := hv.2 hk
        exact am_s_read (me := pg mi) hg hr (fun hw hp => am_xwf (L := E.1.1) (xs := E.1.2) (len := E.2.1.1) (byt := E.2.1.2) hw (Or.inr (Or.inr (Or.inr ⟨a, rfl⟩))) hp) (fun hp kk => am_xgetf_ok hx hb0 hd hown hX (hlk.elim (fun z => Or.inl ⟨z.1, hAt.1 _ z.2 _⟩) (fun z => Or.inr ⟨z.1, hAt.1 _ z.2 _⟩)) hp kk) (hin S' rfl)
  · -- putfield
    rename_i idx
    have h3 : len = 3 := eq_of_beq hlen
    subst h3
    cases x with
    | inr r => exact absurd hr noR
    | inl S' =>
      obtain ⟨C, T, N, g1, g2, g3, g4, g5⟩ := hv
      obtain ⟨⟨k1, k2⟩, k3, -⟩ := hcls _ _ _ _ g1
      exact am_s_write (me := pg mi) hA hg hr (fun hw hp => am_putf_wf hw hp) (fun hp kk => am_putf_ok hx hb0 hd hts k1 (E.2.2.1 a) k3 k2 hown hAt.2.1 hP hD hS g1 g2 (hAt.1 _ g3 _) (g4.imp id (fun z => ⟨z.1, hmn.trans z.2.1, z.2.2⟩)) g5 hp kk) (hin S' rfl)
  · -- iaload
    have h3 : len = 1 := eq_of_beq hlen
    subst h3
    cases x with
    | inr r => exact absurd hr noR
    | inl S' =>
      unfold am_iaload at hr
      split at hr
      · rename_i i q r
        split at hr
        · exact am_s_read (me := pg mi) (f := am_iald 0) hg hr (fun hw hp => am_iald_wf hw hp) (fun hp kk => am_iald_ok hx hb0 hd hAt.2.1 hP hp kk) (hin S' rfl)
        · exact am_s_read (me := pg mi) (f := am_xiald E.1.1 E.1.2) hg hr (fun hw hp => am_xwf (L := E.1.1) (xs := E.1.2) (len := E.2.1.1) (byt := E.2.1.2) hw (Or.inl rfl) hp) (fun hp kk => am_xiald_ok hx hb0 hd hX hp kk) (hin S' rfl)
      · cases hr
  · -- baload
    have h3 : len = 1 := eq_of_beq hlen
    subst h3
    cases x with
    | inr r => exact absurd hr noR
    | inl S' =>
      unfold am_baload at hr
      split at hr
      · rename_i i q r
        split at hr
        · exact am_s_read (me := pg mi) (f := am_bald) hg hr (fun hw hp => am_bald_wf hw hp) (fun hp kk => am_bald_ok hx hb0 hd hAt.2.1 hP hp kk) (hin S' rfl)
        · exact am_s_read (me := pg mi) (f := am_xbald E.2.1.1 E.2.1.2) hg hr (fun hw hp => am_xwf (L := E.1.1) (xs := E.1.2) (len := E.2.1.1) (byt := E.2.1.2) hw (Or.inr (Or.inl rfl)) hp) (fun hp kk => am_xbald_ok hx hb0 hd hX hp kk) (hin S' rfl)
      · cases hr
  · -- laload
    have h3 : len = 1 := eq_of_beq hlen
    subst h3
    cases x with
    | inr r => exact absurd hr noR
    | inl S' => exact am_s_read (me := pg mi) hg hr (fun hw hp => am_lald_wf hw hp) (fun hp kk => am_lald_ok hx hb0 hd hAt.2.1 hP hp kk) (hin S' rfl)
  · -- aaload
    have h3 : len = 1 := eq_of_beq hlen
    subst h3
    cases x with
    | inr r => exact absurd hr noR
    | inl S' => exact am_s_read (me := pg mi) hg hr (fun hw hp => am_aald_wf hw hp) (fun hp kk => am_aald_ok hx hb0 hd hAt.2.1 hP hp kk) (hin S' rfl)
  · -- iastore
    have h3 : len = 1 := eq_of_beq hlen
    subst h3
    cases x with
    | inr r => exact absurd hr noR
    | inl S' => exact am_s_write (me := pg mi) hA hg hr (fun hw hp => am_iast_wf hw hp) (fun hp kk => am_iast_ok hx hb0 hd hAt.2.1 hP hD hS hp kk) (hin S' rfl)
  · -- bastore
    have h3 : len = 1 := eq_of_beq hlen
    subst h3
    cases x with
    | inr r => exact absurd hr noR
    | inl S' => exact am_s_write (me := pg mi) hA hg hr (fun hw hp => am_bast_wf hw hp) (fun hp kk => am_bast_ok hx hb0 hd hAt.2.1 hP hD hS hp kk) (hin S' rfl)
  · -- lastore
    have h3 : len = 1 := eq_of_beq hlen
    subst h3
    cases x with
    | inr r => exact absurd hr noR
    | inl S' => exact am_s_write (me := pg mi) hA hg hr (fun hw hp => am_last_wf hw hp) (fun hp kk => am_last_ok hx hb0 hd hAt.2.1 hP hD hS hp kk) (hin S' rfl)
  · -- aastore
    have h3 : len = 1 := eq_of_beq hlen
    subst h3
    cases x with
    | inr r => exact absurd hr noR
    | inl S' => exact am_s_write (me := pg mi) hA hg hr (fun hw hp => am_aast_wf hw hp) (fun hp kk => am_aast_ok hr4 hr5 ht4 ht5 hx hb0 hd hAt.2.1 hP hD hS hp kk) (hin S' rfl)
  · -- arraylength
    have h3 : len = 1 := eq_of_beq hlen
    subst h3
    cases x with
    | inr r => exact absurd hr noR
    | inl S' =>
      unfold am_alength at hr
      split at hr
      · rename_i q r
        split at hr
        · exact am_s_read (me := pg mi) (f := am_alen) hg hr (fun hw hp => am_alen_wf hw hp) (fun hp kk => am_alen_ok hx hb0 hd hAt.2.1 hP hp kk) (hin S' rfl)
        · exact am_s_read (me := pg mi) (f := am_xalen E.1.1 E.2.1.1) hg hr (fun hw hp => am_xwf (L := E.1.1) (xs := E.1.2) (len := E.2.1.1) (byt := E.2.1.2) hw (Or.inr (Or.inr (Or.inl rfl))) hp) (fun hp kk => am_xalen_ok hx hb0 hd hX hp kk) (hin S' rfl)
      · cases hr
  · -- newarray
    have h3 : len = 2 := eq_of_beq hlen
    subst h3
    cases x with
    | inr r => exact absurd hr noN
    | inl S' => exact am_s_new (me := pg mi) (hso 0) hA hg hr (fun hw hp => am_newa_wf hw hp) (fun hp e1 e2 kk => am_newa_ok hv.1 hx hb0 hd (hAt.1 _ hv.2 _) hAt.2.1 hP hD hS hA hw.2.2 hw.2.1 (by show _ ≤ mc; rw [← e2]; exact hup.1) (by show _ ≤ ms; rw [← e1]; exact hup.2) hp kk) (hin S' rfl)
  · -- anewarray
    have h3 : len = 3 := eq_of_beq hlen
    subst h3
    cases x with
    | inr r => exact absurd hr noN
    | inl S' =>
      obtain ⟨C, g1, g2, g3⟩ := hv
      exact am_s_new (me := pg mi) (hso 0) hA hg hr (fun hw hp => am_newq_wf hw hp) (fun hp e1 e2 kk => am_newq_ok g1 hx hb0 hd hown (hAt.1 _ g2 _) (va_AO.of (hAt.1 _ g3 #[])) hAt.2.1 hP hD hS hA hw.2.2 hw.2.1 (by show _ ≤ mc; rw [← e2]; exact hup.1) (by show _ ≤ ms; rw [← e1]; exact hup.2) hp kk) (hin S' rfl)
  · -- new
    exact am_s_make hPV hA htr hM hV hg hr hup hin hout hex0 hn0
  · -- ldc
    rename_i idx
    have h3 : len = 2 := eq_of_beq hlen
    subst h3
    obtain ⟨pc', lv', st', hp, he⟩ := am_lift_n hr
    subst he
    by_cases hk : k = 0
    · subst hk
      cases hp
      exact lv_ldc hx hb0 hown (hAt.1 _ (hv.1 rfl) _) hd (hin _ rfl ad ls H locs ⟨hl, ⟨hw.1, am_okS_c.mpr ⟨trivial, hw.2.1⟩, hw.2.2⟩, hP, hD, hS, hX⟩ am_ex.rf (Nat.le_refl _))
    · have he : am_ldc 2 a k = am_push (.ref (am_kT a)) 2 := by
        cases k with
        | zero => exact absurd rfl hk
        | succ n => rfl
      rw [he] at hp
      cases hp
      obtain ⟨-, tx, htx⟩ := hv.2 hk
      exact va_ldcS hx hb0 hown (hX.2.2.1 _ htx) hd (hin _ rfl ad ls H locs ⟨hl, ⟨hw.1, am_okS_c.mpr ⟨Or.inr (am_kT_ge a), hw.2.1⟩, hw.2.2⟩, hP, hD, hS, hX⟩ am_ex.rf (Nat.le_refl _))
  · -- ldc_w
    rename_i idx
    have h3 : len = 3 := eq_of_beq hlen
    subst h3
    obtain ⟨pc', lv', st', hp, he⟩ := am_lift_n hr
    subst he
    by_cases hk : k = 0
    · subst hk
      cases hp
      exact lv_ldcw hx hb0 hown (hAt.1 _ (hv.1 rfl) _) hd (hin _ rfl ad ls H locs ⟨hl, ⟨hw.1, am_okS_c.mpr ⟨trivial, hw.2.1⟩, hw.2.2⟩, hP, hD, hS, hX⟩ am_ex.rf (Nat.le_refl _))
    · have he : am_ldc 3 a k = am_push (.ref (am_kT a)) 3 := by
        cases k with
        | zero => exact absurd rfl hk
        | succ n => rfl
      rw [he] at hp
      cases hp
      obtain ⟨-, tx, htx⟩ := hv.2 hk
      exact am_ldcwS hx hb0 hown (hX.2.2.1 _ htx) hd (hin _ rfl ad ls H locs ⟨hl, ⟨hw.1, am_okS_c.mpr ⟨Or.inr (am_kT_ge a), hw.2.1⟩, hw.2.2⟩, hP, hD, hS, hX⟩ am_ex.rf (Nat.le_refl _))
  · -- ldc2_w
    have h3 : len = 3 := eq_of_beq hlen
    subst h3
    obtain ⟨pc', lv', st', hp, he⟩ := am_lift_n hr
    subst he
    cases hp
    exact lv_ldc2 hx hb0 hown (hAt.1 _ hv _) hd (hin _ rfl ad ls H locs ⟨hl, ⟨hw.1, am_okS_c.mpr ⟨trivial, hw.2.1⟩, hw.2.2⟩, hP, hD, hS, hX⟩ am_ex.rf (Nat.le_refl _))
  · -- getstatic
    have h3 : len = 3 := eq_of_beq hlen
    subst h3
    obtain ⟨pc', lv', st', hp, he⟩ := am_lift_n hr
    subst he
    cases hp
    exact am_xgets_ok (k := k) hx hb0 hd hown hX (hv.elim (fun z => Or.inl ⟨z.1, hAt.1 _ z.2 _⟩) (fun z => Or.inr ⟨z.1, hAt.1 _ z.2 _⟩)) (hin _ rfl ad ls H locs ⟨hl, ⟨hw.1, am_okS_c.mpr ⟨by cases k with | zero => trivial | succ n => exact hso _, hw.2.1⟩, hw.2.2⟩, hP, hD, hS, hX⟩ am_ex.rf (Nat.le_refl _))
  · exact am_s_invoke hPV hA hcs hM (Or.inl ⟨_, rfl⟩) hV hg hr hup hin hout hex0 hn0
  · exact am_s_invoke hPV hA hcs hM (Or.inr (Or.inl ⟨_, rfl⟩)) hV hg hr hup hin hout hex0 hn0
  · exact am_s_invoke hPV hA hcs hM (Or.inr (Or.inr ⟨_, rfl⟩)) hV hg hr hup hin hout hex0 hn0
  · have h3 : len = 1 := eq_of_beq hlen
    subst h3
    cases x with
    | inl S' => exact absurd hr (by unfold am_ireturn; intro hz; split at hz <;> first | cases hz | (split at hz <;> first | cases hz | (split at hz <;> cases hz)))
    | inr r => rw [hout r rfl]; exact am_s_ret hM hd hg hex0 hn0 (Or.inl ⟨rfl, hr⟩)
  · have h3 : len = 1 := eq_of_beq hlen
    subst h3
    cases x with
    | inl S' => exact absurd hr (by unfold am_lreturn; intro hz; split at hz <;> cases hz)
    | inr r => rw [hout r rfl]; exact am_s_ret hM hd hg hex0 hn0 (Or.inr (Or.inl ⟨rfl, hr⟩))
  · have h3 : len = 1 := eq_of_beq hlen
    subst h3
    cases x with
    | inl S' => exact absurd hr (by unfold am_areturn; intro hz; split at hz <;> cases hz)
    | inr r => rw [hout r rfl]; exact am_s_ret hM hd hg hex0 hn0 (Or.inr (Or.inr (Or.inl ⟨rfl, hr⟩)))
  · have h3 : len = 1 := eq_of_beq hlen
    subst h3
    cases x with
    | inl S' => exact absurd hr (by unfold am_return; intro hz; split at hz <;> cases hz)
    | inr r => rw [hout r rfl]; exact am_s_ret hM hd hg hex0 hn0 (Or.inr (Or.inr (Or.inr ⟨rfl, hr⟩)))
  · cases x with
    | inr r => exact absurd hr noP
    | inl S' => exact am_s_pure (me := pg mi) hx hb0 hd hlen hg hr (hin S' rfl)
theorem am_run_ok (hPV : am_PV E K cn pg) (hA : ∀ q, H0.size ≤ q → A q) (htr : l.stackTraces = false) {call : am_Ca} (hcs : am_CS l E K pg D cA A H0 call d) (hM : am_Me K pg D cA p s m meth c mi) {n0 : Nat} {ad0 : Nat → Nat} {r : am_Re} :
    ∀ (n : Nat) (S : am_St), am_run E cn (d + 1) call (pg mi) n S = some r → ∀ (ad : Nat → Nat) (ls : Array Slot) (H : Heap) (locs : List Loc), am_good E K D cA A H0 s (pg mi).2.2.1 ad ls S H locs → am_ex n0 ad0 ad → n0 ≤ S.2.2.2.1.length →
      W p l e (am_room (d + 1) r.2.2.1 r.2.2.2) s m args below meth c H locs S.2.2.2.2.1 S.2.2.2.2.2 (am_MQ below (am_Qc K D cA A H0 s n0 ad0 r) s r.2.2.1 r.2.2.2 A) (F0 m S.1 ls (S.2.2.1.map (am_v ad))) := by
  intro n
  induction n with
  | zero => intro S hr; cases hr
  | succ n ih =>
    intro S hr ad ls H locs hg hex hn
    unfold am_run at hr
    split at hr
    · rename_i t ht
      have hV := hPV.1 mi S.1 t ht
      split at hr
      · rename_i S' hs
        have hup := am_run_up n S' hr
        refine am_s_step hPV hA htr hcs hM hV hg hs hup (fun S2 h2 => ?_) (n0 := n0) (ad0 := ad0) (fun r2 h2 => by cases h2) hex hn
        cases h2
        intro ad' ls' H' locs' hg' hex' hn'
        exact ih S' hr ad' ls' H' locs' hg' (hex.tr hn hex') (Nat.le_trans hn hn')
      · rename_i r' hs
        cases hr
        exact am_s_step hPV hA htr hcs hM hV hg hs ⟨Nat.le_refl _, Nat.le_refl _⟩ (fun S2 h2 => by cases h2) (n0 := n0) (ad0 := ad0) (fun r2 h2 => by cases h2; rfl) hex hn
      · cases hr
    · cases hr
theorem am_args (ad : Nat → Nat) : ∀ (av : List Value) (i : Nat), am_L ad (lv_args i av) = lv_args i (av.map (am_v ad)) := by
  intro av
  induction av with
  | nil => intro i; rfl
  | cons v vs ih =>
    intro i
    show (i, am_v ad v) :: am_L ad (lv_args (if v.category = 2 then i + 2 else i + 1) vs) = (i, am_v ad v) :: lv_args (if (am_v ad v).category = 2 then i + 2 else i + 1) (vs.map (am_v ad))
    rw [am_v_cat, ih]
theorem am_args_ok {n : Nat} : ∀ (av : List Value) (i : Nat), am_okS n av → am_okL n (lv_args i av) := by
  intro av
  induction av with
  | nil => intro i _ q hq; cases hq
  | cons v vs ih =>
    intro i hv q hq
    rcases List.mem_cons.mp hq with rfl | hq
    · exact hv _ List.mem_cons_self
    · exact ih _ (fun w hw => hv w (List.mem_cons_of_mem _ hw)) q hq
theorem am_sl (vs : List Value) : (lg_sl vs).length = (vs.map fun v => v.category).sum := by
  induction vs with
  | nil => rfl
  | cons v t ih =>
    have e : lg_sl (v :: t) = (if v.category = 2 then [.val v, .second] else [.val v]) ++ lg_sl t := by simp [lg_sl, List.flatMap_cons]
    rw [e, List.length_append, ih, List.map_cons, List.sum_cons]
    rcases lv_cat v with h | h <;> rw [h] <;> rfl
theorem am_call_ok (hPV : am_PV E K cn pg) (hA : ∀ q, H0.size ≤ q → A q) (htr : l.stackTraces = false) (fuel : Nat) : ∀ d, am_CS l E K pg D cA A H0 (am_call E cn pg fuel d) d := by
  intro d
  induction d with
  | zero => intro mi av h r hr; cases hr
  | succ d ih =>
    intro mi av h r hr hav hH p e s m below meth c H ad hx hI hAt hP hD hS hX
    unfold am_call at hr
    split at hr
    · rename_i hcat
      have hent := lv_entry (av.map (am_v ad)) (n := (pg mi).2.2.1) (by rw [am_sl, am_catm]; exact hcat)
      rw [lg_entry_eq]
      generalize (lg_sl (av.map (am_v ad)) ++ List.replicate ((pg mi).2.2.1 - (lg_sl (av.map (am_v ad))).length) Slot.unset).toArray = ls at hent ⊢
      have hl : lv_has ls (pg mi).2.2.1 (am_L ad (lv_args 0 av)) := by rw [am_args]; exact hent
      exact am_run_ok (p := p) (s := s) (m := m) (meth := meth) (c := c) hPV hA htr ih ⟨hx, hI, hAt⟩ (n0 := h.length) (ad0 := ad) fuel (0, lv_args 0 av, [], h, 0, 0) hr ad ls H [] ⟨hl, ⟨am_args_ok av 0 hav, (fun v hv => nomatch hv), hH⟩, hP, hD, hS, hX⟩ am_ex.rf (Nat.le_refl _)
    · cases hr
end AMW
end
section
-- ===== PART A: goes FIRST, ahead of the names: the tables' words, and 'selects' of the private methods out of them =====
/-- a private method of a class that the tables say can be made, by its rows of tables_1 -/
def lw_okq (q : MethodName × Nat) : Prop := (q.1.cls ≠ "java/lang/invoke/MethodHandle" ∧ q.1.cls ≠ "java/lang/invoke/VarHandle") ∧ Cond.instantiable q.1.cls q.2 ∈ tables_1 ∧ Cond.privateMethod q.1 ∈ tables_1 ∧ Cond.instanceMethod q.1 ∈ tables_1
theorem lw_p0 : lw_okq (⟨"PacketWorks", "isLaid", "()Z"⟩, 12) := ⟨⟨by decide +kernel, by decide +kernel⟩, List.mem_of_getElem? (i := 30) (by decide +kernel), List.mem_of_getElem? (i := 834) (by decide +kernel), List.mem_of_getElem? (i := 835) (by decide +kernel)⟩
theorem lw_p1 : lw_okq (⟨"PacketWorks$Text", "makeGiven", "(Ljava/lang/String;II)V"⟩, 17) := ⟨⟨by decide +kernel, by decide +kernel⟩, List.mem_of_getElem? (i := 38) (by decide +kernel), List.mem_of_getElem? (i := 896) (by decide +kernel), List.mem_of_getElem? (i := 897) (by decide +kernel)⟩
theorem lw_p2 : lw_okq (⟨"java/lang/Throwable", "fillInStackTrace", "(I)Ljava/lang/Throwable;"⟩, 6) := ⟨⟨by decide +kernel, by decide +kernel⟩, List.mem_of_getElem? (i := 954) (by decide +kernel), List.mem_of_getElem? (i := 952) (by decide +kernel), List.mem_of_getElem? (i := 953) (by decide +kernel)⟩
theorem lw_p3 : lw_okq (⟨"PacketWorks$Text", "scanName", "()V"⟩, 17) := ⟨⟨by decide +kernel, by decide +kernel⟩, List.mem_of_getElem? (i := 38) (by decide +kernel), List.mem_of_getElem? (i := 983) (by decide +kernel), List.mem_of_getElem? (i := 984) (by decide +kernel)⟩
theorem lw_p4 : lw_okq (⟨"PacketWorks$Text", "wordOfName", "()I"⟩, 17) := ⟨⟨by decide +kernel, by decide +kernel⟩, List.mem_of_getElem? (i := 38) (by decide +kernel), List.mem_of_getElem? (i := 987) (by decide +kernel), List.mem_of_getElem? (i := 988) (by decide +kernel)⟩
theorem lw_p5 : lw_okq (⟨"PacketWorks$Text", "scanHex", "()I"⟩, 17) := ⟨⟨by decide +kernel, by decide +kernel⟩, List.mem_of_getElem? (i := 38) (by decide +kernel), List.mem_of_getElem? (i := 991) (by decide +kernel), List.mem_of_getElem? (i := 992) (by decide +kernel)⟩
theorem lw_p6 : lw_okq (⟨"PacketWorks$Text", "scanDecimal", "()I"⟩, 17) := ⟨⟨by decide +kernel, by decide +kernel⟩, List.mem_of_getElem? (i := 38) (by decide +kernel), List.mem_of_getElem? (i := 995) (by decide +kernel), List.mem_of_getElem? (i := 996) (by decide +kernel)⟩
theorem lw_p7 : lw_okq (⟨"PacketWorks$Text", "scanSign", "(I)I"⟩, 17) := ⟨⟨by decide +kernel, by decide +kernel⟩, List.mem_of_getElem? (i := 38) (by decide +kernel), List.mem_of_getElem? (i := 1000) (by decide +kernel), List.mem_of_getElem? (i := 1001) (by decide +kernel)⟩
theorem lw_p8 : lw_okq (⟨"PacketWorks$Reader", "field", "(II)V"⟩, 9) := ⟨⟨by decide +kernel, by decide +kernel⟩, List.mem_of_getElem? (i := 649) (by decide +kernel), List.mem_of_getElem? (i := 1088) (by decide +kernel), List.mem_of_getElem? (i := 1089) (by decide +kernel)⟩
theorem lw_p9 : lw_okq (⟨"PacketWorks$Reader", "extract", "(II)V"⟩, 9) := ⟨⟨by decide +kernel, by decide +kernel⟩, List.mem_of_getElem? (i := 649) (by decide +kernel), List.mem_of_getElem? (i := 1136) (by decide +kernel), List.mem_of_getElem? (i := 1137) (by decide +kernel)⟩
theorem lw_p10 : lw_okq (⟨"PacketWorks$Reader", "select", "(I)V"⟩, 9) := ⟨⟨by decide +kernel, by decide +kernel⟩, List.mem_of_getElem? (i := 649) (by decide +kernel), List.mem_of_getElem? (i := 1140) (by decide +kernel), List.mem_of_getElem? (i := 1141) (by decide +kernel)⟩
theorem lw_p11 : lw_okq (⟨"PacketWorks$Formulas", "prefixes", "()V"⟩, 10) := ⟨⟨by decide +kernel, by decide +kernel⟩, List.mem_of_getElem? (i := 655) (by decide +kernel), List.mem_of_getElem? (i := 1148) (by decide +kernel), List.mem_of_getElem? (i := 1149) (by decide +kernel)⟩
theorem lw_p12 : lw_okq (⟨"PacketWorks$Formulas", "open", "(I)V"⟩, 10) := ⟨⟨by decide +kernel, by decide +kernel⟩, List.mem_of_getElem? (i := 655) (by decide +kernel), List.mem_of_getElem? (i := 1152) (by decide +kernel), List.mem_of_getElem? (i := 1153) (by decide +kernel)⟩
theorem lw_p13 : lw_okq (⟨"PacketWorks$Formulas", "deepen", "()V"⟩, 10) := ⟨⟨by decide +kernel, by decide +kernel⟩, List.mem_of_getElem? (i := 655) (by decide +kernel), List.mem_of_getElem? (i := 1158) (by decide +kernel), List.mem_of_getElem? (i := 1159) (by decide +kernel)⟩
theorem lw_p14 : lw_okq (⟨"PacketWorks$Formulas", "atom", "()V"⟩, 10) := ⟨⟨by decide +kernel, by decide +kernel⟩, List.mem_of_getElem? (i := 655) (by decide +kernel), List.mem_of_getElem? (i := 1162) (by decide +kernel), List.mem_of_getElem? (i := 1163) (by decide +kernel)⟩
theorem lw_p15 : lw_okq (⟨"PacketWorks$Formulas", "add", "(IIIII)I"⟩, 10) := ⟨⟨by decide +kernel, by decide +kernel⟩, List.mem_of_getElem? (i := 655) (by decide +kernel), List.mem_of_getElem? (i := 1166) (by decide +kernel), List.mem_of_getElem? (i := 1167) (by decide +kernel)⟩
def lw_privs_1 : List (MethodName × Nat) := [(⟨"PacketWorks", "isLaid", "()Z"⟩, 12), (⟨"PacketWorks$Text", "makeGiven", "(Ljava/lang/String;II)V"⟩, 17), (⟨"java/lang/Throwable", "fillInStackTrace", "(I)Ljava/lang/Throwable;"⟩, 6), (⟨"PacketWorks$Text", "scanName", "()V"⟩, 17), (⟨"PacketWorks$Text", "wordOfName", "()I"⟩, 17), (⟨"PacketWorks$Text", "scanHex", "()I"⟩, 17), (⟨"PacketWorks$Text", "scanDecimal", "()I"⟩, 17), (⟨"PacketWorks$Text", "scanSign", "(I)I"⟩, 17), (⟨"PacketWorks$Reader", "field", "(II)V"⟩, 9), (⟨"PacketWorks$Reader", "extract", "(II)V"⟩, 9), (⟨"PacketWorks$Reader", "select", "(I)V"⟩, 9), (⟨"PacketWorks$Formulas", "prefixes", "()V"⟩, 10), (⟨"PacketWorks$Formulas", "open", "(I)V"⟩, 10), (⟨"PacketWorks$Formulas", "deepen", "()V"⟩, 10), (⟨"PacketWorks$Formulas", "atom", "()V"⟩, 10), (⟨"PacketWorks$Formulas", "add", "(IIIII)I"⟩, 10)]
theorem lw_r1 : ∀ q ∈ lw_privs_1, lw_okq q := List.forall_mem_cons.mpr ⟨lw_p0, List.forall_mem_cons.mpr ⟨lw_p1, List.forall_mem_cons.mpr ⟨lw_p2, List.forall_mem_cons.mpr ⟨lw_p3, List.forall_mem_cons.mpr ⟨lw_p4, List.forall_mem_cons.mpr ⟨lw_p5, List.forall_mem_cons.mpr ⟨lw_p6, List.forall_mem_cons.mpr ⟨lw_p7, List.forall_mem_cons.mpr ⟨lw_p8, List.forall_mem_cons.mpr ⟨lw_p9, List.forall_mem_cons.mpr ⟨lw_p10, List.forall_mem_cons.mpr ⟨lw_p11, List.forall_mem_cons.mpr ⟨lw_p12, List.forall_mem_cons.mpr ⟨lw_p13, List.forall_mem_cons.mpr ⟨lw_p14, List.forall_mem_cons.mpr ⟨lw_p15, fun _ h => absurd h List.not_mem_nil⟩⟩⟩⟩⟩⟩⟩⟩⟩⟩⟩⟩⟩⟩⟩⟩
theorem lw_p16 : lw_okq (⟨"PacketWorks$Formulas", "suffixes", "()V"⟩, 10) := ⟨⟨by decide +kernel, by decide +kernel⟩, List.mem_of_getElem? (i := 655) (by decide +kernel), List.mem_of_getElem? (i := 1191) (by decide +kernel), List.mem_of_getElem? (i := 1192) (by decide +kernel)⟩
theorem lw_p17 : lw_okq (⟨"PacketWorks$Formulas", "goesOn", "()I"⟩, 10) := ⟨⟨by decide +kernel, by decide +kernel⟩, List.mem_of_getElem? (i := 655) (by decide +kernel), List.mem_of_getElem? (i := 1197) (by decide +kernel), List.mem_of_getElem? (i := 1198) (by decide +kernel)⟩
theorem lw_p18 : lw_okq (⟨"PacketWorks$Formulas", "top", "()I"⟩, 10) := ⟨⟨by decide +kernel, by decide +kernel⟩, List.mem_of_getElem? (i := 655) (by decide +kernel), List.mem_of_getElem? (i := 1201) (by decide +kernel), List.mem_of_getElem? (i := 1202) (by decide +kernel)⟩
theorem lw_p19 : lw_okq (⟨"PacketWorks$Formulas", "closeSingle", "()V"⟩, 10) := ⟨⟨by decide +kernel, by decide +kernel⟩, List.mem_of_getElem? (i := 655) (by decide +kernel), List.mem_of_getElem? (i := 1208) (by decide +kernel), List.mem_of_getElem? (i := 1209) (by decide +kernel)⟩
theorem lw_p20 : lw_okq (⟨"PacketWorks$Formulas", "closePair", "()V"⟩, 10) := ⟨⟨by decide +kernel, by decide +kernel⟩, List.mem_of_getElem? (i := 655) (by decide +kernel), List.mem_of_getElem? (i := 1219) (by decide +kernel), List.mem_of_getElem? (i := 1220) (by decide +kernel)⟩
theorem lw_p21 : lw_okq (⟨"PacketWorks$Formulas", "agree", "(II)V"⟩, 10) := ⟨⟨by decide +kernel, by decide +kernel⟩, List.mem_of_getElem? (i := 655) (by decide +kernel), List.mem_of_getElem? (i := 1223) (by decide +kernel), List.mem_of_getElem? (i := 1224) (by decide +kernel)⟩
theorem lw_p22 : lw_okq (⟨"PacketWorks$Formulas", "joined", "(II)I"⟩, 10) := ⟨⟨by decide +kernel, by decide +kernel⟩, List.mem_of_getElem? (i := 655) (by decide +kernel), List.mem_of_getElem? (i := 1227) (by decide +kernel), List.mem_of_getElem? (i := 1228) (by decide +kernel)⟩
theorem lw_p23 : lw_okq (⟨"PacketWorks$Formulas", "closeChoice", "()V"⟩, 10) := ⟨⟨by decide +kernel, by decide +kernel⟩, List.mem_of_getElem? (i := 655) (by decide +kernel), List.mem_of_getElem? (i := 1231) (by decide +kernel), List.mem_of_getElem? (i := 1232) (by decide +kernel)⟩
theorem lw_p24 : lw_okq (⟨"PacketWorks$Formulas", "closeBracket", "()I"⟩, 10) := ⟨⟨by decide +kernel, by decide +kernel⟩, List.mem_of_getElem? (i := 655) (by decide +kernel), List.mem_of_getElem? (i := 1235) (by decide +kernel), List.mem_of_getElem? (i := 1236) (by decide +kernel)⟩
theorem lw_p25 : lw_okq (⟨"PacketWorks$Reader", "selectCase", "(III)V"⟩, 9) := ⟨⟨by decide +kernel, by decide +kernel⟩, List.mem_of_getElem? (i := 649) (by decide +kernel), List.mem_of_getElem? (i := 1239) (by decide +kernel), List.mem_of_getElem? (i := 1240) (by decide +kernel)⟩
theorem lw_p26 : lw_okq (⟨"PacketWorks$Reader", "fittingNumber", "(I)J"⟩, 9) := ⟨⟨by decide +kernel, by decide +kernel⟩, List.mem_of_getElem? (i := 649) (by decide +kernel), List.mem_of_getElem? (i := 1243) (by decide +kernel), List.mem_of_getElem? (i := 1244) (by decide +kernel)⟩
theorem lw_p27 : lw_okq (⟨"PacketWorks$Reader", "goal", "()I"⟩, 9) := ⟨⟨by decide +kernel, by decide +kernel⟩, List.mem_of_getElem? (i := 649) (by decide +kernel), List.mem_of_getElem? (i := 1252) (by decide +kernel), List.mem_of_getElem? (i := 1253) (by decide +kernel)⟩
theorem lw_p28 : lw_okq (⟨"PacketWorks$Reader", "parameter", "(II)V"⟩, 9) := ⟨⟨by decide +kernel, by decide +kernel⟩, List.mem_of_getElem? (i := 649) (by decide +kernel), List.mem_of_getElem? (i := 1261) (by decide +kernel), List.mem_of_getElem? (i := 1262) (by decide +kernel)⟩
theorem lw_p29 : lw_okq (⟨"PacketWorks$Reader", "goesOnList", "()Z"⟩, 9) := ⟨⟨by decide +kernel, by decide +kernel⟩, List.mem_of_getElem? (i := 649) (by decide +kernel), List.mem_of_getElem? (i := 1266) (by decide +kernel), List.mem_of_getElem? (i := 1267) (by decide +kernel)⟩
theorem lw_p30 : lw_okq (⟨"PacketWorks$Reader", "isStatement", "()Z"⟩, 9) := ⟨⟨by decide +kernel, by decide +kernel⟩, List.mem_of_getElem? (i := 649) (by decide +kernel), List.mem_of_getElem? (i := 1270) (by decide +kernel), List.mem_of_getElem? (i := 1271) (by decide +kernel)⟩
theorem lw_p31 : lw_okq (⟨"PacketWorks$Reader", "statement", "(I)I"⟩, 9) := ⟨⟨by decide +kernel, by decide +kernel⟩, List.mem_of_getElem? (i := 649) (by decide +kernel), List.mem_of_getElem? (i := 1274) (by decide +kernel), List.mem_of_getElem? (i := 1275) (by decide +kernel)⟩
def lw_privs_2 : List (MethodName × Nat) := [(⟨"PacketWorks$Formulas", "suffixes", "()V"⟩, 10), (⟨"PacketWorks$Formulas", "goesOn", "()I"⟩, 10), (⟨"PacketWorks$Formulas", "top", "()I"⟩, 10), (⟨"PacketWorks$Formulas", "closeSingle", "()V"⟩, 10), (⟨"PacketWorks$Formulas", "closePair", "()V"⟩, 10), (⟨"PacketWorks$Formulas", "agree", "(II)V"⟩, 10), (⟨"PacketWorks$Formulas", "joined", "(II)I"⟩, 10), (⟨"PacketWorks$Formulas", "closeChoice", "()V"⟩, 10), (⟨"PacketWorks$Formulas", "closeBracket", "()I"⟩, 10), (⟨"PacketWorks$Reader", "selectCase", "(III)V"⟩, 9), (⟨"PacketWorks$Reader", "fittingNumber", "(I)J"⟩, 9), (⟨"PacketWorks$Reader", "goal", "()I"⟩, 9), (⟨"PacketWorks$Reader", "parameter", "(II)V"⟩, 9), (⟨"PacketWorks$Reader", "goesOnList", "()Z"⟩, 9), (⟨"PacketWorks$Reader", "isStatement", "()Z"⟩, 9), (⟨"PacketWorks$Reader", "statement", "(I)I"⟩, 9)]
theorem lw_r2 : ∀ q ∈ lw_privs_2, lw_okq q := List.forall_mem_cons.mpr ⟨lw_p16, List.forall_mem_cons.mpr ⟨lw_p17, List.forall_mem_cons.mpr ⟨lw_p18, List.forall_mem_cons.mpr ⟨lw_p19, List.forall_mem_cons.mpr ⟨lw_p20, List.forall_mem_cons.mpr ⟨lw_p21, List.forall_mem_cons.mpr ⟨lw_p22, List.forall_mem_cons.mpr ⟨lw_p23, List.forall_mem_cons.mpr ⟨lw_p24, List.forall_mem_cons.mpr ⟨lw_p25, List.forall_mem_cons.mpr ⟨lw_p26, List.forall_mem_cons.mpr ⟨lw_p27, List.forall_mem_cons.mpr ⟨lw_p28, List.forall_mem_cons.mpr ⟨lw_p29, List.forall_mem_cons.mpr ⟨lw_p30, List.forall_mem_cons.mpr ⟨lw_p31, fun _ h => absurd h List.not_mem_nil⟩⟩⟩⟩⟩⟩⟩⟩⟩⟩⟩⟩⟩⟩⟩⟩
theorem lw_p32 : lw_okq (⟨"PacketWorks$Reader", "writtenSlot", "()I"⟩, 9) := ⟨⟨by decide +kernel, by decide +kernel⟩, List.mem_of_getElem? (i := 649) (by decide +kernel), List.mem_of_getElem? (i := 1282) (by decide +kernel), List.mem_of_getElem? (i := 1283) (by decide +kernel)⟩
theorem lw_p33 : lw_okq (⟨"PacketWorks$Reader", "arrayOf", "(I)V"⟩, 9) := ⟨⟨by decide +kernel, by decide +kernel⟩, List.mem_of_getElem? (i := 649) (by decide +kernel), List.mem_of_getElem? (i := 1287) (by decide +kernel), List.mem_of_getElem? (i := 1288) (by decide +kernel)⟩
theorem lw_p34 : lw_okq (⟨"PacketWorks$Reader", "keyLine", "(LPacketWorks$Table;I)V"⟩, 9) := ⟨⟨by decide +kernel, by decide +kernel⟩, List.mem_of_getElem? (i := 649) (by decide +kernel), List.mem_of_getElem? (i := 1305) (by decide +kernel), List.mem_of_getElem? (i := 1306) (by decide +kernel)⟩
theorem lw_p35 : lw_okq (⟨"PacketWorks$Reader", "listedAction", "(LPacketWorks$Table;I)V"⟩, 9) := ⟨⟨by decide +kernel, by decide +kernel⟩, List.mem_of_getElem? (i := 649) (by decide +kernel), List.mem_of_getElem? (i := 1313) (by decide +kernel), List.mem_of_getElem? (i := 1314) (by decide +kernel)⟩
theorem lw_p36 : lw_okq (⟨"PacketWorks$Reader", "defaultLine", "(LPacketWorks$Table;)V"⟩, 9) := ⟨⟨by decide +kernel, by decide +kernel⟩, List.mem_of_getElem? (i := 649) (by decide +kernel), List.mem_of_getElem? (i := 1321) (by decide +kernel), List.mem_of_getElem? (i := 1322) (by decide +kernel)⟩
theorem lw_p37 : lw_okq (⟨"PacketWorks$Reader", "roomLine", "(LPacketWorks$Table;)V"⟩, 9) := ⟨⟨by decide +kernel, by decide +kernel⟩, List.mem_of_getElem? (i := 649) (by decide +kernel), List.mem_of_getElem? (i := 1325) (by decide +kernel), List.mem_of_getElem? (i := 1326) (by decide +kernel)⟩
theorem lw_p38 : lw_okq (⟨"PacketWorks$Reader", "closeBlock", "()V"⟩, 9) := ⟨⟨by decide +kernel, by decide +kernel⟩, List.mem_of_getElem? (i := 649) (by decide +kernel), List.mem_of_getElem? (i := 1341) (by decide +kernel), List.mem_of_getElem? (i := 1342) (by decide +kernel)⟩
theorem lw_p39 : lw_okq (⟨"PacketWorks$Reader", "openIf", "(I)V"⟩, 9) := ⟨⟨by decide +kernel, by decide +kernel⟩, List.mem_of_getElem? (i := 649) (by decide +kernel), List.mem_of_getElem? (i := 1349) (by decide +kernel), List.mem_of_getElem? (i := 1350) (by decide +kernel)⟩
theorem lw_p40 : lw_okq (⟨"PacketWorks$Reader", "apply", "(I)V"⟩, 9) := ⟨⟨by decide +kernel, by decide +kernel⟩, List.mem_of_getElem? (i := 649) (by decide +kernel), List.mem_of_getElem? (i := 1353) (by decide +kernel), List.mem_of_getElem? (i := 1354) (by decide +kernel)⟩
theorem lw_p41 : lw_okq (⟨"PacketWorks$States", "goalsOf", "(I)I"⟩, 15) := ⟨⟨by decide +kernel, by decide +kernel⟩, List.mem_of_getElem? (i := 217) (by decide +kernel), List.mem_of_getElem? (i := 1377) (by decide +kernel), List.mem_of_getElem? (i := 1378) (by decide +kernel)⟩
theorem lw_p42 : lw_okq (⟨"PacketWorks$Steps", "gather", "(LPacketWorks$Program;I)V"⟩, 16) := ⟨⟨by decide +kernel, by decide +kernel⟩, List.mem_of_getElem? (i := 377) (by decide +kernel), List.mem_of_getElem? (i := 1414) (by decide +kernel), List.mem_of_getElem? (i := 1415) (by decide +kernel)⟩
theorem lw_p43 : lw_okq (⟨"PacketWorks$Steps", "gatherExpr", "(LPacketWorks$Nodes;III)V"⟩, 16) := ⟨⟨by decide +kernel, by decide +kernel⟩, List.mem_of_getElem? (i := 377) (by decide +kernel), List.mem_of_getElem? (i := 1418) (by decide +kernel), List.mem_of_getElem? (i := 1419) (by decide +kernel)⟩
theorem lw_p44 : lw_okq (⟨"PacketWorks$Steps", "mark", "([JII)V"⟩, 16) := ⟨⟨by decide +kernel, by decide +kernel⟩, List.mem_of_getElem? (i := 377) (by decide +kernel), List.mem_of_getElem? (i := 1422) (by decide +kernel), List.mem_of_getElem? (i := 1423) (by decide +kernel)⟩
theorem lw_p45 : lw_okq (⟨"PacketWorks$Steps", "gatherDeed", "(LPacketWorks$Program;II)V"⟩, 16) := ⟨⟨by decide +kernel, by decide +kernel⟩, List.mem_of_getElem? (i := 377) (by decide +kernel), List.mem_of_getElem? (i := 1426) (by decide +kernel), List.mem_of_getElem? (i := 1427) (by decide +kernel)⟩
theorem lw_p46 : lw_okq (⟨"PacketWorks$Steps", "gatherAction", "(LPacketWorks$Program;II)V"⟩, 16) := ⟨⟨by decide +kernel, by decide +kernel⟩, List.mem_of_getElem? (i := 377) (by decide +kernel), List.mem_of_getElem? (i := 1430) (by decide +kernel), List.mem_of_getElem? (i := 1431) (by decide +kernel)⟩
theorem lw_p47 : lw_okq (⟨"PacketWorks$Steps", "earliest", "(IIII)I"⟩, 16) := ⟨⟨by decide +kernel, by decide +kernel⟩, List.mem_of_getElem? (i := 377) (by decide +kernel), List.mem_of_getElem? (i := 1449) (by decide +kernel), List.mem_of_getElem? (i := 1450) (by decide +kernel)⟩
def lw_privs_3 : List (MethodName × Nat) := [(⟨"PacketWorks$Reader", "writtenSlot", "()I"⟩, 9), (⟨"PacketWorks$Reader", "arrayOf", "(I)V"⟩, 9), (⟨"PacketWorks$Reader", "keyLine", "(LPacketWorks$Table;I)V"⟩, 9), (⟨"PacketWorks$Reader", "listedAction", "(LPacketWorks$Table;I)V"⟩, 9), (⟨"PacketWorks$Reader", "defaultLine", "(LPacketWorks$Table;)V"⟩, 9), (⟨"PacketWorks$Reader", "roomLine", "(LPacketWorks$Table;)V"⟩, 9), (⟨"PacketWorks$Reader", "closeBlock", "()V"⟩, 9), (⟨"PacketWorks$Reader", "openIf", "(I)V"⟩, 9), (⟨"PacketWorks$Reader", "apply", "(I)V"⟩, 9), (⟨"PacketWorks$States", "goalsOf", "(I)I"⟩, 15), (⟨"PacketWorks$Steps", "gather", "(LPacketWorks$Program;I)V"⟩, 16), (⟨"PacketWorks$Steps", "gatherExpr", "(LPacketWorks$Nodes;III)V"⟩, 16), (⟨"PacketWorks$Steps", "mark", "([JII)V"⟩, 16), (⟨"PacketWorks$Steps", "gatherDeed", "(LPacketWorks$Program;II)V"⟩, 16), (⟨"PacketWorks$Steps", "gatherAction", "(LPacketWorks$Program;II)V"⟩, 16), (⟨"PacketWorks$Steps", "earliest", "(IIII)I"⟩, 16)]
theorem lw_r3 : ∀ q ∈ lw_privs_3, lw_okq q := List.forall_mem_cons.mpr ⟨lw_p32, List.forall_mem_cons.mpr ⟨lw_p33, List.forall_mem_cons.mpr ⟨lw_p34, List.forall_mem_cons.mpr ⟨lw_p35, List.forall_mem_cons.mpr ⟨lw_p36, List.forall_mem_cons.mpr ⟨lw_p37, List.forall_mem_cons.mpr ⟨lw_p38, List.forall_mem_cons.mpr ⟨lw_p39, List.forall_mem_cons.mpr ⟨lw_p40, List.forall_mem_cons.mpr ⟨lw_p41, List.forall_mem_cons.mpr ⟨lw_p42, List.forall_mem_cons.mpr ⟨lw_p43, List.forall_mem_cons.mpr ⟨lw_p44, List.forall_mem_cons.mpr ⟨lw_p45, List.forall_mem_cons.mpr ⟨lw_p46, List.forall_mem_cons.mpr ⟨lw_p47, fun _ h => absurd h List.not_mem_nil⟩⟩⟩⟩⟩⟩⟩⟩⟩⟩⟩⟩⟩⟩⟩⟩
theorem lw_p48 : lw_okq (⟨"PacketWorks$Steps", "meet", "([JI[JI)Z"⟩, 16) := ⟨⟨by decide +kernel, by decide +kernel⟩, List.mem_of_getElem? (i := 377) (by decide +kernel), List.mem_of_getElem? (i := 1453) (by decide +kernel), List.mem_of_getElem? (i := 1454) (by decide +kernel)⟩
theorem lw_p49 : lw_okq (⟨"PacketWorks", "isTable", "(I)Z"⟩, 12) := ⟨⟨by decide +kernel, by decide +kernel⟩, List.mem_of_getElem? (i := 30) (by decide +kernel), List.mem_of_getElem? (i := 1581) (by decide +kernel), List.mem_of_getElem? (i := 1582) (by decide +kernel)⟩
theorem lw_p50 : lw_okq (⟨"PacketWorks$Operation", "write", "(LPacketWorks$Program;II)I"⟩, 15) := ⟨⟨by decide +kernel, by decide +kernel⟩, List.mem_of_getElem? (i := 1486) (by decide +kernel), List.mem_of_getElem? (i := 1613) (by decide +kernel), List.mem_of_getElem? (i := 1614) (by decide +kernel)⟩
theorem lw_p51 : lw_okq (⟨"PacketWorks$Operation", "pass", "(LPacketWorks$Program;I)I"⟩, 15) := ⟨⟨by decide +kernel, by decide +kernel⟩, List.mem_of_getElem? (i := 1486) (by decide +kernel), List.mem_of_getElem? (i := 1625) (by decide +kernel), List.mem_of_getElem? (i := 1626) (by decide +kernel)⟩
theorem lw_p52 : lw_okq (⟨"PacketWorks$Operation", "extract", "(LPacketWorks$Program;I)Z"⟩, 15) := ⟨⟨by decide +kernel, by decide +kernel⟩, List.mem_of_getElem? (i := 1486) (by decide +kernel), List.mem_of_getElem? (i := 1629) (by decide +kernel), List.mem_of_getElem? (i := 1630) (by decide +kernel)⟩
theorem lw_p53 : lw_okq (⟨"PacketWorks$Nodes", "reckon", "(IJJI)J"⟩, 9) := ⟨⟨by decide +kernel, by decide +kernel⟩, List.mem_of_getElem? (i := 170) (by decide +kernel), List.mem_of_getElem? (i := 1637) (by decide +kernel), List.mem_of_getElem? (i := 1638) (by decide +kernel)⟩
theorem lw_p54 : lw_okq (⟨"PacketWorks$Table", "cutKeys", "([J[J)Z"⟩, 19) := ⟨⟨by decide +kernel, by decide +kernel⟩, List.mem_of_getElem? (i := 456) (by decide +kernel), List.mem_of_getElem? (i := 1657) (by decide +kernel), List.mem_of_getElem? (i := 1658) (by decide +kernel)⟩
theorem lw_p55 : lw_okq (⟨"PacketWorks$Table", "same", "([J[J)I"⟩, 19) := ⟨⟨by decide +kernel, by decide +kernel⟩, List.mem_of_getElem? (i := 456) (by decide +kernel), List.mem_of_getElem? (i := 1663) (by decide +kernel), List.mem_of_getElem? (i := 1664) (by decide +kernel)⟩
theorem lw_p56 : lw_okq (⟨"PacketWorks$Table", "remove", "(I)V"⟩, 19) := ⟨⟨by decide +kernel, by decide +kernel⟩, List.mem_of_getElem? (i := 456) (by decide +kernel), List.mem_of_getElem? (i := 1667) (by decide +kernel), List.mem_of_getElem? (i := 1668) (by decide +kernel)⟩
theorem lw_p57 : lw_okq (⟨"PacketWorks$Table", "append", "(LPacketWorks$Operation;)Z"⟩, 19) := ⟨⟨by decide +kernel, by decide +kernel⟩, List.mem_of_getElem? (i := 456) (by decide +kernel), List.mem_of_getElem? (i := 1671) (by decide +kernel), List.mem_of_getElem? (i := 1672) (by decide +kernel)⟩
theorem lw_p58 : lw_okq (⟨"PacketWorks$Table", "bucketOf", "(I)I"⟩, 19) := ⟨⟨by decide +kernel, by decide +kernel⟩, List.mem_of_getElem? (i := 456) (by decide +kernel), List.mem_of_getElem? (i := 1680) (by decide +kernel), List.mem_of_getElem? (i := 1681) (by decide +kernel)⟩
theorem lw_p59 : lw_okq (⟨"PacketWorks$Operation", "doStep", "(LPacketWorks$Program;I[J)I"⟩, 15) := ⟨⟨by decide +kernel, by decide +kernel⟩, List.mem_of_getElem? (i := 1486) (by decide +kernel), List.mem_of_getElem? (i := 1685) (by decide +kernel), List.mem_of_getElem? (i := 1686) (by decide +kernel)⟩
theorem lw_p60 : lw_okq (⟨"PacketWorks$Operation", "apply", "(LPacketWorks$Program;LPacketWorks$Table;[J)I"⟩, 15) := ⟨⟨by decide +kernel, by decide +kernel⟩, List.mem_of_getElem? (i := 1486) (by decide +kernel), List.mem_of_getElem? (i := 1689) (by decide +kernel), List.mem_of_getElem? (i := 1690) (by decide +kernel)⟩
theorem lw_p61 : lw_okq (⟨"PacketWorks$Operation", "doDeed", "(LPacketWorks$Program;I[J)V"⟩, 15) := ⟨⟨by decide +kernel, by decide +kernel⟩, List.mem_of_getElem? (i := 1486) (by decide +kernel), List.mem_of_getElem? (i := 1703) (by decide +kernel), List.mem_of_getElem? (i := 1704) (by decide +kernel)⟩
theorem lw_p62 : lw_okq (⟨"PacketWorks$Operation", "put", "(IJ)V"⟩, 15) := ⟨⟨by decide +kernel, by decide +kernel⟩, List.mem_of_getElem? (i := 1486) (by decide +kernel), List.mem_of_getElem? (i := 1711) (by decide +kernel), List.mem_of_getElem? (i := 1712) (by decide +kernel)⟩
theorem lw_p63 : lw_okq (⟨"PacketWorks$Operation", "takeAway", "(I)V"⟩, 15) := ⟨⟨by decide +kernel, by decide +kernel⟩, List.mem_of_getElem? (i := 1486) (by decide +kernel), List.mem_of_getElem? (i := 1715) (by decide +kernel), List.mem_of_getElem? (i := 1716) (by decide +kernel)⟩
def lw_privs_4 : List (MethodName × Nat) := [(⟨"PacketWorks$Steps", "meet", "([JI[JI)Z"⟩, 16), (⟨"PacketWorks", "isTable", "(I)Z"⟩, 12), (⟨"PacketWorks$Operation", "write", "(LPacketWorks$Program;II)I"⟩, 15), (⟨"PacketWorks$Operation", "pass", "(LPacketWorks$Program;I)I"⟩, 15), (⟨"PacketWorks$Operation", "extract", "(LPacketWorks$Program;I)Z"⟩, 15), (⟨"PacketWorks$Nodes", "reckon", "(IJJI)J"⟩, 9), (⟨"PacketWorks$Table", "cutKeys", "([J[J)Z"⟩, 19), (⟨"PacketWorks$Table", "same", "([J[J)I"⟩, 19), (⟨"PacketWorks$Table", "remove", "(I)V"⟩, 19), (⟨"PacketWorks$Table", "append", "(LPacketWorks$Operation;)Z"⟩, 19), (⟨"PacketWorks$Table", "bucketOf", "(I)I"⟩, 19), (⟨"PacketWorks$Operation", "doStep", "(LPacketWorks$Program;I[J)I"⟩, 15), (⟨"PacketWorks$Operation", "apply", "(LPacketWorks$Program;LPacketWorks$Table;[J)I"⟩, 15), (⟨"PacketWorks$Operation", "doDeed", "(LPacketWorks$Program;I[J)V"⟩, 15), (⟨"PacketWorks$Operation", "put", "(IJ)V"⟩, 15), (⟨"PacketWorks$Operation", "takeAway", "(I)V"⟩, 15)]
theorem lw_r4 : ∀ q ∈ lw_privs_4, lw_okq q := List.forall_mem_cons.mpr ⟨lw_p48, List.forall_mem_cons.mpr ⟨lw_p49, List.forall_mem_cons.mpr ⟨lw_p50, List.forall_mem_cons.mpr ⟨lw_p51, List.forall_mem_cons.mpr ⟨lw_p52, List.forall_mem_cons.mpr ⟨lw_p53, List.forall_mem_cons.mpr ⟨lw_p54, List.forall_mem_cons.mpr ⟨lw_p55, List.forall_mem_cons.mpr ⟨lw_p56, List.forall_mem_cons.mpr ⟨lw_p57, List.forall_mem_cons.mpr ⟨lw_p58, List.forall_mem_cons.mpr ⟨lw_p59, List.forall_mem_cons.mpr ⟨lw_p60, List.forall_mem_cons.mpr ⟨lw_p61, List.forall_mem_cons.mpr ⟨lw_p62, List.forall_mem_cons.mpr ⟨lw_p63, fun _ h => absurd h List.not_mem_nil⟩⟩⟩⟩⟩⟩⟩⟩⟩⟩⟩⟩⟩⟩⟩⟩
theorem lw_p64 : lw_okq (⟨"PacketWorksModel", "begin", "()V"⟩, 179) := ⟨⟨by decide +kernel, by decide +kernel⟩, List.mem_of_getElem? (i := 1735) (by decide +kernel), List.mem_of_getElem? (i := 2297) (by decide +kernel), List.mem_of_getElem? (i := 2298) (by decide +kernel)⟩
theorem lw_p65 : lw_okq (⟨"PacketWorksModel", "next", "()V"⟩, 179) := ⟨⟨by decide +kernel, by decide +kernel⟩, List.mem_of_getElem? (i := 1735) (by decide +kernel), List.mem_of_getElem? (i := 2301) (by decide +kernel), List.mem_of_getElem? (i := 2302) (by decide +kernel)⟩
theorem lw_p66 : lw_okq (⟨"PacketWorksModel", "byteAt", "(I)I"⟩, 179) := ⟨⟨by decide +kernel, by decide +kernel⟩, List.mem_of_getElem? (i := 1735) (by decide +kernel), List.mem_of_getElem? (i := 2305) (by decide +kernel), List.mem_of_getElem? (i := 2306) (by decide +kernel)⟩
theorem lw_p67 : lw_okq (⟨"PacketWorksModel", "look", "()V"⟩, 179) := ⟨⟨by decide +kernel, by decide +kernel⟩, List.mem_of_getElem? (i := 1735) (by decide +kernel), List.mem_of_getElem? (i := 2309) (by decide +kernel), List.mem_of_getElem? (i := 2310) (by decide +kernel)⟩
theorem lw_p68 : lw_okq (⟨"PacketWorksModel", "keyword", "()I"⟩, 179) := ⟨⟨by decide +kernel, by decide +kernel⟩, List.mem_of_getElem? (i := 1735) (by decide +kernel), List.mem_of_getElem? (i := 2319) (by decide +kernel), List.mem_of_getElem? (i := 2320) (by decide +kernel)⟩
theorem lw_p69 : lw_okq (⟨"PacketWorksModel", "lookNumber", "()V"⟩, 179) := ⟨⟨by decide +kernel, by decide +kernel⟩, List.mem_of_getElem? (i := 1735) (by decide +kernel), List.mem_of_getElem? (i := 2323) (by decide +kernel), List.mem_of_getElem? (i := 2324) (by decide +kernel)⟩
theorem lw_p70 : lw_okq (⟨"PacketWorksModel", "wrong", "(II)V"⟩, 179) := ⟨⟨by decide +kernel, by decide +kernel⟩, List.mem_of_getElem? (i := 1735) (by decide +kernel), List.mem_of_getElem? (i := 2338) (by decide +kernel), List.mem_of_getElem? (i := 2339) (by decide +kernel)⟩
theorem lw_p71 : lw_okq (⟨"PacketWorksModel", "takeOne", "()Z"⟩, 179) := ⟨⟨by decide +kernel, by decide +kernel⟩, List.mem_of_getElem? (i := 1735) (by decide +kernel), List.mem_of_getElem? (i := 2342) (by decide +kernel), List.mem_of_getElem? (i := 2343) (by decide +kernel)⟩
theorem lw_p72 : lw_okq (⟨"PacketWorksModel", "takeHeader", "()V"⟩, 179) := ⟨⟨by decide +kernel, by decide +kernel⟩, List.mem_of_getElem? (i := 1735) (by decide +kernel), List.mem_of_getElem? (i := 2346) (by decide +kernel), List.mem_of_getElem? (i := 2347) (by decide +kernel)⟩
theorem lw_p73 : lw_okq (⟨"PacketWorksModel", "newName", "(III)Z"⟩, 179) := ⟨⟨by decide +kernel, by decide +kernel⟩, List.mem_of_getElem? (i := 1735) (by decide +kernel), List.mem_of_getElem? (i := 2350) (by decide +kernel), List.mem_of_getElem? (i := 2351) (by decide +kernel)⟩
theorem lw_p74 : lw_okq (⟨"PacketWorksModel", "bad", "()V"⟩, 179) := ⟨⟨by decide +kernel, by decide +kernel⟩, List.mem_of_getElem? (i := 1735) (by decide +kernel), List.mem_of_getElem? (i := 2354) (by decide +kernel), List.mem_of_getElem? (i := 2355) (by decide +kernel)⟩
theorem lw_p75 : lw_okq (⟨"PacketWorksModel", "sortHere", "()I"⟩, 179) := ⟨⟨by decide +kernel, by decide +kernel⟩, List.mem_of_getElem? (i := 1735) (by decide +kernel), List.mem_of_getElem? (i := 2358) (by decide +kernel), List.mem_of_getElem? (i := 2359) (by decide +kernel)⟩
theorem lw_p76 : lw_okq (⟨"PacketWorksModel", "givenHere", "()I"⟩, 179) := ⟨⟨by decide +kernel, by decide +kernel⟩, List.mem_of_getElem? (i := 1735) (by decide +kernel), List.mem_of_getElem? (i := 2362) (by decide +kernel), List.mem_of_getElem? (i := 2363) (by decide +kernel)⟩
theorem lw_p77 : lw_okq (⟨"PacketWorksModel", "findHere", "()I"⟩, 179) := ⟨⟨by decide +kernel, by decide +kernel⟩, List.mem_of_getElem? (i := 1735) (by decide +kernel), List.mem_of_getElem? (i := 2366) (by decide +kernel), List.mem_of_getElem? (i := 2367) (by decide +kernel)⟩
theorem lw_p78 : lw_okq (⟨"PacketWorksModel", "isHere", "(II)Z"⟩, 179) := ⟨⟨by decide +kernel, by decide +kernel⟩, List.mem_of_getElem? (i := 1735) (by decide +kernel), List.mem_of_getElem? (i := 2370) (by decide +kernel), List.mem_of_getElem? (i := 2371) (by decide +kernel)⟩
theorem lw_p79 : lw_okq (⟨"PacketWorksModel", "enter", "(II)V"⟩, 179) := ⟨⟨by decide +kernel, by decide +kernel⟩, List.mem_of_getElem? (i := 1735) (by decide +kernel), List.mem_of_getElem? (i := 2374) (by decide +kernel), List.mem_of_getElem? (i := 2375) (by decide +kernel)⟩
def lw_privs_5 : List (MethodName × Nat) := [(⟨"PacketWorksModel", "begin", "()V"⟩, 179), (⟨"PacketWorksModel", "next", "()V"⟩, 179), (⟨"PacketWorksModel", "byteAt", "(I)I"⟩, 179), (⟨"PacketWorksModel", "look", "()V"⟩, 179), (⟨"PacketWorksModel", "keyword", "()I"⟩, 179), (⟨"PacketWorksModel", "lookNumber", "()V"⟩, 179), (⟨"PacketWorksModel", "wrong", "(II)V"⟩, 179), (⟨"PacketWorksModel", "takeOne", "()Z"⟩, 179), (⟨"PacketWorksModel", "takeHeader", "()V"⟩, 179), (⟨"PacketWorksModel", "newName", "(III)Z"⟩, 179), (⟨"PacketWorksModel", "bad", "()V"⟩, 179), (⟨"PacketWorksModel", "sortHere", "()I"⟩, 179), (⟨"PacketWorksModel", "givenHere", "()I"⟩, 179), (⟨"PacketWorksModel", "findHere", "()I"⟩, 179), (⟨"PacketWorksModel", "isHere", "(II)Z"⟩, 179), (⟨"PacketWorksModel", "enter", "(II)V"⟩, 179)]
theorem lw_r5 : ∀ q ∈ lw_privs_5, lw_okq q := List.forall_mem_cons.mpr ⟨lw_p64, List.forall_mem_cons.mpr ⟨lw_p65, List.forall_mem_cons.mpr ⟨lw_p66, List.forall_mem_cons.mpr ⟨lw_p67, List.forall_mem_cons.mpr ⟨lw_p68, List.forall_mem_cons.mpr ⟨lw_p69, List.forall_mem_cons.mpr ⟨lw_p70, List.forall_mem_cons.mpr ⟨lw_p71, List.forall_mem_cons.mpr ⟨lw_p72, List.forall_mem_cons.mpr ⟨lw_p73, List.forall_mem_cons.mpr ⟨lw_p74, List.forall_mem_cons.mpr ⟨lw_p75, List.forall_mem_cons.mpr ⟨lw_p76, List.forall_mem_cons.mpr ⟨lw_p77, List.forall_mem_cons.mpr ⟨lw_p78, List.forall_mem_cons.mpr ⟨lw_p79, fun _ h => absurd h List.not_mem_nil⟩⟩⟩⟩⟩⟩⟩⟩⟩⟩⟩⟩⟩⟩⟩⟩
theorem lw_p80 : lw_okq (⟨"PacketWorksModel", "need", "(I)V"⟩, 179) := ⟨⟨by decide +kernel, by decide +kernel⟩, List.mem_of_getElem? (i := 1735) (by decide +kernel), List.mem_of_getElem? (i := 2378) (by decide +kernel), List.mem_of_getElem? (i := 2379) (by decide +kernel)⟩
theorem lw_p81 : lw_okq (⟨"PacketWorksModel", "takeFieldOf", "(I)V"⟩, 179) := ⟨⟨by decide +kernel, by decide +kernel⟩, List.mem_of_getElem? (i := 1735) (by decide +kernel), List.mem_of_getElem? (i := 2382) (by decide +kernel), List.mem_of_getElem? (i := 2383) (by decide +kernel)⟩
theorem lw_p82 : lw_okq (⟨"PacketWorksModel", "number", "(II)I"⟩, 179) := ⟨⟨by decide +kernel, by decide +kernel⟩, List.mem_of_getElem? (i := 1735) (by decide +kernel), List.mem_of_getElem? (i := 2386) (by decide +kernel), List.mem_of_getElem? (i := 2387) (by decide +kernel)⟩
theorem lw_p83 : lw_okq (⟨"PacketWorksModel", "takeUse", "()V"⟩, 179) := ⟨⟨by decide +kernel, by decide +kernel⟩, List.mem_of_getElem? (i := 1735) (by decide +kernel), List.mem_of_getElem? (i := 2390) (by decide +kernel), List.mem_of_getElem? (i := 2391) (by decide +kernel)⟩
theorem lw_p84 : lw_okq (⟨"PacketWorksModel", "oldName", "(I)I"⟩, 179) := ⟨⟨by decide +kernel, by decide +kernel⟩, List.mem_of_getElem? (i := 1735) (by decide +kernel), List.mem_of_getElem? (i := 2394) (by decide +kernel), List.mem_of_getElem? (i := 2395) (by decide +kernel)⟩
theorem lw_p85 : lw_okq (⟨"PacketWorksModel", "whichHere", "()I"⟩, 179) := ⟨⟨by decide +kernel, by decide +kernel⟩, List.mem_of_getElem? (i := 1735) (by decide +kernel), List.mem_of_getElem? (i := 2398) (by decide +kernel), List.mem_of_getElem? (i := 2399) (by decide +kernel)⟩
theorem lw_p86 : lw_okq (⟨"PacketWorksModel", "takeMeta", "()V"⟩, 179) := ⟨⟨by decide +kernel, by decide +kernel⟩, List.mem_of_getElem? (i := 1735) (by decide +kernel), List.mem_of_getElem? (i := 2402) (by decide +kernel), List.mem_of_getElem? (i := 2403) (by decide +kernel)⟩
theorem lw_p87 : lw_okq (⟨"PacketWorksModel", "takeArray", "()V"⟩, 179) := ⟨⟨by decide +kernel, by decide +kernel⟩, List.mem_of_getElem? (i := 1735) (by decide +kernel), List.mem_of_getElem? (i := 2406) (by decide +kernel), List.mem_of_getElem? (i := 2407) (by decide +kernel)⟩
theorem lw_p88 : lw_okq (⟨"PacketWorksModel", "takeState", "()V"⟩, 179) := ⟨⟨by decide +kernel, by decide +kernel⟩, List.mem_of_getElem? (i := 1735) (by decide +kernel), List.mem_of_getElem? (i := 2410) (by decide +kernel), List.mem_of_getElem? (i := 2411) (by decide +kernel)⟩
theorem lw_p89 : lw_okq (⟨"PacketWorksModel", "takeExtract", "(I)V"⟩, 179) := ⟨⟨by decide +kernel, by decide +kernel⟩, List.mem_of_getElem? (i := 1735) (by decide +kernel), List.mem_of_getElem? (i := 2414) (by decide +kernel), List.mem_of_getElem? (i := 2415) (by decide +kernel)⟩
theorem lw_p90 : lw_okq (⟨"PacketWorksModel", "stateHere", "()I"⟩, 179) := ⟨⟨by decide +kernel, by decide +kernel⟩, List.mem_of_getElem? (i := 1735) (by decide +kernel), List.mem_of_getElem? (i := 2418) (by decide +kernel), List.mem_of_getElem? (i := 2419) (by decide +kernel)⟩
theorem lw_p91 : lw_okq (⟨"PacketWorksModel", "takeSelect", "(I)V"⟩, 179) := ⟨⟨by decide +kernel, by decide +kernel⟩, List.mem_of_getElem? (i := 1735) (by decide +kernel), List.mem_of_getElem? (i := 2422) (by decide +kernel), List.mem_of_getElem? (i := 2423) (by decide +kernel)⟩
theorem lw_p92 : lw_okq (⟨"PacketWorksModel", "readExpr", "()V"⟩, 179) := ⟨⟨by decide +kernel, by decide +kernel⟩, List.mem_of_getElem? (i := 1735) (by decide +kernel), List.mem_of_getElem? (i := 2426) (by decide +kernel), List.mem_of_getElem? (i := 2427) (by decide +kernel)⟩
theorem lw_p93 : lw_okq (⟨"PacketWorksModel", "beginChoice", "()V"⟩, 179) := ⟨⟨by decide +kernel, by decide +kernel⟩, List.mem_of_getElem? (i := 1735) (by decide +kernel), List.mem_of_getElem? (i := 2430) (by decide +kernel), List.mem_of_getElem? (i := 2431) (by decide +kernel)⟩
theorem lw_p94 : lw_okq (⟨"PacketWorksModel", "open", "(III)V"⟩, 179) := ⟨⟨by decide +kernel, by decide +kernel⟩, List.mem_of_getElem? (i := 1735) (by decide +kernel), List.mem_of_getElem? (i := 2434) (by decide +kernel), List.mem_of_getElem? (i := 2435) (by decide +kernel)⟩
theorem lw_p95 : lw_okq (⟨"PacketWorksModel", "wantUnit", "()V"⟩, 179) := ⟨⟨by decide +kernel, by decide +kernel⟩, List.mem_of_getElem? (i := 1735) (by decide +kernel), List.mem_of_getElem? (i := 2438) (by decide +kernel), List.mem_of_getElem? (i := 2439) (by decide +kernel)⟩
def lw_privs_6 : List (MethodName × Nat) := [(⟨"PacketWorksModel", "need", "(I)V"⟩, 179), (⟨"PacketWorksModel", "takeFieldOf", "(I)V"⟩, 179), (⟨"PacketWorksModel", "number", "(II)I"⟩, 179), (⟨"PacketWorksModel", "takeUse", "()V"⟩, 179), (⟨"PacketWorksModel", "oldName", "(I)I"⟩, 179), (⟨"PacketWorksModel", "whichHere", "()I"⟩, 179), (⟨"PacketWorksModel", "takeMeta", "()V"⟩, 179), (⟨"PacketWorksModel", "takeArray", "()V"⟩, 179), (⟨"PacketWorksModel", "takeState", "()V"⟩, 179), (⟨"PacketWorksModel", "takeExtract", "(I)V"⟩, 179), (⟨"PacketWorksModel", "stateHere", "()I"⟩, 179), (⟨"PacketWorksModel", "takeSelect", "(I)V"⟩, 179), (⟨"PacketWorksModel", "readExpr", "()V"⟩, 179), (⟨"PacketWorksModel", "beginChoice", "()V"⟩, 179), (⟨"PacketWorksModel", "open", "(III)V"⟩, 179), (⟨"PacketWorksModel", "wantUnit", "()V"⟩, 179)]
theorem lw_r6 : ∀ q ∈ lw_privs_6, lw_okq q := List.forall_mem_cons.mpr ⟨lw_p80, List.forall_mem_cons.mpr ⟨lw_p81, List.forall_mem_cons.mpr ⟨lw_p82, List.forall_mem_cons.mpr ⟨lw_p83, List.forall_mem_cons.mpr ⟨lw_p84, List.forall_mem_cons.mpr ⟨lw_p85, List.forall_mem_cons.mpr ⟨lw_p86, List.forall_mem_cons.mpr ⟨lw_p87, List.forall_mem_cons.mpr ⟨lw_p88, List.forall_mem_cons.mpr ⟨lw_p89, List.forall_mem_cons.mpr ⟨lw_p90, List.forall_mem_cons.mpr ⟨lw_p91, List.forall_mem_cons.mpr ⟨lw_p92, List.forall_mem_cons.mpr ⟨lw_p93, List.forall_mem_cons.mpr ⟨lw_p94, List.forall_mem_cons.mpr ⟨lw_p95, fun _ h => absurd h List.not_mem_nil⟩⟩⟩⟩⟩⟩⟩⟩⟩⟩⟩⟩⟩⟩⟩⟩
theorem lw_p96 : lw_okq (⟨"PacketWorksModel", "node", "(IIIJ)V"⟩, 179) := ⟨⟨by decide +kernel, by decide +kernel⟩, List.mem_of_getElem? (i := 1735) (by decide +kernel), List.mem_of_getElem? (i := 2442) (by decide +kernel), List.mem_of_getElem? (i := 2443) (by decide +kernel)⟩
theorem lw_p97 : lw_okq (⟨"PacketWorksModel", "atom", "(II)V"⟩, 179) := ⟨⟨by decide +kernel, by decide +kernel⟩, List.mem_of_getElem? (i := 1735) (by decide +kernel), List.mem_of_getElem? (i := 2446) (by decide +kernel), List.mem_of_getElem? (i := 2447) (by decide +kernel)⟩
theorem lw_p98 : lw_okq (⟨"PacketWorksModel", "unit", "(II)V"⟩, 179) := ⟨⟨by decide +kernel, by decide +kernel⟩, List.mem_of_getElem? (i := 1735) (by decide +kernel), List.mem_of_getElem? (i := 2450) (by decide +kernel), List.mem_of_getElem? (i := 2451) (by decide +kernel)⟩
theorem lw_p99 : lw_okq (⟨"PacketWorksModel", "takeName", "(I)V"⟩, 179) := ⟨⟨by decide +kernel, by decide +kernel⟩, List.mem_of_getElem? (i := 1735) (by decide +kernel), List.mem_of_getElem? (i := 2454) (by decide +kernel), List.mem_of_getElem? (i := 2455) (by decide +kernel)⟩
theorem lw_p100 : lw_okq (⟨"PacketWorksModel", "parameterHere", "()I"⟩, 179) := ⟨⟨by decide +kernel, by decide +kernel⟩, List.mem_of_getElem? (i := 1735) (by decide +kernel), List.mem_of_getElem? (i := 2458) (by decide +kernel), List.mem_of_getElem? (i := 2459) (by decide +kernel)⟩
theorem lw_p101 : lw_okq (⟨"PacketWorksModel", "takeField", "(I)I"⟩, 179) := ⟨⟨by decide +kernel, by decide +kernel⟩, List.mem_of_getElem? (i := 1735) (by decide +kernel), List.mem_of_getElem? (i := 2462) (by decide +kernel), List.mem_of_getElem? (i := 2463) (by decide +kernel)⟩
theorem lw_p102 : lw_okq (⟨"PacketWorksModel", "bitsOfField", "(I)I"⟩, 179) := ⟨⟨by decide +kernel, by decide +kernel⟩, List.mem_of_getElem? (i := 1735) (by decide +kernel), List.mem_of_getElem? (i := 2466) (by decide +kernel), List.mem_of_getElem? (i := 2467) (by decide +kernel)⟩
theorem lw_p103 : lw_okq (⟨"PacketWorksModel", "after", "()V"⟩, 179) := ⟨⟨by decide +kernel, by decide +kernel⟩, List.mem_of_getElem? (i := 1735) (by decide +kernel), List.mem_of_getElem? (i := 2470) (by decide +kernel), List.mem_of_getElem? (i := 2471) (by decide +kernel)⟩
theorem lw_p104 : lw_okq (⟨"PacketWorksModel", "want", "(ZI)V"⟩, 179) := ⟨⟨by decide +kernel, by decide +kernel⟩, List.mem_of_getElem? (i := 1735) (by decide +kernel), List.mem_of_getElem? (i := 2474) (by decide +kernel), List.mem_of_getElem? (i := 2475) (by decide +kernel)⟩
theorem lw_p105 : lw_okq (⟨"PacketWorksModel", "goOn", "()V"⟩, 179) := ⟨⟨by decide +kernel, by decide +kernel⟩, List.mem_of_getElem? (i := 1735) (by decide +kernel), List.mem_of_getElem? (i := 2478) (by decide +kernel), List.mem_of_getElem? (i := 2479) (by decide +kernel)⟩
theorem lw_p106 : lw_okq (⟨"PacketWorksModel", "wantBit", "(IZJI)V"⟩, 179) := ⟨⟨by decide +kernel, by decide +kernel⟩, List.mem_of_getElem? (i := 1735) (by decide +kernel), List.mem_of_getElem? (i := 2482) (by decide +kernel), List.mem_of_getElem? (i := 2483) (by decide +kernel)⟩
theorem lw_p107 : lw_okq (⟨"PacketWorksModel", "join", "(I)V"⟩, 179) := ⟨⟨by decide +kernel, by decide +kernel⟩, List.mem_of_getElem? (i := 1735) (by decide +kernel), List.mem_of_getElem? (i := 2489) (by decide +kernel), List.mem_of_getElem? (i := 2490) (by decide +kernel)⟩
theorem lw_p108 : lw_okq (⟨"PacketWorksModel", "common", "(IZJIIZJI)I"⟩, 179) := ⟨⟨by decide +kernel, by decide +kernel⟩, List.mem_of_getElem? (i := 1735) (by decide +kernel), List.mem_of_getElem? (i := 2493) (by decide +kernel), List.mem_of_getElem? (i := 2494) (by decide +kernel)⟩
theorem lw_p109 : lw_okq (⟨"PacketWorksModel", "endOr", "(I)V"⟩, 179) := ⟨⟨by decide +kernel, by decide +kernel⟩, List.mem_of_getElem? (i := 1735) (by decide +kernel), List.mem_of_getElem? (i := 2500) (by decide +kernel), List.mem_of_getElem? (i := 2501) (by decide +kernel)⟩
theorem lw_p110 : lw_okq (⟨"PacketWorksModel", "endChoice", "()V"⟩, 179) := ⟨⟨by decide +kernel, by decide +kernel⟩, List.mem_of_getElem? (i := 1735) (by decide +kernel), List.mem_of_getElem? (i := 2504) (by decide +kernel), List.mem_of_getElem? (i := 2505) (by decide +kernel)⟩
theorem lw_p111 : lw_okq (⟨"PacketWorksModel", "takeCase", "(I)V"⟩, 179) := ⟨⟨by decide +kernel, by decide +kernel⟩, List.mem_of_getElem? (i := 1735) (by decide +kernel), List.mem_of_getElem? (i := 2508) (by decide +kernel), List.mem_of_getElem? (i := 2509) (by decide +kernel)⟩
def lw_privs_7 : List (MethodName × Nat) := [(⟨"PacketWorksModel", "node", "(IIIJ)V"⟩, 179), (⟨"PacketWorksModel", "atom", "(II)V"⟩, 179), (⟨"PacketWorksModel", "unit", "(II)V"⟩, 179), (⟨"PacketWorksModel", "takeName", "(I)V"⟩, 179), (⟨"PacketWorksModel", "parameterHere", "()I"⟩, 179), (⟨"PacketWorksModel", "takeField", "(I)I"⟩, 179), (⟨"PacketWorksModel", "bitsOfField", "(I)I"⟩, 179), (⟨"PacketWorksModel", "after", "()V"⟩, 179), (⟨"PacketWorksModel", "want", "(ZI)V"⟩, 179), (⟨"PacketWorksModel", "goOn", "()V"⟩, 179), (⟨"PacketWorksModel", "wantBit", "(IZJI)V"⟩, 179), (⟨"PacketWorksModel", "join", "(I)V"⟩, 179), (⟨"PacketWorksModel", "common", "(IZJIIZJI)I"⟩, 179), (⟨"PacketWorksModel", "endOr", "(I)V"⟩, 179), (⟨"PacketWorksModel", "endChoice", "()V"⟩, 179), (⟨"PacketWorksModel", "takeCase", "(I)V"⟩, 179)]
theorem lw_r7 : ∀ q ∈ lw_privs_7, lw_okq q := List.forall_mem_cons.mpr ⟨lw_p96, List.forall_mem_cons.mpr ⟨lw_p97, List.forall_mem_cons.mpr ⟨lw_p98, List.forall_mem_cons.mpr ⟨lw_p99, List.forall_mem_cons.mpr ⟨lw_p100, List.forall_mem_cons.mpr ⟨lw_p101, List.forall_mem_cons.mpr ⟨lw_p102, List.forall_mem_cons.mpr ⟨lw_p103, List.forall_mem_cons.mpr ⟨lw_p104, List.forall_mem_cons.mpr ⟨lw_p105, List.forall_mem_cons.mpr ⟨lw_p106, List.forall_mem_cons.mpr ⟨lw_p107, List.forall_mem_cons.mpr ⟨lw_p108, List.forall_mem_cons.mpr ⟨lw_p109, List.forall_mem_cons.mpr ⟨lw_p110, List.forall_mem_cons.mpr ⟨lw_p111, fun _ h => absurd h List.not_mem_nil⟩⟩⟩⟩⟩⟩⟩⟩⟩⟩⟩⟩⟩⟩⟩⟩
theorem lw_p112 : lw_okq (⟨"PacketWorksModel", "caseNumber", "(I)J"⟩, 179) := ⟨⟨by decide +kernel, by decide +kernel⟩, List.mem_of_getElem? (i := 1735) (by decide +kernel), List.mem_of_getElem? (i := 2512) (by decide +kernel), List.mem_of_getElem? (i := 2513) (by decide +kernel)⟩
theorem lw_p113 : lw_okq (⟨"PacketWorksModel", "takeAction", "()V"⟩, 179) := ⟨⟨by decide +kernel, by decide +kernel⟩, List.mem_of_getElem? (i := 1735) (by decide +kernel), List.mem_of_getElem? (i := 2517) (by decide +kernel), List.mem_of_getElem? (i := 2518) (by decide +kernel)⟩
theorem lw_p114 : lw_okq (⟨"PacketWorksModel", "takeParameter", "(I)V"⟩, 179) := ⟨⟨by decide +kernel, by decide +kernel⟩, List.mem_of_getElem? (i := 1735) (by decide +kernel), List.mem_of_getElem? (i := 2521) (by decide +kernel), List.mem_of_getElem? (i := 2522) (by decide +kernel)⟩
theorem lw_p115 : lw_okq (⟨"PacketWorksModel", "isStatement", "()Z"⟩, 179) := ⟨⟨by decide +kernel, by decide +kernel⟩, List.mem_of_getElem? (i := 1735) (by decide +kernel), List.mem_of_getElem? (i := 2525) (by decide +kernel), List.mem_of_getElem? (i := 2526) (by decide +kernel)⟩
theorem lw_p116 : lw_okq (⟨"PacketWorksModel", "takeStatement", "()V"⟩, 179) := ⟨⟨by decide +kernel, by decide +kernel⟩, List.mem_of_getElem? (i := 1735) (by decide +kernel), List.mem_of_getElem? (i := 2529) (by decide +kernel), List.mem_of_getElem? (i := 2530) (by decide +kernel)⟩
theorem lw_p117 : lw_okq (⟨"PacketWorksModel", "takePlace", "()I"⟩, 179) := ⟨⟨by decide +kernel, by decide +kernel⟩, List.mem_of_getElem? (i := 1735) (by decide +kernel), List.mem_of_getElem? (i := 2533) (by decide +kernel), List.mem_of_getElem? (i := 2534) (by decide +kernel)⟩
theorem lw_p118 : lw_okq (⟨"PacketWorksModel", "takeWorth", "(II)V"⟩, 179) := ⟨⟨by decide +kernel, by decide +kernel⟩, List.mem_of_getElem? (i := 1735) (by decide +kernel), List.mem_of_getElem? (i := 2537) (by decide +kernel), List.mem_of_getElem? (i := 2538) (by decide +kernel)⟩
theorem lw_p119 : lw_okq (⟨"PacketWorksModel", "exprOf", "(I)V"⟩, 179) := ⟨⟨by decide +kernel, by decide +kernel⟩, List.mem_of_getElem? (i := 1735) (by decide +kernel), List.mem_of_getElem? (i := 2541) (by decide +kernel), List.mem_of_getElem? (i := 2542) (by decide +kernel)⟩
theorem lw_p120 : lw_okq (⟨"PacketWorksModel", "takeIndex", "(I)V"⟩, 179) := ⟨⟨by decide +kernel, by decide +kernel⟩, List.mem_of_getElem? (i := 1735) (by decide +kernel), List.mem_of_getElem? (i := 2545) (by decide +kernel), List.mem_of_getElem? (i := 2546) (by decide +kernel)⟩
theorem lw_p121 : lw_okq (⟨"PacketWorksModel", "takeTable", "()V"⟩, 179) := ⟨⟨by decide +kernel, by decide +kernel⟩, List.mem_of_getElem? (i := 1735) (by decide +kernel), List.mem_of_getElem? (i := 2549) (by decide +kernel), List.mem_of_getElem? (i := 2550) (by decide +kernel)⟩
theorem lw_p122 : lw_okq (⟨"PacketWorksModel", "takeList", "(I)V"⟩, 179) := ⟨⟨by decide +kernel, by decide +kernel⟩, List.mem_of_getElem? (i := 1735) (by decide +kernel), List.mem_of_getElem? (i := 2553) (by decide +kernel), List.mem_of_getElem? (i := 2554) (by decide +kernel)⟩
theorem lw_p123 : lw_okq (⟨"PacketWorksModel", "takeElse", "(I)V"⟩, 179) := ⟨⟨by decide +kernel, by decide +kernel⟩, List.mem_of_getElem? (i := 1735) (by decide +kernel), List.mem_of_getElem? (i := 2557) (by decide +kernel), List.mem_of_getElem? (i := 2558) (by decide +kernel)⟩
theorem lw_p124 : lw_okq (⟨"PacketWorksModel", "takeRoom", "(I)V"⟩, 179) := ⟨⟨by decide +kernel, by decide +kernel⟩, List.mem_of_getElem? (i := 1735) (by decide +kernel), List.mem_of_getElem? (i := 2561) (by decide +kernel), List.mem_of_getElem? (i := 2562) (by decide +kernel)⟩
theorem lw_p125 : lw_okq (⟨"PacketWorksModel", "takeControl", "()V"⟩, 179) := ⟨⟨by decide +kernel, by decide +kernel⟩, List.mem_of_getElem? (i := 1735) (by decide +kernel), List.mem_of_getElem? (i := 2569) (by decide +kernel), List.mem_of_getElem? (i := 2570) (by decide +kernel)⟩
theorem lw_p126 : lw_okq (⟨"PacketWorksModel", "openBlock", "(II)V"⟩, 179) := ⟨⟨by decide +kernel, by decide +kernel⟩, List.mem_of_getElem? (i := 1735) (by decide +kernel), List.mem_of_getElem? (i := 2573) (by decide +kernel), List.mem_of_getElem? (i := 2574) (by decide +kernel)⟩
theorem lw_p127 : lw_okq (⟨"PacketWorksModel", "newStep", "(I)I"⟩, 179) := ⟨⟨by decide +kernel, by decide +kernel⟩, List.mem_of_getElem? (i := 1735) (by decide +kernel), List.mem_of_getElem? (i := 2577) (by decide +kernel), List.mem_of_getElem? (i := 2578) (by decide +kernel)⟩
def lw_privs_8 : List (MethodName × Nat) := [(⟨"PacketWorksModel", "caseNumber", "(I)J"⟩, 179), (⟨"PacketWorksModel", "takeAction", "()V"⟩, 179), (⟨"PacketWorksModel", "takeParameter", "(I)V"⟩, 179), (⟨"PacketWorksModel", "isStatement", "()Z"⟩, 179), (⟨"PacketWorksModel", "takeStatement", "()V"⟩, 179), (⟨"PacketWorksModel", "takePlace", "()I"⟩, 179), (⟨"PacketWorksModel", "takeWorth", "(II)V"⟩, 179), (⟨"PacketWorksModel", "exprOf", "(I)V"⟩, 179), (⟨"PacketWorksModel", "takeIndex", "(I)V"⟩, 179), (⟨"PacketWorksModel", "takeTable", "()V"⟩, 179), (⟨"PacketWorksModel", "takeList", "(I)V"⟩, 179), (⟨"PacketWorksModel", "takeElse", "(I)V"⟩, 179), (⟨"PacketWorksModel", "takeRoom", "(I)V"⟩, 179), (⟨"PacketWorksModel", "takeControl", "()V"⟩, 179), (⟨"PacketWorksModel", "openBlock", "(II)V"⟩, 179), (⟨"PacketWorksModel", "newStep", "(I)I"⟩, 179)]
theorem lw_r8 : ∀ q ∈ lw_privs_8, lw_okq q := List.forall_mem_cons.mpr ⟨lw_p112, List.forall_mem_cons.mpr ⟨lw_p113, List.forall_mem_cons.mpr ⟨lw_p114, List.forall_mem_cons.mpr ⟨lw_p115, List.forall_mem_cons.mpr ⟨lw_p116, List.forall_mem_cons.mpr ⟨lw_p117, List.forall_mem_cons.mpr ⟨lw_p118, List.forall_mem_cons.mpr ⟨lw_p119, List.forall_mem_cons.mpr ⟨lw_p120, List.forall_mem_cons.mpr ⟨lw_p121, List.forall_mem_cons.mpr ⟨lw_p122, List.forall_mem_cons.mpr ⟨lw_p123, List.forall_mem_cons.mpr ⟨lw_p124, List.forall_mem_cons.mpr ⟨lw_p125, List.forall_mem_cons.mpr ⟨lw_p126, List.forall_mem_cons.mpr ⟨lw_p127, fun _ h => absurd h List.not_mem_nil⟩⟩⟩⟩⟩⟩⟩⟩⟩⟩⟩⟩⟩⟩⟩⟩
theorem lw_p128 : lw_okq (⟨"PacketWorksModel", "closeBlock", "()V"⟩, 179) := ⟨⟨by decide +kernel, by decide +kernel⟩, List.mem_of_getElem? (i := 1735) (by decide +kernel), List.mem_of_getElem? (i := 2581) (by decide +kernel), List.mem_of_getElem? (i := 2582) (by decide +kernel)⟩
theorem lw_p129 : lw_okq (⟨"PacketWorksModel", "takeEmit", "()V"⟩, 179) := ⟨⟨by decide +kernel, by decide +kernel⟩, List.mem_of_getElem? (i := 1735) (by decide +kernel), List.mem_of_getElem? (i := 2585) (by decide +kernel), List.mem_of_getElem? (i := 2586) (by decide +kernel)⟩
theorem lw_p130 : lw_okq (⟨"PacketWorksModel", "checkStates", "()V"⟩, 179) := ⟨⟨by decide +kernel, by decide +kernel⟩, List.mem_of_getElem? (i := 1735) (by decide +kernel), List.mem_of_getElem? (i := 2589) (by decide +kernel), List.mem_of_getElem? (i := 2590) (by decide +kernel)⟩
theorem lw_p131 : lw_okq (⟨"PacketWorksModel", "comesRound", "(I)Z"⟩, 179) := ⟨⟨by decide +kernel, by decide +kernel⟩, List.mem_of_getElem? (i := 1735) (by decide +kernel), List.mem_of_getElem? (i := 2593) (by decide +kernel), List.mem_of_getElem? (i := 2594) (by decide +kernel)⟩
theorem lw_p132 : lw_okq (⟨"PacketWorksModel", "leads", "(II)Z"⟩, 179) := ⟨⟨by decide +kernel, by decide +kernel⟩, List.mem_of_getElem? (i := 1735) (by decide +kernel), List.mem_of_getElem? (i := 2597) (by decide +kernel), List.mem_of_getElem? (i := 2598) (by decide +kernel)⟩
theorem lw_p133 : lw_okq (⟨"PacketWorksModel", "touchesAll", "()V"⟩, 179) := ⟨⟨by decide +kernel, by decide +kernel⟩, List.mem_of_getElem? (i := 1735) (by decide +kernel), List.mem_of_getElem? (i := 2613) (by decide +kernel), List.mem_of_getElem? (i := 2614) (by decide +kernel)⟩
theorem lw_p134 : lw_okq (⟨"PacketWorksModel", "touches", "(II)V"⟩, 179) := ⟨⟨by decide +kernel, by decide +kernel⟩, List.mem_of_getElem? (i := 1735) (by decide +kernel), List.mem_of_getElem? (i := 2617) (by decide +kernel), List.mem_of_getElem? (i := 2618) (by decide +kernel)⟩
theorem lw_p135 : lw_okq (⟨"PacketWorksModel", "readsCode", "(III)V"⟩, 179) := ⟨⟨by decide +kernel, by decide +kernel⟩, List.mem_of_getElem? (i := 1735) (by decide +kernel), List.mem_of_getElem? (i := 2621) (by decide +kernel), List.mem_of_getElem? (i := 2622) (by decide +kernel)⟩
theorem lw_p136 : lw_okq (⟨"PacketWorksModel", "writesPlace", "(II)V"⟩, 179) := ⟨⟨by decide +kernel, by decide +kernel⟩, List.mem_of_getElem? (i := 1735) (by decide +kernel), List.mem_of_getElem? (i := 2625) (by decide +kernel), List.mem_of_getElem? (i := 2626) (by decide +kernel)⟩
theorem lw_p137 : lw_okq (⟨"PacketWorksModel", "touchesAction", "(II)V"⟩, 179) := ⟨⟨by decide +kernel, by decide +kernel⟩, List.mem_of_getElem? (i := 1735) (by decide +kernel), List.mem_of_getElem? (i := 2629) (by decide +kernel), List.mem_of_getElem? (i := 2630) (by decide +kernel)⟩
theorem lw_p138 : lw_okq (⟨"PacketWorksModel", "stageFor", "(IIJJ)I"⟩, 179) := ⟨⟨by decide +kernel, by decide +kernel⟩, List.mem_of_getElem? (i := 1735) (by decide +kernel), List.mem_of_getElem? (i := 2633) (by decide +kernel), List.mem_of_getElem? (i := 2634) (by decide +kernel)⟩
theorem lw_p139 : lw_okq (⟨"PacketWorksModel", "givesTo", "(II)Z"⟩, 179) := ⟨⟨by decide +kernel, by decide +kernel⟩, List.mem_of_getElem? (i := 1735) (by decide +kernel), List.mem_of_getElem? (i := 2637) (by decide +kernel), List.mem_of_getElem? (i := 2638) (by decide +kernel)⟩
theorem lw_p140 : lw_okq (⟨"PacketWorksModel", "isWithin", "(II)Z"⟩, 179) := ⟨⟨by decide +kernel, by decide +kernel⟩, List.mem_of_getElem? (i := 1735) (by decide +kernel), List.mem_of_getElem? (i := 2641) (by decide +kernel), List.mem_of_getElem? (i := 2642) (by decide +kernel)⟩
theorem lw_p141 : lw_okq (⟨"PacketWorksModel", "readsAhead", "(II)Z"⟩, 179) := ⟨⟨by decide +kernel, by decide +kernel⟩, List.mem_of_getElem? (i := 1735) (by decide +kernel), List.mem_of_getElem? (i := 2645) (by decide +kernel), List.mem_of_getElem? (i := 2646) (by decide +kernel)⟩
theorem lw_p142 : lw_okq (⟨"PacketWorksModel", "sharesArray", "(II)Z"⟩, 179) := ⟨⟨by decide +kernel, by decide +kernel⟩, List.mem_of_getElem? (i := 1735) (by decide +kernel), List.mem_of_getElem? (i := 2649) (by decide +kernel), List.mem_of_getElem? (i := 2650) (by decide +kernel)⟩
theorem lw_p143 : lw_okq (⟨"PacketWorksModel", "memoryOf", "(I)J"⟩, 179) := ⟨⟨by decide +kernel, by decide +kernel⟩, List.mem_of_getElem? (i := 1735) (by decide +kernel), List.mem_of_getElem? (i := 2653) (by decide +kernel), List.mem_of_getElem? (i := 2654) (by decide +kernel)⟩
def lw_privs_9 : List (MethodName × Nat) := [(⟨"PacketWorksModel", "closeBlock", "()V"⟩, 179), (⟨"PacketWorksModel", "takeEmit", "()V"⟩, 179), (⟨"PacketWorksModel", "checkStates", "()V"⟩, 179), (⟨"PacketWorksModel", "comesRound", "(I)Z"⟩, 179), (⟨"PacketWorksModel", "leads", "(II)Z"⟩, 179), (⟨"PacketWorksModel", "touchesAll", "()V"⟩, 179), (⟨"PacketWorksModel", "touches", "(II)V"⟩, 179), (⟨"PacketWorksModel", "readsCode", "(III)V"⟩, 179), (⟨"PacketWorksModel", "writesPlace", "(II)V"⟩, 179), (⟨"PacketWorksModel", "touchesAction", "(II)V"⟩, 179), (⟨"PacketWorksModel", "stageFor", "(IIJJ)I"⟩, 179), (⟨"PacketWorksModel", "givesTo", "(II)Z"⟩, 179), (⟨"PacketWorksModel", "isWithin", "(II)Z"⟩, 179), (⟨"PacketWorksModel", "readsAhead", "(II)Z"⟩, 179), (⟨"PacketWorksModel", "sharesArray", "(II)Z"⟩, 179), (⟨"PacketWorksModel", "memoryOf", "(I)J"⟩, 179)]
theorem lw_r9 : ∀ q ∈ lw_privs_9, lw_okq q := List.forall_mem_cons.mpr ⟨lw_p128, List.forall_mem_cons.mpr ⟨lw_p129, List.forall_mem_cons.mpr ⟨lw_p130, List.forall_mem_cons.mpr ⟨lw_p131, List.forall_mem_cons.mpr ⟨lw_p132, List.forall_mem_cons.mpr ⟨lw_p133, List.forall_mem_cons.mpr ⟨lw_p134, List.forall_mem_cons.mpr ⟨lw_p135, List.forall_mem_cons.mpr ⟨lw_p136, List.forall_mem_cons.mpr ⟨lw_p137, List.forall_mem_cons.mpr ⟨lw_p138, List.forall_mem_cons.mpr ⟨lw_p139, List.forall_mem_cons.mpr ⟨lw_p140, List.forall_mem_cons.mpr ⟨lw_p141, List.forall_mem_cons.mpr ⟨lw_p142, List.forall_mem_cons.mpr ⟨lw_p143, fun _ h => absurd h List.not_mem_nil⟩⟩⟩⟩⟩⟩⟩⟩⟩⟩⟩⟩⟩⟩⟩⟩
theorem lw_p144 : lw_okq (⟨"PacketWorksModel", "wiresOf", "(I)J"⟩, 179) := ⟨⟨by decide +kernel, by decide +kernel⟩, List.mem_of_getElem? (i := 1735) (by decide +kernel), List.mem_of_getElem? (i := 2660) (by decide +kernel), List.mem_of_getElem? (i := 2661) (by decide +kernel)⟩
theorem lw_p145 : lw_okq (⟨"PacketWorksModel", "comes", "(I)I"⟩, 179) := ⟨⟨by decide +kernel, by decide +kernel⟩, List.mem_of_getElem? (i := 1735) (by decide +kernel), List.mem_of_getElem? (i := 2683) (by decide +kernel), List.mem_of_getElem? (i := 2684) (by decide +kernel)⟩
theorem lw_p146 : lw_okq (⟨"PacketWorksModel", "doFirst", "()V"⟩, 179) := ⟨⟨by decide +kernel, by decide +kernel⟩, List.mem_of_getElem? (i := 1735) (by decide +kernel), List.mem_of_getElem? (i := 2703) (by decide +kernel), List.mem_of_getElem? (i := 2704) (by decide +kernel)⟩
theorem lw_p147 : lw_okq (⟨"PacketWorksModel", "areMasks", "(I)Z"⟩, 179) := ⟨⟨by decide +kernel, by decide +kernel⟩, List.mem_of_getElem? (i := 1735) (by decide +kernel), List.mem_of_getElem? (i := 2707) (by decide +kernel), List.mem_of_getElem? (i := 2708) (by decide +kernel)⟩
theorem lw_p148 : lw_okq (⟨"PacketWorksModel", "entryComes", "(I)Z"⟩, 179) := ⟨⟨by decide +kernel, by decide +kernel⟩, List.mem_of_getElem? (i := 1735) (by decide +kernel), List.mem_of_getElem? (i := 2714) (by decide +kernel), List.mem_of_getElem? (i := 2715) (by decide +kernel)⟩
theorem lw_p149 : lw_okq (⟨"PacketWorksModel", "isOf", "(II)Z"⟩, 179) := ⟨⟨by decide +kernel, by decide +kernel⟩, List.mem_of_getElem? (i := 1735) (by decide +kernel), List.mem_of_getElem? (i := 2718) (by decide +kernel), List.mem_of_getElem? (i := 2719) (by decide +kernel)⟩
theorem lw_p150 : lw_okq (⟨"PacketWorksModel", "findSame", "(I)I"⟩, 179) := ⟨⟨by decide +kernel, by decide +kernel⟩, List.mem_of_getElem? (i := 1735) (by decide +kernel), List.mem_of_getElem? (i := 2722) (by decide +kernel), List.mem_of_getElem? (i := 2723) (by decide +kernel)⟩
theorem lw_p151 : lw_okq (⟨"PacketWorksModel", "slot", "(II)I"⟩, 179) := ⟨⟨by decide +kernel, by decide +kernel⟩, List.mem_of_getElem? (i := 1735) (by decide +kernel), List.mem_of_getElem? (i := 2726) (by decide +kernel), List.mem_of_getElem? (i := 2727) (by decide +kernel)⟩
theorem lw_p152 : lw_okq (⟨"PacketWorksModel", "putAction", "(II)V"⟩, 179) := ⟨⟨by decide +kernel, by decide +kernel⟩, List.mem_of_getElem? (i := 1735) (by decide +kernel), List.mem_of_getElem? (i := 2730) (by decide +kernel), List.mem_of_getElem? (i := 2731) (by decide +kernel)⟩
theorem lw_p153 : lw_okq (⟨"PacketWorksModel", "above", "(I)I"⟩, 179) := ⟨⟨by decide +kernel, by decide +kernel⟩, List.mem_of_getElem? (i := 1735) (by decide +kernel), List.mem_of_getElem? (i := 2734) (by decide +kernel), List.mem_of_getElem? (i := 2735) (by decide +kernel)⟩
theorem lw_p154 : lw_okq (⟨"PacketWorksModel", "bucket", "(II)I"⟩, 179) := ⟨⟨by decide +kernel, by decide +kernel⟩, List.mem_of_getElem? (i := 1735) (by decide +kernel), List.mem_of_getElem? (i := 2738) (by decide +kernel), List.mem_of_getElem? (i := 2739) (by decide +kernel)⟩
theorem lw_p155 : lw_okq (⟨"PacketWorksModel", "entryChanges", "(I)Z"⟩, 179) := ⟨⟨by decide +kernel, by decide +kernel⟩, List.mem_of_getElem? (i := 1735) (by decide +kernel), List.mem_of_getElem? (i := 2743) (by decide +kernel), List.mem_of_getElem? (i := 2744) (by decide +kernel)⟩
theorem lw_p156 : lw_okq (⟨"PacketWorksModel", "entryGoes", "(I)Z"⟩, 179) := ⟨⟨by decide +kernel, by decide +kernel⟩, List.mem_of_getElem? (i := 1735) (by decide +kernel), List.mem_of_getElem? (i := 2747) (by decide +kernel), List.mem_of_getElem? (i := 2748) (by decide +kernel)⟩
theorem lw_p157 : lw_okq (⟨"PacketWorksModel", "readPacket", "()Z"⟩, 179) := ⟨⟨by decide +kernel, by decide +kernel⟩, List.mem_of_getElem? (i := 1735) (by decide +kernel), List.mem_of_getElem? (i := 2751) (by decide +kernel), List.mem_of_getElem? (i := 2752) (by decide +kernel)⟩
theorem lw_p158 : lw_okq (⟨"PacketWorksModel", "extract", "(I)Z"⟩, 179) := ⟨⟨by decide +kernel, by decide +kernel⟩, List.mem_of_getElem? (i := 1735) (by decide +kernel), List.mem_of_getElem? (i := 2756) (by decide +kernel), List.mem_of_getElem? (i := 2757) (by decide +kernel)⟩
theorem lw_p159 : lw_okq (⟨"PacketWorksModel", "worth", "(II)J"⟩, 179) := ⟨⟨by decide +kernel, by decide +kernel⟩, List.mem_of_getElem? (i := 1735) (by decide +kernel), List.mem_of_getElem? (i := 2760) (by decide +kernel), List.mem_of_getElem? (i := 2761) (by decide +kernel)⟩
def lw_privs_10 : List (MethodName × Nat) := [(⟨"PacketWorksModel", "wiresOf", "(I)J"⟩, 179), (⟨"PacketWorksModel", "comes", "(I)I"⟩, 179), (⟨"PacketWorksModel", "doFirst", "()V"⟩, 179), (⟨"PacketWorksModel", "areMasks", "(I)Z"⟩, 179), (⟨"PacketWorksModel", "entryComes", "(I)Z"⟩, 179), (⟨"PacketWorksModel", "isOf", "(II)Z"⟩, 179), (⟨"PacketWorksModel", "findSame", "(I)I"⟩, 179), (⟨"PacketWorksModel", "slot", "(II)I"⟩, 179), (⟨"PacketWorksModel", "putAction", "(II)V"⟩, 179), (⟨"PacketWorksModel", "above", "(I)I"⟩, 179), (⟨"PacketWorksModel", "bucket", "(II)I"⟩, 179), (⟨"PacketWorksModel", "entryChanges", "(I)Z"⟩, 179), (⟨"PacketWorksModel", "entryGoes", "(I)Z"⟩, 179), (⟨"PacketWorksModel", "readPacket", "()Z"⟩, 179), (⟨"PacketWorksModel", "extract", "(I)Z"⟩, 179), (⟨"PacketWorksModel", "worth", "(II)J"⟩, 179)]
theorem lw_r10 : ∀ q ∈ lw_privs_10, lw_okq q := List.forall_mem_cons.mpr ⟨lw_p144, List.forall_mem_cons.mpr ⟨lw_p145, List.forall_mem_cons.mpr ⟨lw_p146, List.forall_mem_cons.mpr ⟨lw_p147, List.forall_mem_cons.mpr ⟨lw_p148, List.forall_mem_cons.mpr ⟨lw_p149, List.forall_mem_cons.mpr ⟨lw_p150, List.forall_mem_cons.mpr ⟨lw_p151, List.forall_mem_cons.mpr ⟨lw_p152, List.forall_mem_cons.mpr ⟨lw_p153, List.forall_mem_cons.mpr ⟨lw_p154, List.forall_mem_cons.mpr ⟨lw_p155, List.forall_mem_cons.mpr ⟨lw_p156, List.forall_mem_cons.mpr ⟨lw_p157, List.forall_mem_cons.mpr ⟨lw_p158, List.forall_mem_cons.mpr ⟨lw_p159, fun _ h => absurd h List.not_mem_nil⟩⟩⟩⟩⟩⟩⟩⟩⟩⟩⟩⟩⟩⟩⟩⟩
theorem lw_p160 : lw_okq (⟨"PacketWorksModel", "goThrough", "(I)V"⟩, 179) := ⟨⟨by decide +kernel, by decide +kernel⟩, List.mem_of_getElem? (i := 1735) (by decide +kernel), List.mem_of_getElem? (i := 2774) (by decide +kernel), List.mem_of_getElem? (i := 2775) (by decide +kernel)⟩
theorem lw_p161 : lw_okq (⟨"PacketWorksModel", "doStatement", "(I)V"⟩, 179) := ⟨⟨by decide +kernel, by decide +kernel⟩, List.mem_of_getElem? (i := 1735) (by decide +kernel), List.mem_of_getElem? (i := 2778) (by decide +kernel), List.mem_of_getElem? (i := 2779) (by decide +kernel)⟩
theorem lw_p162 : lw_okq (⟨"PacketWorksModel", "put", "(IJ)V"⟩, 179) := ⟨⟨by decide +kernel, by decide +kernel⟩, List.mem_of_getElem? (i := 1735) (by decide +kernel), List.mem_of_getElem? (i := 2782) (by decide +kernel), List.mem_of_getElem? (i := 2783) (by decide +kernel)⟩
theorem lw_p163 : lw_okq (⟨"PacketWorksModel", "wordAt", "(I)I"⟩, 179) := ⟨⟨by decide +kernel, by decide +kernel⟩, List.mem_of_getElem? (i := 1735) (by decide +kernel), List.mem_of_getElem? (i := 2786) (by decide +kernel), List.mem_of_getElem? (i := 2787) (by decide +kernel)⟩
theorem lw_p164 : lw_okq (⟨"PacketWorksModel", "doTable", "(I)I"⟩, 179) := ⟨⟨by decide +kernel, by decide +kernel⟩, List.mem_of_getElem? (i := 1735) (by decide +kernel), List.mem_of_getElem? (i := 2793) (by decide +kernel), List.mem_of_getElem? (i := 2794) (by decide +kernel)⟩
theorem lw_p165 : lw_okq (⟨"PacketWorksModel", "matches", "(II)Z"⟩, 179) := ⟨⟨by decide +kernel, by decide +kernel⟩, List.mem_of_getElem? (i := 1735) (by decide +kernel), List.mem_of_getElem? (i := 2797) (by decide +kernel), List.mem_of_getElem? (i := 2798) (by decide +kernel)⟩
theorem lw_p166 : lw_okq (⟨"PacketWorksModel", "prefixOf", "(II)I"⟩, 179) := ⟨⟨by decide +kernel, by decide +kernel⟩, List.mem_of_getElem? (i := 1735) (by decide +kernel), List.mem_of_getElem? (i := 2801) (by decide +kernel), List.mem_of_getElem? (i := 2802) (by decide +kernel)⟩
theorem lw_p167 : lw_okq (⟨"PacketWorksModel", "writePacket", "(I)V"⟩, 179) := ⟨⟨by decide +kernel, by decide +kernel⟩, List.mem_of_getElem? (i := 1735) (by decide +kernel), List.mem_of_getElem? (i := 2808) (by decide +kernel), List.mem_of_getElem? (i := 2809) (by decide +kernel)⟩
theorem lw_p168 : lw_okq (⟨"PacketWorksModel", "moveDown", "(I)V"⟩, 179) := ⟨⟨by decide +kernel, by decide +kernel⟩, List.mem_of_getElem? (i := 1735) (by decide +kernel), List.mem_of_getElem? (i := 2812) (by decide +kernel), List.mem_of_getElem? (i := 2813) (by decide +kernel)⟩
theorem lw_p169 : lw_okq (⟨"PacketWorksModel", "isOut", "(I)Z"⟩, 179) := ⟨⟨by decide +kernel, by decide +kernel⟩, List.mem_of_getElem? (i := 1735) (by decide +kernel), List.mem_of_getElem? (i := 2820) (by decide +kernel), List.mem_of_getElem? (i := 2821) (by decide +kernel)⟩
def lw_privs_11 : List (MethodName × Nat) := [(⟨"PacketWorksModel", "goThrough", "(I)V"⟩, 179), (⟨"PacketWorksModel", "doStatement", "(I)V"⟩, 179), (⟨"PacketWorksModel", "put", "(IJ)V"⟩, 179), (⟨"PacketWorksModel", "wordAt", "(I)I"⟩, 179), (⟨"PacketWorksModel", "doTable", "(I)I"⟩, 179), (⟨"PacketWorksModel", "matches", "(II)Z"⟩, 179), (⟨"PacketWorksModel", "prefixOf", "(II)I"⟩, 179), (⟨"PacketWorksModel", "writePacket", "(I)V"⟩, 179), (⟨"PacketWorksModel", "moveDown", "(I)V"⟩, 179), (⟨"PacketWorksModel", "isOut", "(I)Z"⟩, 179)]
theorem lw_r11 : ∀ q ∈ lw_privs_11, lw_okq q := List.forall_mem_cons.mpr ⟨lw_p160, List.forall_mem_cons.mpr ⟨lw_p161, List.forall_mem_cons.mpr ⟨lw_p162, List.forall_mem_cons.mpr ⟨lw_p163, List.forall_mem_cons.mpr ⟨lw_p164, List.forall_mem_cons.mpr ⟨lw_p165, List.forall_mem_cons.mpr ⟨lw_p166, List.forall_mem_cons.mpr ⟨lw_p167, List.forall_mem_cons.mpr ⟨lw_p168, List.forall_mem_cons.mpr ⟨lw_p169, fun _ h => absurd h List.not_mem_nil⟩⟩⟩⟩⟩⟩⟩⟩⟩⟩
def lw_privs : List (MethodName × Nat) := lw_privs_1 ++ (lw_privs_2 ++ (lw_privs_3 ++ (lw_privs_4 ++ (lw_privs_5 ++ (lw_privs_6 ++ (lw_privs_7 ++ (lw_privs_8 ++ (lw_privs_9 ++ (lw_privs_10 ++ (lw_privs_11))))))))))
def lw_tbl : List Cond := k2_sels lw_privs ++ tables_1
theorem lw_privs_ok : ∀ q ∈ lw_privs, lw_okq q := by
  show ∀ q ∈ lw_privs_1 ++ (lw_privs_2 ++ (lw_privs_3 ++ (lw_privs_4 ++ (lw_privs_5 ++ (lw_privs_6 ++ (lw_privs_7 ++ (lw_privs_8 ++ (lw_privs_9 ++ (lw_privs_10 ++ (lw_privs_11)))))))))), lw_okq q
  exact List.forall_mem_append.mpr ⟨lw_r1, List.forall_mem_append.mpr ⟨lw_r2, List.forall_mem_append.mpr ⟨lw_r3, List.forall_mem_append.mpr ⟨lw_r4, List.forall_mem_append.mpr ⟨lw_r5, List.forall_mem_append.mpr ⟨lw_r6, List.forall_mem_append.mpr ⟨lw_r7, List.forall_mem_append.mpr ⟨lw_r8, List.forall_mem_append.mpr ⟨lw_r9, List.forall_mem_append.mpr ⟨lw_r10, lw_r11⟩⟩⟩⟩⟩⟩⟩⟩⟩⟩
-- ===== end of PART A; then your names; then what follows =====
end
section
/-! ===== NAMES, by program (wip/gen/emit.py): classes, fields, texts ===== -/
def nf_0 : List (String × String × String × Bool) := [("PacketWorks", "ready", "[I", true), ("PacketWorks", "tape", "[B", true), ("PacketWorks", "taped", "I", false), ("PacketWorks", "keyValue", "[J", true), ("PacketWorks", "keyMask", "[J", true), ("PacketWorks", "data", "[J", true), ("PacketWorks", "text", "LPacketWorks$Text;", true), ("PacketWorks", "program", "LPacketWorks$Program;", true), ("PacketWorks", "reader", "LPacketWorks$Reader;", true), ("PacketWorks", "pipe", "LPacketWorks$Pipe;", true), ("PacketWorks", "standing", "Z", false), ("PacketWorks", "homelessStep", "I", false)]
def nT_0 : u_T := fun k => nf_0.getD k ("", "", "", false)
def nt_0 : List FieldType := [.array (.int), .array (.byte), .int, .array (.long), .array (.long), .array (.long), .object "PacketWorks$Text", .object "PacketWorks$Program", .object "PacketWorks$Reader", .object "PacketWorks$Pipe", .boolean, .int]
def nd_0 : List Value := [.null, .null, .int 0, .null, .null, .null, .null, .null, .null, .null, .int 0, .int 0]
def nf_1 : List (String × String × String × Bool) := [("PacketWorks$Actions", "parameters", "[I", true), ("PacketWorks$Actions", "parameterWidth", "[I", true), ("PacketWorks$Actions", "parameterHigh", "[J", true), ("PacketWorks$Actions", "parameterLow", "[J", true), ("PacketWorks$Actions", "firstDeed", "[I", true), ("PacketWorks$Actions", "deedCount", "[I", true), ("PacketWorks$Actions", "deedKind", "[I", true), ("PacketWorks$Actions", "deedSlot", "[I", true), ("PacketWorks$Actions", "deedArray", "[I", true), ("PacketWorks$Actions", "indexFirst", "[I", true), ("PacketWorks$Actions", "indexRoot", "[I", true), ("PacketWorks$Actions", "valueFirst", "[I", true), ("PacketWorks$Actions", "valueRoot", "[I", true), ("PacketWorks$Actions", "made", "I", false), ("PacketWorks$Actions", "deeds", "I", false)]
def nT_1 : u_T := fun k => nf_1.getD k ("", "", "", false)
def nt_1 : List FieldType := [.array (.int), .array (.int), .array (.long), .array (.long), .array (.int), .array (.int), .array (.int), .array (.int), .array (.int), .array (.int), .array (.int), .array (.int), .array (.int), .int, .int]
def nd_1 : List Value := [.null, .null, .null, .null, .null, .null, .null, .null, .null, .null, .null, .null, .null, .int 0, .int 0]
def nf_2 : List (String × String × String × Bool) := [("PacketWorks$Formulas", "text", "LPacketWorks$Text;", true), ("PacketWorks$Formulas", "program", "LPacketWorks$Program;", true), ("PacketWorks$Formulas", "nodes", "LPacketWorks$Nodes;", true), ("PacketWorks$Formulas", "mark", "[I", true), ("PacketWorks$Formulas", "markAt", "[I", true), ("PacketWorks$Formulas", "operand", "[I", true), ("PacketWorks$Formulas", "marks", "I", false), ("PacketWorks$Formulas", "operands", "I", false), ("PacketWorks$Formulas", "depth", "I", false), ("PacketWorks$Formulas", "action", "I", false)]
def nT_2 : u_T := fun k => nf_2.getD k ("", "", "", false)
def nt_2 : List FieldType := [.object "PacketWorks$Text", .object "PacketWorks$Program", .object "PacketWorks$Nodes", .array (.int), .array (.int), .array (.int), .int, .int, .int, .int]
def nd_2 : List Value := [.null, .null, .null, .null, .null, .null, .int 0, .int 0, .int 0, .int 0]
def nf_3 : List (String × String × String × Bool) := [("PacketWorks$Nodes", "kind", "[I", true), ("PacketWorks$Nodes", "left", "[I", true), ("PacketWorks$Nodes", "right", "[I", true), ("PacketWorks$Nodes", "third", "[I", true), ("PacketWorks$Nodes", "width", "[I", true), ("PacketWorks$Nodes", "place", "[I", true), ("PacketWorks$Nodes", "number", "[J", true), ("PacketWorks$Nodes", "value", "[J", true), ("PacketWorks$Nodes", "made", "I", false)]
def nT_3 : u_T := fun k => nf_3.getD k ("", "", "", false)
def nt_3 : List FieldType := [.array (.int), .array (.int), .array (.int), .array (.int), .array (.int), .array (.int), .array (.long), .array (.long), .int]
def nd_3 : List Value := [.null, .null, .null, .null, .null, .null, .null, .null, .int 0]
def nf_4 : List (String × String × String × Bool) := [("PacketWorks$Operation", "bytes", "[B", true), ("PacketWorks$Operation", "slots", "[J", true), ("PacketWorks$Operation", "did", "[I", true), ("PacketWorks$Operation", "keyValue", "[J", true), ("PacketWorks$Operation", "keyMask", "[J", true), ("PacketWorks$Operation", "data", "[J", true), ("PacketWorks$Operation", "kind", "I", false), ("PacketWorks$Operation", "length", "I", false), ("PacketWorks$Operation", "port", "I", false), ("PacketWorks$Operation", "extracted", "I", false), ("PacketWorks$Operation", "table", "I", false), ("PacketWorks$Operation", "priority", "I", false), ("PacketWorks$Operation", "action", "I", false), ("PacketWorks$Operation", "outcome", "I", false), ("PacketWorks$Operation", "cycle", "I", false)]
def nT_4 : u_T := fun k => nf_4.getD k ("", "", "", false)
def nt_4 : List FieldType := [.array (.byte), .array (.long), .array (.int), .array (.long), .array (.long), .array (.long), .int, .int, .int, .int, .int, .int, .int, .int, .int]
def nd_4 : List Value := [.null, .null, .null, .null, .null, .null, .int 0, .int 0, .int 0, .int 0, .int 0, .int 0, .int 0, .int 0, .int 0]
def nf_5 : List (String × String × String × Bool) := [("PacketWorks$Pipe", "program", "LPacketWorks$Program;", true), ("PacketWorks$Pipe", "operations", "[LPacketWorks$Operation;", true), ("PacketWorks$Pipe", "inStage", "[I", true), ("PacketWorks$Pipe", "words", "[J", true), ("PacketWorks$Pipe", "came", "I", false), ("PacketWorks$Pipe", "entered", "I", false), ("PacketWorks$Pipe", "wentOut", "I", false), ("PacketWorks$Pipe", "cycles", "I", false)]
def nT_5 : u_T := fun k => nf_5.getD k ("", "", "", false)
def nt_5 : List FieldType := [.object "PacketWorks$Program", .array (.object "PacketWorks$Operation"), .array (.int), .array (.long), .int, .int, .int, .int]
def nd_5 : List Value := [.null, .null, .null, .null, .int 0, .int 0, .int 0, .int 0]
def nf_6 : List (String × String × String × Bool) := [("PacketWorks$Program", "fieldWidth", "[I", true), ("PacketWorks$Program", "fieldHigh", "[J", true), ("PacketWorks$Program", "fieldLow", "[J", true), ("PacketWorks$Program", "instanceHeader", "[I", true), ("PacketWorks$Program", "metaWidth", "[I", true), ("PacketWorks$Program", "arrayWidth", "[I", true), ("PacketWorks$Program", "arraySize", "[I", true), ("PacketWorks$Program", "emitted", "[I", true), ("PacketWorks$Program", "tables", "[LPacketWorks$Table;", true), ("PacketWorks$Program", "nodes", "LPacketWorks$Nodes;", true), ("PacketWorks$Program", "states", "LPacketWorks$States;", true), ("PacketWorks$Program", "actions", "LPacketWorks$Actions;", true), ("PacketWorks$Program", "steps", "LPacketWorks$Steps;", true), ("PacketWorks$Program", "headers", "I", false), ("PacketWorks$Program", "instances", "I", false), ("PacketWorks$Program", "metas", "I", false), ("PacketWorks$Program", "arrays", "I", false), ("PacketWorks$Program", "emits", "I", false), ("PacketWorks$Program", "tableCount", "I", false)]
def nT_6 : u_T := fun k => nf_6.getD k ("", "", "", false)
def nt_6 : List FieldType := [.array (.int), .array (.long), .array (.long), .array (.int), .array (.int), .array (.int), .array (.int), .array (.int), .array (.object "PacketWorks$Table"), .object "PacketWorks$Nodes", .object "PacketWorks$States", .object "PacketWorks$Actions", .object "PacketWorks$Steps", .int, .int, .int, .int, .int, .int]
def nd_6 : List Value := [.null, .null, .null, .null, .null, .null, .null, .null, .null, .null, .null, .null, .null, .int 0, .int 0, .int 0, .int 0, .int 0, .int 0]
def nf_7 : List (String × String × String × Bool) := [("PacketWorks$Reader", "text", "LPacketWorks$Text;", true), ("PacketWorks$Reader", "program", "LPacketWorks$Program;", true), ("PacketWorks$Reader", "formulas", "LPacketWorks$Formulas;", true), ("PacketWorks$Reader", "states", "LPacketWorks$States;", true), ("PacketWorks$Reader", "actions", "LPacketWorks$Actions;", true), ("PacketWorks$Reader", "steps", "LPacketWorks$Steps;", true), ("PacketWorks$Reader", "blockIf", "[I", true), ("PacketWorks$Reader", "blockBranch", "[I", true), ("PacketWorks$Reader", "openBlocks", "I", false)]
def nT_7 : u_T := fun k => nf_7.getD k ("", "", "", false)
def nt_7 : List FieldType := [.object "PacketWorks$Text", .object "PacketWorks$Program", .object "PacketWorks$Formulas", .object "PacketWorks$States", .object "PacketWorks$Actions", .object "PacketWorks$Steps", .array (.int), .array (.int), .int]
def nd_7 : List Value := [.null, .null, .null, .null, .null, .null, .null, .null, .int 0]
def nf_8 : List (String × String × String × Bool) := [("PacketWorks$States", "extracts", "[I", true), ("PacketWorks$States", "extracted", "[I", true), ("PacketWorks$States", "first", "[I", true), ("PacketWorks$States", "root", "[I", true), ("PacketWorks$States", "cases", "[I", true), ("PacketWorks$States", "caseValue", "[J", true), ("PacketWorks$States", "caseMask", "[J", true), ("PacketWorks$States", "caseGoal", "[I", true), ("PacketWorks$States", "otherGoal", "[I", true), ("PacketWorks$States", "namedAt", "[I", true), ("PacketWorks$States", "standsAt", "[I", true), ("PacketWorks$States", "order", "[I", true), ("PacketWorks$States", "reach", "[I", true), ("PacketWorks$States", "made", "I", false), ("PacketWorks$States", "standing", "I", false)]
def nT_8 : u_T := fun k => nf_8.getD k ("", "", "", false)
def nt_8 : List FieldType := [.array (.int), .array (.int), .array (.int), .array (.int), .array (.int), .array (.long), .array (.long), .array (.int), .array (.int), .array (.int), .array (.int), .array (.int), .array (.int), .int, .int]
def nd_8 : List Value := [.null, .null, .null, .null, .null, .null, .null, .null, .null, .null, .null, .null, .null, .int 0, .int 0]
def nf_9 : List (String × String × String × Bool) := [("PacketWorks$Steps", "kind", "[I", true), ("PacketWorks$Steps", "parent", "[I", true), ("PacketWorks$Steps", "branch", "[I", true), ("PacketWorks$Steps", "table", "[I", true), ("PacketWorks$Steps", "deed", "[I", true), ("PacketWorks$Steps", "first", "[I", true), ("PacketWorks$Steps", "root", "[I", true), ("PacketWorks$Steps", "home", "[I", true), ("PacketWorks$Steps", "reads", "[J", true), ("PacketWorks$Steps", "writes", "[J", true), ("PacketWorks$Steps", "arraySet", "[I", true), ("PacketWorks$Steps", "stageSteps", "[I", true), ("PacketWorks$Steps", "stageMemory", "[I", true), ("PacketWorks$Steps", "stageWires", "[I", true), ("PacketWorks$Steps", "made", "I", false), ("PacketWorks$Steps", "stages", "I", false)]
def nT_9 : u_T := fun k => nf_9.getD k ("", "", "", false)
def nt_9 : List FieldType := [.array (.int), .array (.int), .array (.int), .array (.int), .array (.int), .array (.int), .array (.int), .array (.int), .array (.long), .array (.long), .array (.int), .array (.int), .array (.int), .array (.int), .int, .int]
def nd_9 : List Value := [.null, .null, .null, .null, .null, .null, .null, .null, .null, .null, .null, .null, .null, .null, .int 0, .int 0]
def nf_10 : List (String × String × String × Bool) := [("PacketWorks$Table", "keyFirst", "[I", true), ("PacketWorks$Table", "keyRoot", "[I", true), ("PacketWorks$Table", "keyKind", "[I", true), ("PacketWorks$Table", "keyWidth", "[I", true), ("PacketWorks$Table", "listed", "[I", true), ("PacketWorks$Table", "defaultData", "[J", true), ("PacketWorks$Table", "values", "[J", true), ("PacketWorks$Table", "masks", "[J", true), ("PacketWorks$Table", "data", "[J", true), ("PacketWorks$Table", "priorities", "[I", true), ("PacketWorks$Table", "chosen", "[I", true), ("PacketWorks$Table", "filled", "[I", true), ("PacketWorks$Table", "keys", "I", false), ("PacketWorks$Table", "listedCount", "I", false), ("PacketWorks$Table", "defaultAction", "I", false), ("PacketWorks$Table", "room", "I", false), ("PacketWorks$Table", "ways", "I", false), ("PacketWorks$Table", "stash", "I", false), ("PacketWorks$Table", "held", "I", false)]
def nT_10 : u_T := fun k => nf_10.getD k ("", "", "", false)
def nt_10 : List FieldType := [.array (.int), .array (.int), .array (.int), .array (.int), .array (.int), .array (.long), .array (.long), .array (.long), .array (.long), .array (.int), .array (.int), .array (.int), .int, .int, .int, .int, .int, .int, .int]
def nd_10 : List Value := [.null, .null, .null, .null, .null, .null, .null, .null, .null, .null, .null, .null, .int 0, .int 0, .int 0, .int 0, .int 0, .int 0, .int 0]
def nf_11 : List (String × String × String × Bool) := [("PacketWorks$Text", "bytes", "[B", true), ("PacketWorks$Text", "keywords", "[J", true), ("PacketWorks$Text", "nameHigh", "[J", true), ("PacketWorks$Text", "nameLow", "[J", true), ("PacketWorks$Text", "nameSort", "[I", true), ("PacketWorks$Text", "nameIndex", "[I", true), ("PacketWorks$Text", "names", "I", false), ("PacketWorks$Text", "length", "I", false), ("PacketWorks$Text", "at", "I", false), ("PacketWorks$Text", "word", "I", false), ("PacketWorks$Text", "wordAt", "I", false), ("PacketWorks$Text", "number", "J", false), ("PacketWorks$Text", "high", "J", false), ("PacketWorks$Text", "low", "J", false), ("PacketWorks$Text", "faultKind", "I", false), ("PacketWorks$Text", "faultAt", "I", false), ("PacketWorks$Text", "overfull", "Z", false)]
def nT_11 : u_T := fun k => nf_11.getD k ("", "", "", false)
def nt_11 : List FieldType := [.array (.byte), .array (.long), .array (.long), .array (.long), .array (.int), .array (.int), .int, .int, .int, .int, .int, .long, .long, .long, .int, .int, .boolean]
def nd_11 : List Value := [.null, .null, .null, .null, .null, .null, .int 0, .int 0, .int 0, .int 0, .int 0, .long 0, .long 0, .long 0, .int 0, .int 0, .int 0]
def nf_12 : List (String × String × String × Bool) := [("PacketWorksModel", "keys", "[I", true), ("PacketWorksModel", "thrown", "I", false), ("PacketWorksModel", "ready", "[I", true), ("PacketWorksModel", "text", "[I", true), ("PacketWorksModel", "source", "[I", true), ("PacketWorksModel", "texted", "I", false), ("PacketWorksModel", "size", "I", false), ("PacketWorksModel", "word", "I", false), ("PacketWorksModel", "here", "I", false), ("PacketWorksModel", "wide", "I", false), ("PacketWorksModel", "fault", "I", false), ("PacketWorksModel", "place", "I", false), ("PacketWorksModel", "value", "J", false), ("PacketWorksModel", "names", "I", false), ("PacketWorksModel", "nameAt", "[I", true), ("PacketWorksModel", "nameWide", "[I", true), ("PacketWorksModel", "sorts", "[I", true), ("PacketWorksModel", "which", "[I", true), ("PacketWorksModel", "given", "[I", true), ("PacketWorksModel", "headers", "I", false), ("PacketWorksModel", "instances", "I", false), ("PacketWorksModel", "metas", "I", false), ("PacketWorksModel", "arrays", "I", false), ("PacketWorksModel", "states", "I", false), ("PacketWorksModel", "declared", "I", false), ("PacketWorksModel", "actions", "I", false), ("PacketWorksModel", "tables", "I", false), ("PacketWorksModel", "steps", "I", false), ("PacketWorksModel", "nodes", "I", false), ("PacketWorksModel", "headerFields", "[I", true), ("PacketWorksModel", "headerBits", "[I", true), ("PacketWorksModel", "fieldAt", "[I", true), ("PacketWorksModel", "fieldWide", "[I", true), ("PacketWorksModel", "fieldBits", "[I", true), ("PacketWorksModel", "instanceHeader", "[I", true), ("PacketWorksModel", "metaBits", "[I", true), ("PacketWorksModel", "arrayBits", "[I", true), ("PacketWorksModel", "stateNamed", "[I", true), ("PacketWorksModel", "stateOrder", "[I", true), ("PacketWorksModel", "stateBy", "[I", true), ("PacketWorksModel", "stateAt", "[I", true), ("PacketWorksModel", "extracts", "[I", true), ("PacketWorksModel", "cases", "[I", true), ("PacketWorksModel", "selectBits", "[I", true), ("PacketWorksModel", "elseTo", "[I", true), ("PacketWorksModel", "caseTo", "[I", true), ("PacketWorksModel", "parameters", "[I", true), ("PacketWorksModel", "parameterAt", "[I", true), ("PacketWorksModel", "parameterWide", "[I", true), ("PacketWorksModel", "parameterBits", "[I", true), ("PacketWorksModel", "statements", "[I", true), ("PacketWorksModel", "tableKeys", "[I", true), ("PacketWorksModel", "tableBits", "[I", true), ("PacketWorksModel", "tableActions", "[I", true), ("PacketWorksModel", "tableRoom", "[I", true), ("PacketWorksModel", "tableWays", "[I", true), ("PacketWorksModel", "tableStash", "[I", true), ("PacketWorksModel", "tableElse", "[I", true), ("PacketWorksModel", "tableExact", "[Z", true), ("PacketWorksModel", "applied", "[Z", true), ("PacketWorksModel", "stepKind", "[I", true), ("PacketWorksModel", "stepIf", "[I", true), ("PacketWorksModel", "stepBranch", "[I", true), ("PacketWorksModel", "stepTable", "[I", true), ("PacketWorksModel", "inAction", "I", false), ("PacketWorksModel", "codeSign", "[I", true), ("PacketWorksModel", "codeBits", "[I", true), ("PacketWorksModel", "codeNumber", "[I", true), ("PacketWorksModel", "codeValue", "[J", true), ("PacketWorksModel", "unitBits", "I", false), ("PacketWorksModel", "unitAt", "I", false), ("PacketWorksModel", "unitBare", "Z", false), ("PacketWorksModel", "unitValue", "J", false), ("PacketWorksModel", "high", "I", false), ("PacketWorksModel", "deep", "I", false), ("PacketWorksModel", "mode", "I", false), ("PacketWorksModel", "openKind", "[I", true), ("PacketWorksModel", "openAt", "[I", true), ("PacketWorksModel", "openSign", "[I", true), ("PacketWorksModel", "openStage", "[I", true), ("PacketWorksModel", "waitSign", "[I", true), ("PacketWorksModel", "waitBits", "[I", true), ("PacketWorksModel", "waitAt", "[I", true), ("PacketWorksModel", "waitBare", "[Z", true), ("PacketWorksModel", "waitValue", "[J", true), ("PacketWorksModel", "condBits", "[I", true), ("PacketWorksModel", "condAt", "[I", true), ("PacketWorksModel", "midBits", "[I", true), ("PacketWorksModel", "midAt", "[I", true), ("PacketWorksModel", "condBare", "[Z", true), ("PacketWorksModel", "midBare", "[Z", true), ("PacketWorksModel", "condValue", "[J", true), ("PacketWorksModel", "midValue", "[J", true), ("PacketWorksModel", "arraySize", "[I", true), ("PacketWorksModel", "extractOf", "[I", true), ("PacketWorksModel", "selectFrom", "[I", true), ("PacketWorksModel", "selectTo", "[I", true), ("PacketWorksModel", "caseValue", "[J", true), ("PacketWorksModel", "caseMask", "[J", true), ("PacketWorksModel", "toldStatements", "I", false), ("PacketWorksModel", "placeBits", "I", false), ("PacketWorksModel", "told", "[I", true), ("PacketWorksModel", "toPlace", "[I", true), ("PacketWorksModel", "toArray", "[I", true), ("PacketWorksModel", "toInstance", "[I", true), ("PacketWorksModel", "indexFrom", "[I", true), ("PacketWorksModel", "indexTo", "[I", true), ("PacketWorksModel", "exprFrom", "[I", true), ("PacketWorksModel", "exprTo", "[I", true), ("PacketWorksModel", "firstTold", "[I", true), ("PacketWorksModel", "keyFrom", "[I", true), ("PacketWorksModel", "keyTo", "[I", true), ("PacketWorksModel", "keyBits", "[I", true), ("PacketWorksModel", "keyKind", "[I", true), ("PacketWorksModel", "listOf", "[I", true), ("PacketWorksModel", "elseValue", "[J", true), ("PacketWorksModel", "listed", "[Z", true), ("PacketWorksModel", "blockIf", "[I", true), ("PacketWorksModel", "blockBranch", "[I", true), ("PacketWorksModel", "blocks", "I", false), ("PacketWorksModel", "stepTold", "[I", true), ("PacketWorksModel", "stepFrom", "[I", true), ("PacketWorksModel", "stepTo", "[I", true), ("PacketWorksModel", "emitted", "[Z", true), ("PacketWorksModel", "emits", "[I", true), ("PacketWorksModel", "emitMany", "I", false), ("PacketWorksModel", "comes", "[Z", true), ("PacketWorksModel", "isThere", "Z", false), ("PacketWorksModel", "isLaid", "Z", false), ("PacketWorksModel", "stages", "I", false), ("PacketWorksModel", "homeless", "I", false), ("PacketWorksModel", "stepStage", "[I", true), ("PacketWorksModel", "stageSteps", "[I", true), ("PacketWorksModel", "stageMemory", "[J", true), ("PacketWorksModel", "stageWires", "[J", true), ("PacketWorksModel", "reads", "[Z", true), ("PacketWorksModel", "writes", "[Z", true), ("PacketWorksModel", "usesArray", "[Z", true), ("PacketWorksModel", "words", "[J", true), ("PacketWorksModel", "entryMany", "[I", true), ("PacketWorksModel", "entryRank", "[I", true), ("PacketWorksModel", "entryAction", "[I", true), ("PacketWorksModel", "entryValue", "[J", true), ("PacketWorksModel", "entryMask", "[J", true), ("PacketWorksModel", "entryData", "[J", true), ("PacketWorksModel", "keyValue", "[J", true), ("PacketWorksModel", "keyMask", "[J", true), ("PacketWorksModel", "data", "[J", true), ("PacketWorksModel", "came", "I", false), ("PacketWorksModel", "inLine", "I", false), ("PacketWorksModel", "wentIn", "I", false), ("PacketWorksModel", "wentOut", "I", false), ("PacketWorksModel", "cycles", "I", false), ("PacketWorksModel", "lineKind", "[I", true), ("PacketWorksModel", "lineMany", "[I", true), ("PacketWorksModel", "linePort", "[I", true), ("PacketWorksModel", "lineTable", "[I", true), ("PacketWorksModel", "lineRank", "[I", true), ("PacketWorksModel", "lineAction", "[I", true), ("PacketWorksModel", "lineBytes", "[I", true), ("PacketWorksModel", "lineValue", "[J", true), ("PacketWorksModel", "lineMask", "[J", true), ("PacketWorksModel", "lineData", "[J", true), ("PacketWorksModel", "saidKind", "[I", true), ("PacketWorksModel", "saidHow", "[I", true), ("PacketWorksModel", "saidPort", "[I", true), ("PacketWorksModel", "saidMany", "[I", true), ("PacketWorksModel", "cameIn", "[I", true), ("PacketWorksModel", "saidBytes", "[I", true), ("PacketWorksModel", "saidSteps", "[I", true), ("PacketWorksModel", "inBucket", "[I", true), ("PacketWorksModel", "fields", "[J", true), ("PacketWorksModel", "metaNow", "[J", true), ("PacketWorksModel", "pile", "[J", true), ("PacketWorksModel", "handed", "[J", true), ("PacketWorksModel", "valid", "[Z", true), ("PacketWorksModel", "bytesRead", "I", false), ("PacketWorksModel", "drops", "Z", false), ("PacketWorksModel", "keyNow", "[J", true)]
def nT_12 : u_T := fun k => nf_12.getD k ("", "", "", false)
def nt_12 : List FieldType := [.array (.int), .int, .array (.int), .array (.int), .array (.int), .int, .int, .int, .int, .int, .int, .int, .long, .int, .array (.int), .array (.int), .array (.int), .array (.int), .array (.int), .int, .int, .int, .int, .int, .int, .int, .int, .int, .int, .array (.int), .array (.int), .array (.int), .array (.int), .array (.int), .array (.int), .array (.int), .array (.int), .array (.int), .array (.int), .array (.int), .array (.int), .array (.int), .array (.int), .array (.int), .array (.int), .array (.int), .array (.int), .array (.int), .array (.int), .array (.int), .array (.int), .array (.int), .array (.int), .array (.int), .array (.int), .array (.int), .array (.int), .array (.int), .array (.boolean), .array (.boolean), .array (.int), .array (.int), .array (.int), .array (.int), .int, .array (.int), .array (.int), .array (.int), .array (.long), .int, .int, .boolean, .long, .int, .int, .int, .array (.int), .array (.int), .array (.int), .array (.int), .array (.int), .array (.int), .array (.int), .array (.boolean), .array (.long), .array (.int), .array (.int), .array (.int), .array (.int), .array (.boolean), .array (.boolean), .array (.long), .array (.long), .array (.int), .array (.int), .array (.int), .array (.int), .array (.long), .array (.long), .int, .int, .array (.int), .array (.int), .array (.int), .array (.int), .array (.int), .array (.int), .array (.int), .array (.int), .array (.int), .array (.int), .array (.int), .array (.int), .array (.int), .array (.int), .array (.long), .array (.boolean), .array (.int), .array (.int), .int, .array (.int), .array (.int), .array (.int), .array (.boolean), .array (.int), .int, .array (.boolean), .boolean, .boolean, .int, .int, .array (.int), .array (.int), .array (.long), .array (.long), .array (.boolean), .array (.boolean), .array (.boolean), .array (.long), .array (.int), .array (.int), .array (.int), .array (.long), .array (.long), .array (.long), .array (.long), .array (.long), .array (.long), .int, .int, .int, .int, .int, .array (.int), .array (.int), .array (.int), .array (.int), .array (.int), .array (.int), .array (.int), .array (.long), .array (.long), .array (.long), .array (.int), .array (.int), .array (.int), .array (.int), .array (.int), .array (.int), .array (.int), .array (.int), .array (.long), .array (.long), .array (.long), .array (.long), .array (.boolean), .int, .boolean, .array (.long)]
def nd_12 : List Value := [.null, .int 0, .null, .null, .null, .int 0, .int 0, .int 0, .int 0, .int 0, .int 0, .int 0, .long 0, .int 0, .null, .null, .null, .null, .null, .int 0, .int 0, .int 0, .int 0, .int 0, .int 0, .int 0, .int 0, .int 0, .int 0, .null, .null, .null, .null, .null, .null, .null, .null, .null, .null, .null, .null, .null, .null, .null, .null, .null, .null, .null, .null, .null, .null, .null, .null, .null, .null, .null, .null, .null, .null, .null, .null, .null, .null, .null, .int 0, .null, .null, .null, .null, .int 0, .int 0, .int 0, .long 0, .int 0, .int 0, .int 0, .null, .null, .null, .null, .null, .null, .null, .null, .null, .null, .null, .null, .null, .null, .null, .null, .null, .null, .null, .null, .null, .null, .null, .int 0, .int 0, .null, .null, .null, .null, .null, .null, .null, .null, .null, .null, .null, .null, .null, .null, .null, .null, .null, .null, .int 0, .null, .null, .null, .null, .null, .int 0, .null, .int 0, .int 0, .int 0, .int 0, .null, .null, .null, .null, .null, .null, .null, .null, .null, .null, .null, .null, .null, .null, .null, .null, .null, .int 0, .int 0, .int 0, .int 0, .int 0, .null, .null, .null, .null, .null, .null, .null, .null, .null, .null, .null, .null, .null, .null, .null, .null, .null, .null, .null, .null, .null, .null, .null, .int 0, .int 0, .null]
def nT_x : u_T := fun _ => ("", "", "", false)
def nm_cl : List vw_C := [("PacketWorks", nT_0, 12), ("PacketWorks$Actions", nT_1, 15), ("PacketWorks$Formulas", nT_2, 10), ("PacketWorks$Nodes", nT_3, 9), ("PacketWorks$Operation", nT_4, 15), ("PacketWorks$Pipe", nT_5, 8), ("PacketWorks$Program", nT_6, 19), ("PacketWorks$Reader", nT_7, 9), ("PacketWorks$States", nT_8, 15), ("PacketWorks$Steps", nT_9, 16), ("PacketWorks$Table", nT_10, 19), ("PacketWorks$Text", nT_11, 17), ("PacketWorksModel", nT_12, 179), ("java/lang/IllegalArgumentException", nT_x, 0), ("java/lang/IllegalStateException", nT_x, 0), ("java/lang/IndexOutOfBoundsException", nT_x, 0)]
def nm_ft (ci k : Nat) : FieldType := match ci with
  | 0 => nt_0.getD k .int
  | 1 => nt_1.getD k .int
  | 2 => nt_2.getD k .int
  | 3 => nt_3.getD k .int
  | 4 => nt_4.getD k .int
  | 5 => nt_5.getD k .int
  | 6 => nt_6.getD k .int
  | 7 => nt_7.getD k .int
  | 8 => nt_8.getD k .int
  | 9 => nt_9.getD k .int
  | 10 => nt_10.getD k .int
  | 11 => nt_11.getD k .int
  | 12 => nt_12.getD k .int
  | _ => .int
def nm_df (ci : Nat) : List Value := match ci with
  | 0 => nd_0
  | 1 => nd_1
  | 2 => nd_2
  | 3 => nd_3
  | 4 => nd_4
  | 5 => nd_5
  | 6 => nd_6
  | 7 => nd_7
  | 8 => nd_8
  | 9 => nd_9
  | 10 => nd_10
  | 11 => nd_11
  | 12 => nd_12
  | _ => []
def nm_len : List Nat := [178, 7, 6, 8, 6, 6, 20, 21, 6, 3, 29, 25, 39, 21, 29, 17, 11, 13, 21, 8, 25, 26]
def nm_byt : List (List Int32) := [[104, 101, 97, 100, 101, 114, 32, 117, 115, 101, 32, 109, 101, 116, 97, 32, 97, 114, 114, 97, 121, 32, 115, 116, 97, 116, 101, 32, 101, 120, 116, 114, 97, 99, 116, 32, 103, 111, 116, 111, 32, 115, 101, 108, 101, 99, 116, 32, 100, 101, 102, 97, 117, 108, 116, 32, 97, 99, 116, 105, 111, 110, 32, 116, 97, 98, 108, 101, 32, 107, 101, 121, 32, 101, 120, 97, 99, 116, 32, 112, 114, 101, 102, 105, 120, 32, 109, 97, 115, 107, 101, 100, 32, 97, 99, 116, 105, 111, 110, 115, 32, 114, 111, 111, 109, 32, 119, 97, 121, 115, 32, 115, 116, 97, 115, 104, 32, 99, 111, 110, 116, 114, 111, 108, 32, 97, 112, 112, 108, 121, 32, 105, 102, 32, 101, 108, 115, 101, 32, 101, 109, 105, 116, 32, 97, 100, 100, 32, 116, 97, 107, 101, 32, 100, 114, 111, 112, 32, 108, 111, 97, 100, 32, 115, 116, 111, 114, 101, 32, 118, 97, 108, 105, 100, 32, 97, 115, 32], [105, 110, 95, 112, 111, 114, 116], [108, 101, 110, 103, 116, 104], [111, 117, 116, 95, 112, 111, 114, 116], [97, 99, 99, 101, 112, 116], [114, 101, 106, 101, 99, 116], [116, 104, 101, 32, 116, 101, 120, 116, 32, 104, 97, 115, 32, 97, 32, 102, 97, 117, 108, 116], [123, 125, 40, 41, 91, 93, 58, 59, 44, 46, 63, 61, 60, 62, 43, 45, 38, 124, 94, 126, 33], [61, 43, 38, 124, 60, 62], [33, 60, 62], [97, 32, 119, 111, 114, 100, 32, 116, 104, 97, 116, 32, 99, 97, 110, 39, 116, 32, 115, 116, 97, 110, 100, 32, 116, 104, 101, 114, 101], [110, 111, 32, 112, 114, 111, 103, 114, 97, 109, 44, 32, 111, 114, 32, 105, 116, 32, 105, 115, 32, 108, 97, 105, 100], [115, 116, 97, 103, 101, 115, 44, 32, 109, 101, 109, 111, 114, 121, 32, 111, 114, 32, 119, 105, 114, 101, 115, 32, 116, 104, 97, 116, 32, 109, 97, 121, 32, 110, 111, 116, 32, 98, 101], [97, 32, 115, 116, 101, 112, 32, 102, 105, 110, 100, 115, 32, 110, 111, 32, 115, 116, 97, 103, 101], [110, 111, 116, 32, 108, 97, 105, 100, 44, 32, 111, 114, 32, 116, 104, 101, 32, 108, 105, 110, 101, 32, 105, 115, 32, 102, 117, 108, 108], [97, 32, 112, 97, 99, 107, 101, 116, 32, 116, 111, 111, 32, 108, 111, 110, 103], [110, 111, 32, 115, 117, 99, 104, 32, 107, 101, 121], [110, 111, 32, 115, 117, 99, 104, 32, 100, 97, 116, 117, 109], [110, 111, 32, 115, 117, 99, 104, 32, 107, 105, 110, 100, 32, 111, 114, 32, 116, 97, 98, 108, 101], [110, 111, 116, 32, 108, 97, 105, 100], [115, 111, 32, 109, 97, 110, 121, 32, 99, 121, 99, 108, 101, 115, 32, 109, 97, 121, 32, 110, 111, 116, 32, 98, 101], [97, 110, 32, 111, 112, 101, 114, 97, 116, 105, 111, 110, 32, 105, 115, 32, 105, 110, 32, 97, 32, 115, 116, 97, 103, 101]]
def nm_refs : List (String × Nat × String × Nat) := [("PacketWorks$Text", 36, "header use meta array state extract goto select default action table key exact prefix masked actions room ways stash control apply if else emit add take drop load store valid as ", 0), ("PacketWorks$Text", 63, "in_port", 1), ("PacketWorks$Text", 69, "length", 2), ("PacketWorks$Text", 70, "out_port", 3), ("PacketWorks$Text", 72, "accept", 4), ("PacketWorks$Text", 74, "reject", 5), ("PacketWorks$Text", 95, "the text has a fault", 6), ("PacketWorks$Text", 129, "{}()[]:;,.?=<>+-&|^~!", 7), ("PacketWorks$Text", 134, "=+&|<>", 8), ("PacketWorks$Text", 136, "!<>", 9), ("PacketWorks$Text", 100, "a word that can't stand there", 10), ("PacketWorks", 186, "no program, or it is laid", 11), ("PacketWorks", 193, "stages, memory or wires that may not be", 12), ("PacketWorks", 202, "a step finds no stage", 13), ("PacketWorks", 229, "not laid, or the line is full", 14), ("PacketWorks", 231, "a packet too long", 15), ("PacketWorks", 246, "no such key", 16), ("PacketWorks", 248, "no such datum", 17), ("PacketWorks", 254, "no such kind or table", 18), ("PacketWorks", 264, "not laid", 19), ("PacketWorks", 266, "so many cycles may not be", 20), ("PacketWorks", 303, "an operation is in a stage", 21)]
def nm_xn (x : Nat) : String := match x with
  | 0 => "java/lang/IllegalArgumentException"
  | 1 => "java/lang/IllegalStateException"
  | _ => "java/lang/IndexOutOfBoundsException"
def nm_xc (x : Nat) : Nat := match x with
  | 0 => 13
  | 1 => 14
  | _ => 15
def nm_xk (ct : Nat) : Nat := match ct with
  | 13 => 0
  | 19 => 1
  | _ => 2
def nm_K : am_Ta := (lw_tbl.filter am_carry, nm_cl, nm_refs, nm_xn, ["java/lang/RuntimeException", "java/lang/Exception"])
/-- the world around, for a script and what a static of the JDK's holds -/
def nm_E (L : Nat) (xs : Nat → Int32) (sio : Value) : am_En := ((L, xs), (nm_len, nm_byt), nm_ft, nm_df, nm_xc, nm_xk, sio)
end
section
/-! ===== THE PURE MACHINE, part 24: when a table's entry is right, by reckoning ===== -/
def am_fw (cl : List vw_C) (own : String) (idx a b : Nat) : List Cond := match cl[a]? with
  | some q => [.fieldLink own idx (q.2.1 b).1 (q.2.1 b).2.1 (q.2.1 b).2.2.1]
  | none => []
/-- the words that an entry needs -/
def am_ws (cl : List vw_C) (xn : Nat → String) (cn : Nat → Nat) (pg : Nat → am_M) (own : String) (t : am_I) : List Cond := match t with
  | (i, _, a, b, c) => match i with
    | .getfield idx => (match c with
      | 0 => am_fw cl own idx a b
      | _ => (match a with
        | 1 => [.fieldLink own idx "java/lang/String" "value" "[B"]
        | _ => [.fieldLink own idx "java/lang/String" "coder" "B"]))
    | .putfield idx => am_fw cl own idx a b
    | .newarray at9 => [.arrayClass (newarray.typeOf at9)]
    | .anewarray idx => (match am_ty a with
      | .object C => [.classLink own idx C, .arrayOver (.object C)]
      | _ => [])
    | .new idx => (match c with
      | 0 => (match cl[a]? with
        | some q => [.classLink own idx q.1, .instantiable q.1 q.2.2, .initialized q.1]
        | none => [])
      | _ => [.classLink own idx (xn a), .initialized (xn a)])
    | .ldc idx => (match c with
      | 0 => [.constant own idx (Int32.ofNat a)]
      | _ => [])
    | .ldc_w idx => (match c with
      | 0 => [.constant own idx (Int32.ofNat a)]
      | _ => [])
    | .ldc2_w idx => [.constantLong own idx (Int64.ofNat a)]
    | .getstatic idx => (match c with
      | 0 => [.fieldLink own idx "java/lang/String" "COMPACT_STRINGS" "Z"]
      | _ => [.fieldLink own idx "jdk/internal/util/Preconditions" "SIOOBE_FORMATTER" "Ljava/util/function/BiFunction;"])
    | .invokevirtual idx => [.code (pg a).1 (pg a).2.1 (pg a).2.2.1 (pg a).2.2.2.1, .methodLink own idx (pg a).1, .instanceMethod (pg a).1, .selects (match c with
      | 0 => (match cl[cn a]? with
        | some q => q.1
        | none => "")
      | _ => "java/lang/String") (pg a).1 (pg a).1]
    | .invokestatic idx => (match c with
      | 1 => [.code (pg a).1 (pg a).2.1 (pg a).2.2.1 (pg a).2.2.2.1, .static (pg a).1, .initialized (pg a).1.cls, .methodLink own idx (pg a).1]
      | 2 => [.code (pg a).1 (pg a).2.1 (pg a).2.2.1 (pg a).2.2.2.1, .static (pg a).1, .initialized (pg a).1.cls, .methodLinkNest own idx (pg a).1 "PacketWorks"]
      | _ => [.codeWith (pg a).1 (pg a).2.1 (pg a).2.2.1 (pg a).2.2.2.1 (pg a).2.2.2.2.1, .static (pg a).1, .initialized (pg a).1.cls, .methodLink own idx (pg a).1])
    | .invokespecial idx => (match c with
      | 6 => [.methodLink own idx objectInit, .instanceMethod objectInit, .code objectInit ⟨#[0xb1]⟩ 1 none]
      | 4 => [.code (pg a).1 (pg a).2.1 (pg a).2.2.1 (pg a).2.2.2.1, .instanceMethod (pg a).1, .methodLink own idx (pg a).1]
      | _ => [.code (pg a).1 (pg a).2.1 (pg a).2.2.1 (pg a).2.2.2.1, .instanceMethod (pg a).1, .methodLinkNest own idx (pg a).1 "PacketWorks"])
    | _ => []
/-- what a method must be to be entered -/
def am_eo (me : am_M) (b : Nat) : Bool := me.1.cls != "java/lang/invoke/MethodHandle" && me.1.cls != "java/lang/invoke/VarHandle" && plainFor me.1 && decide (me.2.2.1 ≤ 13) && (match parseMethodDescriptor me.1.desc with
  | some sig => decide (b = sig.parameters.length)
  | none => true)
/-- what else an entry needs; XL: throws that are looked through (class, entry of the constructor, number) -/
def am_sd (E : am_En) (cl : List vw_C) (refs : List (String × Nat × String × Nat)) (cn : Nat → Nat) (pg : Nat → am_M) (np : Nat → Nat) (XL : List (String × Nat × Nat)) (me : am_M) (pc : Nat) (t : am_I) : Bool := match t with
  | (i, _, a, b, c) => match i with
    | .getfield _ => (match c with
      | 0 => (match cl[a]? with
        | some q => decide (b < q.2.2)
        | none => false)
      | _ => decide (a = 1) || decide (a = 2))
    | .putfield _ => (match cl[a]? with
      | some q => decide (b < q.2.2) && (!(q.2.1 b).2.2.2 || (me.1.name == "<init>" && (q.2.1 b).1 == me.1.cls)) && decide (parseFieldDescriptor (q.2.1 b).2.2.1 = some (E.2.2.1 a b))
      | none => false)
    | .newarray at9 => decide (newarray.typeOf at9 = am_ty a)
    | .anewarray _ => (match am_ty a with
      | .object _ => true
      | _ => false)
    | .new _ => (match c with
      | 0 => (cl[a]?).isSome
      | _ => decide (a < 3) && decide (decode me.2.1 (pc + 3) = .ok (.dup, 1)) && decide (decode me.2.1 (pc + 4 + b + 3) = .ok (.athrow, 1)) &&
        (match decode me.2.1 (pc + 4 + b) with
          | .ok (.invokespecial ic, 3) => XL.contains (me.1.cls, ic, a)
          | _ => false) &&
        (match decode me.2.1 (pc + 4) with
          | .ok (.ldc is, 2) => decide (b = 2) && refs.any (fun q => q.1 == me.1.cls && q.2.1 == is)
          | .ok (.ldc_w is, 3) => decide (b = 3) && refs.any (fun q => q.1 == me.1.cls && q.2.1 == is)
          | _ => false))
    | .ldc idx => (match c with
      | 0 => true
      | _ => decide (a < E.2.1.1.length) && refs.any (fun q => q.1 == me.1.cls && q.2.1 == idx && q.2.2.2 == a))
    | .ldc_w idx => (match c with
      | 0 => true
      | _ => decide (a < E.2.1.1.length) && refs.any (fun q => q.1 == me.1.cls && q.2.1 == idx && q.2.2.2 == a))
    | .invokevirtual _ => decide (b = np a) && (pg a).2.2.2.2.1.isEmpty && (match c with
      | 0 => (cl[cn a]?).isSome
      | 7 => true
      | _ => false)
    | .invokestatic _ => decide (b = np a) && (match c with
      | 1 => (pg a).2.2.2.2.1.isEmpty
      | 2 => (pg a).2.2.2.2.1.isEmpty
      | 3 => true
      | _ => false)
    | .invokespecial _ => (match c with
      | 6 => decide (b = 0)
      | 4 => decide (b = np a) && (pg a).2.2.2.2.1.isEmpty && (pg a).1.name == "<init>" && (pg a).2.2.2.1.isNone
      | 5 => decide (b = np a) && (pg a).2.2.2.2.1.isEmpty && (pg a).1.name == "<init>" && (pg a).2.2.2.1.isNone
      | _ => false)
    | _ => true
theorem am_eo_ok {me : am_M} {b : Nat} (h : am_eo me b = true) : (me.1.cls ≠ "java/lang/invoke/MethodHandle" ∧ me.1.cls ≠ "java/lang/invoke/VarHandle") ∧ plainFor me.1 = true ∧ me.2.2.1 ≤ 13 ∧ (∀ sig, parseMethodDescriptor me.1.desc = some sig → b = sig.parameters.length) := by
  unfold am_eo at h
  simp only [Bool.and_eq_true, bne_iff_ne, decide_eq_true_eq] at h
  obtain ⟨⟨⟨⟨h1, h2⟩, h3⟩, h4⟩, h5⟩ := h
  refine ⟨⟨h1, h2⟩, h3, h4, fun sig hs => ?_⟩
  rw [hs] at h5
  exact of_decide_eq_true h5
theorem am_fw_ok {K : am_Ta} {own : String} {idx a b : Nat} (hw : ∀ w ∈ am_fw K.2.1 own idx a b, w ∈ K.1) {q : vw_C} (hq : K.2.1[a]? = some q) : Cond.fieldLink own idx (q.2.1 b).1 (q.2.1 b).2.1 (q.2.1 b).2.2.1 ∈ K.1 := by
  unfold am_fw at hw
  rw [hq] at hw
  exact hw _ List.mem_cons_self
set_option maxHeartbeats 2000000 in
theorem am_vb_ok {E : am_En} {K : am_Ta} {cn : Nat → Nat} {pg : Nat → am_M} {np : Nat → Nat} {XL : List (String × Nat × Nat)} {me : am_M} {pc : Nat} {t : am_I} (heo : ∀ a, am_eo (pg a) (np a) = true)
    (hXL : ∀ q ∈ XL, (∀ w ∈ Bundle.ownAtoms q.1 q.2.1 (K.2.2.2.1 q.2.2) K.2.2.2.2, am_xw w) ∧ (∀ w ∈ Bundle.ownAtoms q.1 q.2.1 (K.2.2.2.1 q.2.2) K.2.2.2.2, am_carry w = true → w ∈ K.1))
    (hd : decode me.2.1 pc = .ok (t.1, t.2.1)) (hlen : am_len t.1 t.2.1 = true) (hw : ∀ w ∈ am_ws K.2.1 K.2.2.2.1 cn pg me.1.cls t, w ∈ K.1) (hs : am_sd E K.2.1 K.2.2.1 cn pg np XL me pc t = true) : am_V E K cn pg me pc t := by
  obtain ⟨i, len, a, b, c⟩ := t
  refine ⟨hd, hlen, ?_⟩
  dsimp only
  unfold am_ws at hw
  unfold am_sd at hs
  dsimp only at hw hs
  split
  · -- getfield
    rename_i idx
    refine ⟨fun hc => ?_, fun hc => ?_⟩
    · subst hc
      have hw2 : ∀ w ∈ am_fw K.2.1 me.1.cls idx a b, w ∈ K.1 := hw
      have hs2 : (match K.2.1[a]? with
        | some q => decide (b < q.2.2)
        | none => false) = true := hs
      cases hq : K.2.1[a]? with
      | none => rw [hq] at hs2; cases hs2
      | some q =>
        rw [hq] at hs2
        exact ⟨q.1, q.2.1, q.2.2, hq, of_decide_eq_true hs2, am_fw_ok hw2 hq⟩
    · cases c with
      | zero => exact absurd rfl hc
      | succ n =>
        have hs : (decide (a = 1) || decide (a = 2)) = true := hs
        rw [Bool.or_eq_true, decide_eq_true_eq, decide_eq_true_eq] at hs
        rcases hs with rfl | rfl
        · exact Or.inl ⟨rfl, hw _ List.mem_cons_self⟩
        · exact Or.inr ⟨rfl, hw _ List.mem_cons_self⟩
  · -- putfield
    rename_i idx
    have hw2 : ∀ w ∈ am_fw K.2.1 me.1.cls idx a b, w ∈ K.1 := hw
    have hs2 : (match K.2.1[a]? with
      | some q => decide (b < q.2.2) && (!(q.2.1 b).2.2.2 || (me.1.name == "<init>" && (q.2.1 b).1 == me.1.cls)) && decide (parseFieldDescriptor (q.2.1 b).2.2.1 = some (E.2.2.1 a b))
      | none => false) = true := hs
    cases hq : K.2.1[a]? with
    | none => rw [hq] at hs2; cases hs2
    | some q =>
      rw [hq] at hs2
      have hs3 : (decide (b < q.2.2) && (!(q.2.1 b).2.2.2 || (me.1.name == "<init>" && (q.2.1 b).1 == me.1.cls)) && decide (parseFieldDescriptor (q.2.1 b).2.2.1 = some (E.2.2.1 a b))) = true := hs2
      simp only [Bool.and_eq_true, decide_eq_true_eq, Bool.or_eq_true, Bool.not_eq_true', beq_iff_eq] at hs3
      obtain ⟨⟨h1, h2⟩, h3⟩ := hs3
      refine ⟨q.1, q.2.1, q.2.2, rfl, h1, am_fw_ok hw2 hq, ?_, h3⟩
      rcases h2 with h2 | h2
      · exact Or.inl h2
      · cases hf : (q.2.1 b).2.2.2 with
        | false => exact Or.inl rfl
        | true => exact Or.inr ⟨rfl, h2.1, h2.2⟩
  · exact ⟨of_decide_eq_true hs, hw _ List.mem_cons_self⟩
  · -- anewarray
    rename_i idx
    have hw2 : ∀ w ∈ (match am_ty a with
      | .object C => [Cond.classLink me.1.cls idx C, Cond.arrayOver (.object C)]
      | _ => []), w ∈ K.1 := hw
    have hs2 : (match am_ty a with
      | .object _ => true
      | _ => false) = true := hs
    cases hC : am_ty a with
    | object C =>
      rw [hC] at hw2
      exact ⟨C, rfl, hw2 _ List.mem_cons_self, hw2 _ (List.mem_cons_of_mem _ List.mem_cons_self)⟩
    | _ => rw [hC] at hs2; cases hs2
  · -- new
    rename_i idx
    refine ⟨fun hc => ?_, fun hc => ?_⟩
    · subst hc
      have hw : ∀ w ∈ (match K.2.1[a]? with
        | some q => [Cond.classLink me.1.cls idx q.1, Cond.instantiable q.1 q.2.2, Cond.initialized q.1]
        | none => []), w ∈ K.1 := hw
      have hs : (K.2.1[a]?).isSome = true := hs
      obtain ⟨q, hq⟩ := Option.isSome_iff_exists.mp hs
      rw [hq] at hw
      exact ⟨q.1, q.2.1, q.2.2, hq, hw _ List.mem_cons_self, hw _ (List.mem_cons_of_mem _ List.mem_cons_self), hw _ (List.mem_cons_of_mem _ (List.mem_cons_of_mem _ List.mem_cons_self))⟩
    · cases c with
      | zero => exact absurd rfl hc
      | succ n =>
        have hs : (decide (a < 3) && decide (decode me.2.1 (pc + 3) = .ok (.dup, 1)) && decide (decode me.2.1 (pc + 4 + b + 3) = .ok (.athrow, 1)) &&
          (match decode me.2.1 (pc + 4 + b) with
            | .ok (.invokespecial ic, 3) => XL.contains (me.1.cls, ic, a)
            | _ => false) &&
          (match decode me.2.1 (pc + 4) with
            | .ok (.ldc is, 2) => decide (b = 2) && K.2.2.1.any (fun q => q.1 == me.1.cls && q.2.1 == is)
            | .ok (.ldc_w is, 3) => decide (b = 3) && K.2.2.1.any (fun q => q.1 == me.1.cls && q.2.1 == is)
            | _ => false)) = true := hs
        simp only [Bool.and_eq_true, decide_eq_true_eq] at hs
        obtain ⟨⟨⟨⟨h1, h2⟩, h3⟩, h4⟩, h5⟩ := hs
        have hic : ∃ ic, decode me.2.1 (pc + 4 + b) = .ok (.invokespecial ic, 3) ∧ (me.1.cls, ic, a) ∈ XL := by
          split at h4
          · rename_i ic hdc
            exact ⟨ic, hdc, List.contains_iff_mem.mp h4⟩
          · cases h4
        obtain ⟨ic, hic, hmem⟩ := hic
        have his : ∃ is tx k, ((decode me.2.1 (pc + 4) = .ok (.ldc is, 2) ∧ b = 2) ∨ (decode me.2.1 (pc + 4) = .ok (.ldc_w is, 3) ∧ b = 3)) ∧ (me.1.cls, is, tx, k) ∈ K.2.2.1 := by
          have hany : ∀ is : Nat, (K.2.2.1.any (fun q => q.1 == me.1.cls && q.2.1 == is)) = true → ∃ tx k, (me.1.cls, is, tx, k) ∈ K.2.2.1 := fun is hz => by
            obtain ⟨q, hq, hz⟩ := List.any_eq_true.mp hz
            simp only [Bool.and_eq_true, beq_iff_eq] at hz
            obtain ⟨q1, q2, q3, q4⟩ := q
            obtain ⟨e1, e2⟩ := hz
            have e1 : q1 = me.1.cls := e1
            have e2 : q2 = is := e2
            rw [e1, e2] at hq
            exact ⟨_, _, hq⟩
          split at h5
          · rename_i is hdc
            simp only [Bool.and_eq_true, decide_eq_true_eq] at h5
            obtain ⟨tx, k, hk⟩ := hany _ h5.2
            exact ⟨is, tx, k, Or.inl ⟨hdc, h5.1⟩, hk⟩
          · rename_i is hdc
            simp only [Bool.and_eq_true, decide_eq_true_eq] at h5
            obtain ⟨tx, k, hk⟩ := hany _ h5.2
            exact ⟨is, tx, k, Or.inr ⟨hdc, h5.1⟩, hk⟩
          · cases h5
        obtain ⟨is, tx, k, his, hk⟩ := his
        exact ⟨h1, h2, ⟨is, ic, tx, k, his, hic, h3, hk, hXL _ hmem⟩, hw _ List.mem_cons_self, hw _ (List.mem_cons_of_mem _ List.mem_cons_self)⟩
  · -- ldc
    rename_i idx
    refine ⟨fun hc => ?_, fun hc => ?_⟩
    · subst hc
      exact hw _ List.mem_cons_self
    · cases c with
      | zero => exact absurd rfl hc
      | succ n =>
        have hs : (decide (a < E.2.1.1.length) && K.2.2.1.any (fun q => q.1 == me.1.cls && q.2.1 == idx && q.2.2.2 == a)) = true := hs
        rw [Bool.and_eq_true, decide_eq_true_eq] at hs
        obtain ⟨q, hq, hz⟩ := List.any_eq_true.mp hs.2
        simp only [Bool.and_eq_true, beq_iff_eq] at hz
        obtain ⟨q1, q2, q3, q4⟩ := q
        obtain ⟨⟨e1, e2⟩, e3⟩ := hz
        have e1 : q1 = me.1.cls := e1
        have e2 : q2 = idx := e2
        have e3 : q4 = a := e3
        rw [e1, e2, e3] at hq
        exact ⟨hs.1, _, hq⟩
  · -- ldc_w
    rename_i idx
    refine ⟨fun hc => ?_, fun hc => ?_⟩
    · subst hc
      exact hw _ List.mem_cons_self
    · cases c with
      | zero => exact absurd rfl hc
      | succ n =>
        have hs : (decide (a < E.2.1.1.length) && K.2.2.1.any (fun q => q.1 == me.1.cls && q.2.1 == idx && q.2.2.2 == a)) = true := hs
        rw [Bool.and_eq_true, decide_eq_true_eq] at hs
        obtain ⟨q, hq, hz⟩ := List.any_eq_true.mp hs.2
        simp only [Bool.and_eq_true, beq_iff_eq] at hz
        obtain ⟨q1, q2, q3, q4⟩ := q
        obtain ⟨⟨e1, e2⟩, e3⟩ := hz
        have e1 : q1 = me.1.cls := e1
        have e2 : q2 = idx := e2
        have e3 : q4 = a := e3
        rw [e1, e2, e3] at hq
        exact ⟨hs.1, _, hq⟩
  · exact hw _ List.mem_cons_self
  · -- getstatic
    cases c with
    | zero => exact Or.inl ⟨rfl, hw _ List.mem_cons_self⟩
    | succ n => exact Or.inr ⟨Nat.succ_ne_zero n, hw _ List.mem_cons_self⟩
  · -- invokevirtual
    rename_i idx
    simp only [Bool.and_eq_true, decide_eq_true_eq, List.isEmpty_iff] at hs
    obtain ⟨⟨h1, h2⟩, h3⟩ := hs
    subst h1
    obtain ⟨e1, e2, e3, e4⟩ := am_eo_ok (heo a)
    have w1 := hw _ List.mem_cons_self
    have w2 := hw _ (List.mem_cons_of_mem _ List.mem_cons_self)
    have w3 := hw _ (List.mem_cons_of_mem _ (List.mem_cons_of_mem _ List.mem_cons_self))
    have w4 := hw _ (List.mem_cons_of_mem _ (List.mem_cons_of_mem _ (List.mem_cons_of_mem _ List.mem_cons_self)))
    have hc7 : c = 0 ∨ c = 7 := by
      split at h3
      · exact Or.inl rfl
      · exact Or.inr rfl
      · cases h3
    refine ⟨hc7, ⟨e1, e2, e3, e4, Or.inl ⟨w1, h2⟩⟩, w2, w3, fun hc => ?_, fun hc => ?_⟩
    · subst hc
      have h3 : (K.2.1[cn a]?).isSome = true := h3
      obtain ⟨q, hq⟩ := Option.isSome_iff_exists.mp h3
      have w4 : Cond.selects (match K.2.1[cn a]? with
        | some q => q.1
        | none => "") (pg a).1 (pg a).1 ∈ K.1 := w4
      rw [hq] at w4
      exact ⟨q.1, q.2.1, q.2.2, hq, w4⟩
    · subst hc
      exact w4
  · -- invokestatic
    rename_i idx
    simp only [Bool.and_eq_true, decide_eq_true_eq] at hs
    obtain ⟨h1, h3⟩ := hs
    subst h1
    obtain ⟨e1, e2, e3, e4⟩ := am_eo_ok (heo a)
    split at h3
    · have h2 := List.isEmpty_iff.mp h3
      have w1 := hw _ List.mem_cons_self
      exact ⟨⟨e1, e2, e3, e4, Or.inl ⟨w1, h2⟩⟩, hw _ (List.mem_cons_of_mem _ List.mem_cons_self), hw _ (List.mem_cons_of_mem _ (List.mem_cons_of_mem _ List.mem_cons_self)), Or.inl ⟨rfl, h2, w1, hw _ (List.mem_cons_of_mem _ (List.mem_cons_of_mem _ (List.mem_cons_of_mem _ List.mem_cons_self)))⟩⟩
    · have h2 := List.isEmpty_iff.mp h3
      have w1 := hw _ List.mem_cons_self
      exact ⟨⟨e1, e2, e3, e4, Or.inl ⟨w1, h2⟩⟩, hw _ (List.mem_cons_of_mem _ List.mem_cons_self), hw _ (List.mem_cons_of_mem _ (List.mem_cons_of_mem _ List.mem_cons_self)), Or.inr (Or.inl ⟨rfl, h2, w1, _, hw _ (List.mem_cons_of_mem _ (List.mem_cons_of_mem _ (List.mem_cons_of_mem _ List.mem_cons_self)))⟩)⟩
    · have w1 := hw _ List.mem_cons_self
      exact ⟨⟨e1, e2, e3, e4, Or.inr ⟨w1, rfl⟩⟩, hw _ (List.mem_cons_of_mem _ List.mem_cons_self), hw _ (List.mem_cons_of_mem _ (List.mem_cons_of_mem _ List.mem_cons_self)), Or.inr (Or.inr ⟨rfl, w1, hw _ (List.mem_cons_of_mem _ (List.mem_cons_of_mem _ (List.mem_cons_of_mem _ List.mem_cons_self)))⟩)⟩
    · cases h3
  · -- invokespecial
    rename_i idx
    refine ⟨fun hc => ?_, fun hc => ?_⟩
    · subst hc
      exact ⟨of_decide_eq_true hs, hw _ List.mem_cons_self, hw _ (List.mem_cons_of_mem _ List.mem_cons_self), hw _ (List.mem_cons_of_mem _ (List.mem_cons_of_mem _ List.mem_cons_self))⟩
    · have hc45 : c = 4 ∨ c = 5 := by
        have hs2 : (match (generalizing := false) c with
          | 6 => decide (b = 0)
          | 4 => decide (b = np a) && (pg a).2.2.2.2.1.isEmpty && (pg a).1.name == "<init>" && (pg a).2.2.2.1.isNone
          | 5 => decide (b = np a) && (pg a).2.2.2.2.1.isEmpty && (pg a).1.name == "<init>" && (pg a).2.2.2.1.isNone
          | _ => false) = true := hs
        split at hs2
        · exact absurd rfl hc
        · exact Or.inl rfl
        · exact Or.inr rfl
        · cases hs2
      rcases hc45 with rfl | rfl
      · have hs2 : (decide (b = np a) && (pg a).2.2.2.2.1.isEmpty && (pg a).1.name == "<init>" && (pg a).2.2.2.1.isNone) = true := hs
        simp only [Bool.and_eq_true, decide_eq_true_eq, List.isEmpty_iff, beq_iff_eq, Option.isNone_iff_eq_none] at hs2
        obtain ⟨⟨⟨h1, h2⟩, h3⟩, h4⟩ := hs2
        subst h1
        obtain ⟨e1, e2, e3, e4⟩ := am_eo_ok (heo a)
        exact ⟨Or.inl rfl, ⟨e1, e2, e3, e4, Or.inl ⟨hw _ List.mem_cons_self, h2⟩⟩, h3, h4, hw _ (List.mem_cons_of_mem _ List.mem_cons_self), fun _ => hw _ (List.mem_cons_of_mem _ (List.mem_cons_of_mem _ List.mem_cons_self)), fun z => absurd z (by decide)⟩
      · have hs2 : (decide (b = np a) && (pg a).2.2.2.2.1.isEmpty && (pg a).1.name == "<init>" && (pg a).2.2.2.1.isNone) = true := hs
        simp only [Bool.and_eq_true, decide_eq_true_eq, List.isEmpty_iff, beq_iff_eq, Option.isNone_iff_eq_none] at hs2
        obtain ⟨⟨⟨h1, h2⟩, h3⟩, h4⟩ := hs2
        subst h1
        obtain ⟨e1, e2, e3, e4⟩ := am_eo_ok (heo a)
        exact ⟨Or.inr rfl, ⟨e1, e2, e3, e4, Or.inl ⟨hw _ List.mem_cons_self, h2⟩⟩, h3, h4, hw _ (List.mem_cons_of_mem _ List.mem_cons_self), fun z => absurd z (by decide), fun _ => ⟨_, hw _ (List.mem_cons_of_mem _ (List.mem_cons_of_mem _ List.mem_cons_self))⟩⟩
  · trivial
end
