/-! the plain block, step by step: each row turns the block's head into its tail -/
section GBlocks
variable {K : Nat → List (Option Value) → List Value → Prop} {t : List (Instr × Value)} {a : Value} {pc : Nat} {L : List (Option Value)} {st : List Value}
def gPk : Option Value → Bool
  | some (.long _) => false
  | some (.double _) => false
  | _ => true
theorem gPrev_of {L : List (Option Value)} {i : Nat} {p : Option Value} (h : L[i]? = some p) (hp : gPk p = true) : gPrev L (i + 1) = true := by
  unfold gPrev
  cases p with
  | none => simp [h]
  | some v => cases v <;> simp_all [gPk]
theorem gx_nil (k : K pc L st) : gEx [] pc L st K := k
theorem gx_one {i : Instr} {L' : List (Option Value)} {st' : List Value} (hp : gP1 i a L st = some (L', st')) (k : gEx t (gNx i pc a) L' st' K) : gEx ((i, a) :: t) pc L st K := by
  unfold gEx
  rw [hp]
  exact k

theorem gx_iconst {n : Int} {x : Int32} (k : gEx t (pc + 1) L (.int x :: st) K) : gEx ((.iconst n, .int x) :: t) pc L (st) K := k
theorem gx_bipush {n : Int} {x : Int32} (k : gEx t (pc + 2) L (.int x :: st) K) : gEx ((.bipush n, .int x) :: t) pc L (st) K := k
theorem gx_sipush {n : Int} {x : Int32} (k : gEx t (pc + 3) L (.int x :: st) K) : gEx ((.sipush n, .int x) :: t) pc L (st) K := k
theorem gx_lconst {n : Fin 2} {x : Int64} (k : gEx t (pc + 1) L (.long x :: st) K) : gEx ((.lconst n, .long x) :: t) pc L (st) K := k
theorem gx_aconst_null  (k : gEx t (pc + 1) L (.null :: st) K) : gEx ((.aconst_null, a) :: t) pc L (st) K := k
theorem gx_goto {o : Int} {n : Nat} (k : gEx t n L st K) : gEx ((.goto o, .retAddr n) :: t) pc L st K := k
theorem gx_iadd {x y : Int32} (k : gEx t (pc + 1) L (.int (x + y) :: st) K) : gEx ((.iadd, a) :: t) pc L (.int y :: .int x :: st) K := k
theorem gx_isub {x y : Int32} (k : gEx t (pc + 1) L (.int (x - y) :: st) K) : gEx ((.isub, a) :: t) pc L (.int y :: .int x :: st) K := k
theorem gx_imul {x y : Int32} (k : gEx t (pc + 1) L (.int (x * y) :: st) K) : gEx ((.imul, a) :: t) pc L (.int y :: .int x :: st) K := k
theorem gx_iand {x y : Int32} (k : gEx t (pc + 1) L (.int (x &&& y) :: st) K) : gEx ((.iand, a) :: t) pc L (.int y :: .int x :: st) K := k
theorem gx_ior {x y : Int32} (k : gEx t (pc + 1) L (.int (x ||| y) :: st) K) : gEx ((.ior, a) :: t) pc L (.int y :: .int x :: st) K := k
theorem gx_ineg {x : Int32} (k : gEx t (pc + 1) L (.int (-x) :: st) K) : gEx ((.ineg, a) :: t) pc L (.int x :: st) K := k
theorem gx_ishl {x y : Int32} (k : gEx t (pc + 1) L (.int (x <<< (y &&& 31)) :: st) K) : gEx ((.ishl, a) :: t) pc L (.int y :: .int x :: st) K := k
theorem gx_ishr {x y : Int32} (k : gEx t (pc + 1) L (.int (x >>> (y &&& 31)) :: st) K) : gEx ((.ishr, a) :: t) pc L (.int y :: .int x :: st) K := k
theorem gx_i2l {x : Int32} (k : gEx t (pc + 1) L (.long x.toInt64 :: st) K) : gEx ((.i2l, a) :: t) pc L (.int x :: st) K := k
theorem gx_i2b {x : Int32} (k : gEx t (pc + 1) L (.int x.toInt8.toInt32 :: st) K) : gEx ((.i2b, a) :: t) pc L (.int x :: st) K := k
theorem gx_i2c {x : Int32} (k : gEx t (pc + 1) L (.int (x.toUInt32 % 65536).toInt32 :: st) K) : gEx ((.i2c, a) :: t) pc L (.int x :: st) K := k
theorem gx_i2d {x : Int32} (k : gEx t (pc + 1) L (.double (FP.i2d x) :: st) K) : gEx ((.i2d, a) :: t) pc L (.int x :: st) K := k
theorem gx_i2f {x : Int32} (k : gEx t (pc + 1) L (.float (FP.i2f x) :: st) K) : gEx ((.i2f, a) :: t) pc L (.int x :: st) K := k
theorem gx_lcmp {x y : Int64} (k : gEx t (pc + 1) L (.int (lg_cmp x y) :: st) K) : gEx ((.lcmp, a) :: t) pc L (.long y :: .long x :: st) K := k
theorem gx_dcmp {x y : UInt64} {o : CmpOp} (k : gEx t (pc + 1) L (.int (Op.cmpValue (FP.dcmp x y) o) :: st) K) : gEx ((.dcmp o, a) :: t) pc L (.double y :: .double x :: st) K := k
theorem gx_fcmp {x y : UInt32} {o : CmpOp} (k : gEx t (pc + 1) L (.int (Op.cmpValue (FP.fcmp x y) o) :: st) K) : gEx ((.fcmp o, a) :: t) pc L (.float y :: .float x :: st) K := k
theorem gx_dupi {x : Int32} (k : gEx t (pc + 1) L (.int x :: .int x :: st) K) : gEx ((.dup, a) :: t) pc L (.int x :: st) K := k
theorem gx_popi {x : Int32} (k : gEx t (pc + 1) L (st) K) : gEx ((.pop, a) :: t) pc L (.int x :: st) K := k
theorem gx_dupr {x : Nat} (k : gEx t (pc + 1) L (.ref x :: .ref x :: st) K) : gEx ((.dup, a) :: t) pc L (.ref x :: st) K := k
theorem gx_popr {x : Nat} (k : gEx t (pc + 1) L (st) K) : gEx ((.pop, a) :: t) pc L (.ref x :: st) K := k
theorem gx_dupn  (k : gEx t (pc + 1) L (.null :: .null :: st) K) : gEx ((.dup, a) :: t) pc L (.null :: st) K := k
theorem gx_dup_x1ir {x : Int32} {y : Nat} (k : gEx t (pc + 1) L (.int x :: .ref y :: .int x :: st) K) : gEx ((.dup_x1, a) :: t) pc L (.int x :: .ref y :: st) K := k
theorem gx_dup_x1ii {x y : Int32} (k : gEx t (pc + 1) L (.int x :: .int y :: .int x :: st) K) : gEx ((.dup_x1, a) :: t) pc L (.int x :: .int y :: st) K := k
theorem gx_dup2ir {x : Int32} {y : Nat} (k : gEx t (pc + 1) L (.int x :: .ref y :: .int x :: .ref y :: st) K) : gEx ((.dup2, a) :: t) pc L (.int x :: .ref y :: st) K := k
theorem gx_iload_n_0 {x : Int32} (k : gEx t (pc + 1) (some (.int x) :: L) (.int x :: st) K) : gEx ((.iload_n 0, a) :: t) pc (some (.int x) :: L) st K := k
theorem gx_aload_n_0 {x : Nat} (k : gEx t (pc + 1) (some (.ref x) :: L) (.ref x :: st) K) : gEx ((.aload_n 0, a) :: t) pc (some (.ref x) :: L) st K := k
theorem gx_aloadN_n_0 (k : gEx t (pc + 1) (some (.null) :: L) (.null :: st) K) : gEx ((.aload_n 0, a) :: t) pc (some (.null) :: L) st K := k
theorem gx_fload_0 {x : UInt32} (k : gEx t (pc + 2) (some (.float x) :: L) (.float x :: st) K) : gEx ((.fload 0, a) :: t) pc (some (.float x) :: L) st K := k
theorem gx_dload_0 {x : UInt64} (k : gEx t (pc + 2) (some (.double x) :: L) (.double x :: st) K) : gEx ((.dload 0, a) :: t) pc (some (.double x) :: L) st K := k
theorem gx_istore_n_0 {l0 : Option Value} {x : Int32} (k : gEx t (pc + 1) (some (.int x) :: L) st K) : gEx ((.istore_n 0, a) :: t) pc (l0 :: L) (.int x :: st) K := by
  have hg : gSet1 (l0 :: L) 0 (.int x) = some (some (.int x) :: L) := by
    unfold gSet1
    rw [if_pos ⟨by simp, rfl⟩]
    rfl
  refine gx_one (L' := some (.int x) :: L) (st' := st) ?_ k
  show (match gSet1 (l0 :: L) 0 (.int x) with | some L' => some (L', st) | none => none) = _
  rw [hg]
theorem gx_astore_n_0 {l0 : Option Value} {x : Nat} (k : gEx t (pc + 1) (some (.ref x) :: L) st K) : gEx ((.astore_n 0, a) :: t) pc (l0 :: L) (.ref x :: st) K := by
  have hg : gSet1 (l0 :: L) 0 (.ref x) = some (some (.ref x) :: L) := by
    unfold gSet1
    rw [if_pos ⟨by simp, rfl⟩]
    rfl
  refine gx_one (L' := some (.ref x) :: L) (st' := st) ?_ k
  show (match gSet1 (l0 :: L) 0 (.ref x) with | some L' => some (L', st) | none => none) = _
  rw [hg]
theorem gx_astoreN_n_0 {l0 : Option Value} (k : gEx t (pc + 1) (some (.null) :: L) st K) : gEx ((.astore_n 0, a) :: t) pc (l0 :: L) (.null :: st) K := by
  have hg : gSet1 (l0 :: L) 0 (.null) = some (some (.null) :: L) := by
    unfold gSet1
    rw [if_pos ⟨by simp, rfl⟩]
    rfl
  refine gx_one (L' := some (.null) :: L) (st' := st) ?_ k
  show (match gSet1 (l0 :: L) 0 (.null) with | some L' => some (L', st) | none => none) = _
  rw [hg]
theorem gx_fstore_0 {l0 : Option Value} {x : UInt32} (k : gEx t (pc + 2) (some (.float x) :: L) st K) : gEx ((.fstore 0, a) :: t) pc (l0 :: L) (.float x :: st) K := by
  have hg : gSet1 (l0 :: L) 0 (.float x) = some (some (.float x) :: L) := by
    unfold gSet1
    rw [if_pos ⟨by simp, rfl⟩]
    rfl
  refine gx_one (L' := some (.float x) :: L) (st' := st) ?_ k
  show (match gSet1 (l0 :: L) 0 (.float x) with | some L' => some (L', st) | none => none) = _
  rw [hg]
theorem gx_iinc_0 {n : Int} {x y : Int32} (k : gEx t (pc + 3) (some (.int (x + y)) :: L) st K) : gEx ((.iinc 0 n, .int y) :: t) pc (some (.int x) :: L) st K := by
  have hg : gSet1 (some (.int x) :: L) 0 (.int (x + y)) = some (some (.int (x + y)) :: L) := by
    unfold gSet1
    rw [if_pos ⟨by simp, rfl⟩]
    rfl
  have hh : gGet (some (.int x) :: L) 0 = some (.int x) := rfl
  refine gx_one (L' := some (.int (x + y)) :: L) (st' := st) ?_ k
  unfold gP1
  simp only [hh, hg]
theorem gx_iload_n_1 {l0 : Option Value} {x : Int32} (k : gEx t (pc + 1) (l0 :: some (.int x) :: L) (.int x :: st) K) : gEx ((.iload_n 1, a) :: t) pc (l0 :: some (.int x) :: L) st K := k
theorem gx_aload_n_1 {l0 : Option Value} {x : Nat} (k : gEx t (pc + 1) (l0 :: some (.ref x) :: L) (.ref x :: st) K) : gEx ((.aload_n 1, a) :: t) pc (l0 :: some (.ref x) :: L) st K := k
theorem gx_aloadN_n_1 {l0 : Option Value} (k : gEx t (pc + 1) (l0 :: some (.null) :: L) (.null :: st) K) : gEx ((.aload_n 1, a) :: t) pc (l0 :: some (.null) :: L) st K := k
theorem gx_fload_1 {l0 : Option Value} {x : UInt32} (k : gEx t (pc + 2) (l0 :: some (.float x) :: L) (.float x :: st) K) : gEx ((.fload 1, a) :: t) pc (l0 :: some (.float x) :: L) st K := k
theorem gx_dload_1 {l0 : Option Value} {x : UInt64} (k : gEx t (pc + 2) (l0 :: some (.double x) :: L) (.double x :: st) K) : gEx ((.dload 1, a) :: t) pc (l0 :: some (.double x) :: L) st K := k
theorem gx_istore_n_1 {l0 l1 : Option Value} {x : Int32} (hp : gPk l0 = true) (k : gEx t (pc + 1) (l0 :: some (.int x) :: L) st K) : gEx ((.istore_n 1, a) :: t) pc (l0 :: l1 :: L) (.int x :: st) K := by
  have hg : gSet1 (l0 :: l1 :: L) 1 (.int x) = some (l0 :: some (.int x) :: L) := by
    unfold gSet1
    rw [if_pos ⟨by simp, (gPrev_of (i := 0) rfl hp)⟩]
    rfl
  refine gx_one (L' := l0 :: some (.int x) :: L) (st' := st) ?_ k
  show (match gSet1 (l0 :: l1 :: L) 1 (.int x) with | some L' => some (L', st) | none => none) = _
  rw [hg]
theorem gx_astore_n_1 {l0 l1 : Option Value} {x : Nat} (hp : gPk l0 = true) (k : gEx t (pc + 1) (l0 :: some (.ref x) :: L) st K) : gEx ((.astore_n 1, a) :: t) pc (l0 :: l1 :: L) (.ref x :: st) K := by
  have hg : gSet1 (l0 :: l1 :: L) 1 (.ref x) = some (l0 :: some (.ref x) :: L) := by
    unfold gSet1
    rw [if_pos ⟨by simp, (gPrev_of (i := 0) rfl hp)⟩]
    rfl
  refine gx_one (L' := l0 :: some (.ref x) :: L) (st' := st) ?_ k
  show (match gSet1 (l0 :: l1 :: L) 1 (.ref x) with | some L' => some (L', st) | none => none) = _
  rw [hg]
theorem gx_astoreN_n_1 {l0 l1 : Option Value} (hp : gPk l0 = true) (k : gEx t (pc + 1) (l0 :: some (.null) :: L) st K) : gEx ((.astore_n 1, a) :: t) pc (l0 :: l1 :: L) (.null :: st) K := by
  have hg : gSet1 (l0 :: l1 :: L) 1 (.null) = some (l0 :: some (.null) :: L) := by
    unfold gSet1
    rw [if_pos ⟨by simp, (gPrev_of (i := 0) rfl hp)⟩]
    rfl
  refine gx_one (L' := l0 :: some (.null) :: L) (st' := st) ?_ k
  show (match gSet1 (l0 :: l1 :: L) 1 (.null) with | some L' => some (L', st) | none => none) = _
  rw [hg]
theorem gx_fstore_1 {l0 l1 : Option Value} {x : UInt32} (hp : gPk l0 = true) (k : gEx t (pc + 2) (l0 :: some (.float x) :: L) st K) : gEx ((.fstore 1, a) :: t) pc (l0 :: l1 :: L) (.float x :: st) K := by
  have hg : gSet1 (l0 :: l1 :: L) 1 (.float x) = some (l0 :: some (.float x) :: L) := by
    unfold gSet1
    rw [if_pos ⟨by simp, (gPrev_of (i := 0) rfl hp)⟩]
    rfl
  refine gx_one (L' := l0 :: some (.float x) :: L) (st' := st) ?_ k
  show (match gSet1 (l0 :: l1 :: L) 1 (.float x) with | some L' => some (L', st) | none => none) = _
  rw [hg]
theorem gx_iinc_1 {l0 : Option Value} {n : Int} {x y : Int32} (hp : gPk l0 = true) (k : gEx t (pc + 3) (l0 :: some (.int (x + y)) :: L) st K) : gEx ((.iinc 1 n, .int y) :: t) pc (l0 :: some (.int x) :: L) st K := by
  have hg : gSet1 (l0 :: some (.int x) :: L) 1 (.int (x + y)) = some (l0 :: some (.int (x + y)) :: L) := by
    unfold gSet1
    rw [if_pos ⟨by simp, (gPrev_of (i := 0) rfl hp)⟩]
    rfl
  have hh : gGet (l0 :: some (.int x) :: L) 1 = some (.int x) := rfl
  refine gx_one (L' := l0 :: some (.int (x + y)) :: L) (st' := st) ?_ k
  unfold gP1
  simp only [hh, hg]
theorem gx_iload_n_2 {l0 l1 : Option Value} {x : Int32} (k : gEx t (pc + 1) (l0 :: l1 :: some (.int x) :: L) (.int x :: st) K) : gEx ((.iload_n 2, a) :: t) pc (l0 :: l1 :: some (.int x) :: L) st K := k
theorem gx_aload_n_2 {l0 l1 : Option Value} {x : Nat} (k : gEx t (pc + 1) (l0 :: l1 :: some (.ref x) :: L) (.ref x :: st) K) : gEx ((.aload_n 2, a) :: t) pc (l0 :: l1 :: some (.ref x) :: L) st K := k
theorem gx_aloadN_n_2 {l0 l1 : Option Value} (k : gEx t (pc + 1) (l0 :: l1 :: some (.null) :: L) (.null :: st) K) : gEx ((.aload_n 2, a) :: t) pc (l0 :: l1 :: some (.null) :: L) st K := k
theorem gx_fload_2 {l0 l1 : Option Value} {x : UInt32} (k : gEx t (pc + 2) (l0 :: l1 :: some (.float x) :: L) (.float x :: st) K) : gEx ((.fload 2, a) :: t) pc (l0 :: l1 :: some (.float x) :: L) st K := k
theorem gx_dload_2 {l0 l1 : Option Value} {x : UInt64} (k : gEx t (pc + 2) (l0 :: l1 :: some (.double x) :: L) (.double x :: st) K) : gEx ((.dload 2, a) :: t) pc (l0 :: l1 :: some (.double x) :: L) st K := k
theorem gx_istore_n_2 {l0 l1 l2 : Option Value} {x : Int32} (hp : gPk l1 = true) (k : gEx t (pc + 1) (l0 :: l1 :: some (.int x) :: L) st K) : gEx ((.istore_n 2, a) :: t) pc (l0 :: l1 :: l2 :: L) (.int x :: st) K := by
  have hg : gSet1 (l0 :: l1 :: l2 :: L) 2 (.int x) = some (l0 :: l1 :: some (.int x) :: L) := by
    unfold gSet1
    rw [if_pos ⟨by simp, (gPrev_of (i := 1) rfl hp)⟩]
    rfl
  refine gx_one (L' := l0 :: l1 :: some (.int x) :: L) (st' := st) ?_ k
  show (match gSet1 (l0 :: l1 :: l2 :: L) 2 (.int x) with | some L' => some (L', st) | none => none) = _
  rw [hg]
theorem gx_astore_n_2 {l0 l1 l2 : Option Value} {x : Nat} (hp : gPk l1 = true) (k : gEx t (pc + 1) (l0 :: l1 :: some (.ref x) :: L) st K) : gEx ((.astore_n 2, a) :: t) pc (l0 :: l1 :: l2 :: L) (.ref x :: st) K := by
  have hg : gSet1 (l0 :: l1 :: l2 :: L) 2 (.ref x) = some (l0 :: l1 :: some (.ref x) :: L) := by
    unfold gSet1
    rw [if_pos ⟨by simp, (gPrev_of (i := 1) rfl hp)⟩]
    rfl
  refine gx_one (L' := l0 :: l1 :: some (.ref x) :: L) (st' := st) ?_ k
  show (match gSet1 (l0 :: l1 :: l2 :: L) 2 (.ref x) with | some L' => some (L', st) | none => none) = _
  rw [hg]
theorem gx_astoreN_n_2 {l0 l1 l2 : Option Value} (hp : gPk l1 = true) (k : gEx t (pc + 1) (l0 :: l1 :: some (.null) :: L) st K) : gEx ((.astore_n 2, a) :: t) pc (l0 :: l1 :: l2 :: L) (.null :: st) K := by
  have hg : gSet1 (l0 :: l1 :: l2 :: L) 2 (.null) = some (l0 :: l1 :: some (.null) :: L) := by
    unfold gSet1
    rw [if_pos ⟨by simp, (gPrev_of (i := 1) rfl hp)⟩]
    rfl
  refine gx_one (L' := l0 :: l1 :: some (.null) :: L) (st' := st) ?_ k
  show (match gSet1 (l0 :: l1 :: l2 :: L) 2 (.null) with | some L' => some (L', st) | none => none) = _
  rw [hg]
theorem gx_fstore_2 {l0 l1 l2 : Option Value} {x : UInt32} (hp : gPk l1 = true) (k : gEx t (pc + 2) (l0 :: l1 :: some (.float x) :: L) st K) : gEx ((.fstore 2, a) :: t) pc (l0 :: l1 :: l2 :: L) (.float x :: st) K := by
  have hg : gSet1 (l0 :: l1 :: l2 :: L) 2 (.float x) = some (l0 :: l1 :: some (.float x) :: L) := by
    unfold gSet1
    rw [if_pos ⟨by simp, (gPrev_of (i := 1) rfl hp)⟩]
    rfl
  refine gx_one (L' := l0 :: l1 :: some (.float x) :: L) (st' := st) ?_ k
  show (match gSet1 (l0 :: l1 :: l2 :: L) 2 (.float x) with | some L' => some (L', st) | none => none) = _
  rw [hg]
theorem gx_iinc_2 {l0 l1 : Option Value} {n : Int} {x y : Int32} (hp : gPk l1 = true) (k : gEx t (pc + 3) (l0 :: l1 :: some (.int (x + y)) :: L) st K) : gEx ((.iinc 2 n, .int y) :: t) pc (l0 :: l1 :: some (.int x) :: L) st K := by
  have hg : gSet1 (l0 :: l1 :: some (.int x) :: L) 2 (.int (x + y)) = some (l0 :: l1 :: some (.int (x + y)) :: L) := by
    unfold gSet1
    rw [if_pos ⟨by simp, (gPrev_of (i := 1) rfl hp)⟩]
    rfl
  have hh : gGet (l0 :: l1 :: some (.int x) :: L) 2 = some (.int x) := rfl
  refine gx_one (L' := l0 :: l1 :: some (.int (x + y)) :: L) (st' := st) ?_ k
  unfold gP1
  simp only [hh, hg]
theorem gx_iload_n_3 {l0 l1 l2 : Option Value} {x : Int32} (k : gEx t (pc + 1) (l0 :: l1 :: l2 :: some (.int x) :: L) (.int x :: st) K) : gEx ((.iload_n 3, a) :: t) pc (l0 :: l1 :: l2 :: some (.int x) :: L) st K := k
theorem gx_aload_n_3 {l0 l1 l2 : Option Value} {x : Nat} (k : gEx t (pc + 1) (l0 :: l1 :: l2 :: some (.ref x) :: L) (.ref x :: st) K) : gEx ((.aload_n 3, a) :: t) pc (l0 :: l1 :: l2 :: some (.ref x) :: L) st K := k
theorem gx_aloadN_n_3 {l0 l1 l2 : Option Value} (k : gEx t (pc + 1) (l0 :: l1 :: l2 :: some (.null) :: L) (.null :: st) K) : gEx ((.aload_n 3, a) :: t) pc (l0 :: l1 :: l2 :: some (.null) :: L) st K := k
theorem gx_fload_3 {l0 l1 l2 : Option Value} {x : UInt32} (k : gEx t (pc + 2) (l0 :: l1 :: l2 :: some (.float x) :: L) (.float x :: st) K) : gEx ((.fload 3, a) :: t) pc (l0 :: l1 :: l2 :: some (.float x) :: L) st K := k
theorem gx_dload_3 {l0 l1 l2 : Option Value} {x : UInt64} (k : gEx t (pc + 2) (l0 :: l1 :: l2 :: some (.double x) :: L) (.double x :: st) K) : gEx ((.dload 3, a) :: t) pc (l0 :: l1 :: l2 :: some (.double x) :: L) st K := k
theorem gx_istore_n_3 {l0 l1 l2 l3 : Option Value} {x : Int32} (hp : gPk l2 = true) (k : gEx t (pc + 1) (l0 :: l1 :: l2 :: some (.int x) :: L) st K) : gEx ((.istore_n 3, a) :: t) pc (l0 :: l1 :: l2 :: l3 :: L) (.int x :: st) K := by
  have hg : gSet1 (l0 :: l1 :: l2 :: l3 :: L) 3 (.int x) = some (l0 :: l1 :: l2 :: some (.int x) :: L) := by
    unfold gSet1
    rw [if_pos ⟨by simp, (gPrev_of (i := 2) rfl hp)⟩]
    rfl
  refine gx_one (L' := l0 :: l1 :: l2 :: some (.int x) :: L) (st' := st) ?_ k
  show (match gSet1 (l0 :: l1 :: l2 :: l3 :: L) 3 (.int x) with | some L' => some (L', st) | none => none) = _
  rw [hg]
theorem gx_astore_n_3 {l0 l1 l2 l3 : Option Value} {x : Nat} (hp : gPk l2 = true) (k : gEx t (pc + 1) (l0 :: l1 :: l2 :: some (.ref x) :: L) st K) : gEx ((.astore_n 3, a) :: t) pc (l0 :: l1 :: l2 :: l3 :: L) (.ref x :: st) K := by
  have hg : gSet1 (l0 :: l1 :: l2 :: l3 :: L) 3 (.ref x) = some (l0 :: l1 :: l2 :: some (.ref x) :: L) := by
    unfold gSet1
    rw [if_pos ⟨by simp, (gPrev_of (i := 2) rfl hp)⟩]
    rfl
  refine gx_one (L' := l0 :: l1 :: l2 :: some (.ref x) :: L) (st' := st) ?_ k
  show (match gSet1 (l0 :: l1 :: l2 :: l3 :: L) 3 (.ref x) with | some L' => some (L', st) | none => none) = _
  rw [hg]
theorem gx_astoreN_n_3 {l0 l1 l2 l3 : Option Value} (hp : gPk l2 = true) (k : gEx t (pc + 1) (l0 :: l1 :: l2 :: some (.null) :: L) st K) : gEx ((.astore_n 3, a) :: t) pc (l0 :: l1 :: l2 :: l3 :: L) (.null :: st) K := by
  have hg : gSet1 (l0 :: l1 :: l2 :: l3 :: L) 3 (.null) = some (l0 :: l1 :: l2 :: some (.null) :: L) := by
    unfold gSet1
    rw [if_pos ⟨by simp, (gPrev_of (i := 2) rfl hp)⟩]
    rfl
  refine gx_one (L' := l0 :: l1 :: l2 :: some (.null) :: L) (st' := st) ?_ k
  show (match gSet1 (l0 :: l1 :: l2 :: l3 :: L) 3 (.null) with | some L' => some (L', st) | none => none) = _
  rw [hg]
theorem gx_fstore_3 {l0 l1 l2 l3 : Option Value} {x : UInt32} (hp : gPk l2 = true) (k : gEx t (pc + 2) (l0 :: l1 :: l2 :: some (.float x) :: L) st K) : gEx ((.fstore 3, a) :: t) pc (l0 :: l1 :: l2 :: l3 :: L) (.float x :: st) K := by
  have hg : gSet1 (l0 :: l1 :: l2 :: l3 :: L) 3 (.float x) = some (l0 :: l1 :: l2 :: some (.float x) :: L) := by
    unfold gSet1
    rw [if_pos ⟨by simp, (gPrev_of (i := 2) rfl hp)⟩]
    rfl
  refine gx_one (L' := l0 :: l1 :: l2 :: some (.float x) :: L) (st' := st) ?_ k
  show (match gSet1 (l0 :: l1 :: l2 :: l3 :: L) 3 (.float x) with | some L' => some (L', st) | none => none) = _
  rw [hg]
theorem gx_iinc_3 {l0 l1 l2 : Option Value} {n : Int} {x y : Int32} (hp : gPk l2 = true) (k : gEx t (pc + 3) (l0 :: l1 :: l2 :: some (.int (x + y)) :: L) st K) : gEx ((.iinc 3 n, .int y) :: t) pc (l0 :: l1 :: l2 :: some (.int x) :: L) st K := by
  have hg : gSet1 (l0 :: l1 :: l2 :: some (.int x) :: L) 3 (.int (x + y)) = some (l0 :: l1 :: l2 :: some (.int (x + y)) :: L) := by
    unfold gSet1
    rw [if_pos ⟨by simp, (gPrev_of (i := 2) rfl hp)⟩]
    rfl
  have hh : gGet (l0 :: l1 :: l2 :: some (.int x) :: L) 3 = some (.int x) := rfl
  refine gx_one (L' := l0 :: l1 :: l2 :: some (.int (x + y)) :: L) (st' := st) ?_ k
  unfold gP1
  simp only [hh, hg]
theorem gx_iload_4 {l0 l1 l2 l3 : Option Value} {x : Int32} (k : gEx t (pc + 2) (l0 :: l1 :: l2 :: l3 :: some (.int x) :: L) (.int x :: st) K) : gEx ((.iload 4, a) :: t) pc (l0 :: l1 :: l2 :: l3 :: some (.int x) :: L) st K := k
theorem gx_aload_4 {l0 l1 l2 l3 : Option Value} {x : Nat} (k : gEx t (pc + 2) (l0 :: l1 :: l2 :: l3 :: some (.ref x) :: L) (.ref x :: st) K) : gEx ((.aload 4, a) :: t) pc (l0 :: l1 :: l2 :: l3 :: some (.ref x) :: L) st K := k
theorem gx_aloadN_4 {l0 l1 l2 l3 : Option Value} (k : gEx t (pc + 2) (l0 :: l1 :: l2 :: l3 :: some (.null) :: L) (.null :: st) K) : gEx ((.aload 4, a) :: t) pc (l0 :: l1 :: l2 :: l3 :: some (.null) :: L) st K := k
theorem gx_fload_4 {l0 l1 l2 l3 : Option Value} {x : UInt32} (k : gEx t (pc + 2) (l0 :: l1 :: l2 :: l3 :: some (.float x) :: L) (.float x :: st) K) : gEx ((.fload 4, a) :: t) pc (l0 :: l1 :: l2 :: l3 :: some (.float x) :: L) st K := k
theorem gx_dload_4 {l0 l1 l2 l3 : Option Value} {x : UInt64} (k : gEx t (pc + 2) (l0 :: l1 :: l2 :: l3 :: some (.double x) :: L) (.double x :: st) K) : gEx ((.dload 4, a) :: t) pc (l0 :: l1 :: l2 :: l3 :: some (.double x) :: L) st K := k
theorem gx_istore_4 {l0 l1 l2 l3 l4 : Option Value} {x : Int32} (hp : gPk l3 = true) (k : gEx t (pc + 2) (l0 :: l1 :: l2 :: l3 :: some (.int x) :: L) st K) : gEx ((.istore 4, a) :: t) pc (l0 :: l1 :: l2 :: l3 :: l4 :: L) (.int x :: st) K := by
  have hg : gSet1 (l0 :: l1 :: l2 :: l3 :: l4 :: L) 4 (.int x) = some (l0 :: l1 :: l2 :: l3 :: some (.int x) :: L) := by
    unfold gSet1
    rw [if_pos ⟨by simp, (gPrev_of (i := 3) rfl hp)⟩]
    rfl
  refine gx_one (L' := l0 :: l1 :: l2 :: l3 :: some (.int x) :: L) (st' := st) ?_ k
  show (match gSet1 (l0 :: l1 :: l2 :: l3 :: l4 :: L) 4 (.int x) with | some L' => some (L', st) | none => none) = _
  rw [hg]
theorem gx_astore_4 {l0 l1 l2 l3 l4 : Option Value} {x : Nat} (hp : gPk l3 = true) (k : gEx t (pc + 2) (l0 :: l1 :: l2 :: l3 :: some (.ref x) :: L) st K) : gEx ((.astore 4, a) :: t) pc (l0 :: l1 :: l2 :: l3 :: l4 :: L) (.ref x :: st) K := by
  have hg : gSet1 (l0 :: l1 :: l2 :: l3 :: l4 :: L) 4 (.ref x) = some (l0 :: l1 :: l2 :: l3 :: some (.ref x) :: L) := by
    unfold gSet1
    rw [if_pos ⟨by simp, (gPrev_of (i := 3) rfl hp)⟩]
    rfl
  refine gx_one (L' := l0 :: l1 :: l2 :: l3 :: some (.ref x) :: L) (st' := st) ?_ k
  show (match gSet1 (l0 :: l1 :: l2 :: l3 :: l4 :: L) 4 (.ref x) with | some L' => some (L', st) | none => none) = _
  rw [hg]
theorem gx_astoreN_4 {l0 l1 l2 l3 l4 : Option Value} (hp : gPk l3 = true) (k : gEx t (pc + 2) (l0 :: l1 :: l2 :: l3 :: some (.null) :: L) st K) : gEx ((.astore 4, a) :: t) pc (l0 :: l1 :: l2 :: l3 :: l4 :: L) (.null :: st) K := by
  have hg : gSet1 (l0 :: l1 :: l2 :: l3 :: l4 :: L) 4 (.null) = some (l0 :: l1 :: l2 :: l3 :: some (.null) :: L) := by
    unfold gSet1
    rw [if_pos ⟨by simp, (gPrev_of (i := 3) rfl hp)⟩]
    rfl
  refine gx_one (L' := l0 :: l1 :: l2 :: l3 :: some (.null) :: L) (st' := st) ?_ k
  show (match gSet1 (l0 :: l1 :: l2 :: l3 :: l4 :: L) 4 (.null) with | some L' => some (L', st) | none => none) = _
  rw [hg]
theorem gx_fstore_4 {l0 l1 l2 l3 l4 : Option Value} {x : UInt32} (hp : gPk l3 = true) (k : gEx t (pc + 2) (l0 :: l1 :: l2 :: l3 :: some (.float x) :: L) st K) : gEx ((.fstore 4, a) :: t) pc (l0 :: l1 :: l2 :: l3 :: l4 :: L) (.float x :: st) K := by
  have hg : gSet1 (l0 :: l1 :: l2 :: l3 :: l4 :: L) 4 (.float x) = some (l0 :: l1 :: l2 :: l3 :: some (.float x) :: L) := by
    unfold gSet1
    rw [if_pos ⟨by simp, (gPrev_of (i := 3) rfl hp)⟩]
    rfl
  refine gx_one (L' := l0 :: l1 :: l2 :: l3 :: some (.float x) :: L) (st' := st) ?_ k
  show (match gSet1 (l0 :: l1 :: l2 :: l3 :: l4 :: L) 4 (.float x) with | some L' => some (L', st) | none => none) = _
  rw [hg]
theorem gx_iinc_4 {l0 l1 l2 l3 : Option Value} {n : Int} {x y : Int32} (hp : gPk l3 = true) (k : gEx t (pc + 3) (l0 :: l1 :: l2 :: l3 :: some (.int (x + y)) :: L) st K) : gEx ((.iinc 4 n, .int y) :: t) pc (l0 :: l1 :: l2 :: l3 :: some (.int x) :: L) st K := by
  have hg : gSet1 (l0 :: l1 :: l2 :: l3 :: some (.int x) :: L) 4 (.int (x + y)) = some (l0 :: l1 :: l2 :: l3 :: some (.int (x + y)) :: L) := by
    unfold gSet1
    rw [if_pos ⟨by simp, (gPrev_of (i := 3) rfl hp)⟩]
    rfl
  have hh : gGet (l0 :: l1 :: l2 :: l3 :: some (.int x) :: L) 4 = some (.int x) := rfl
  refine gx_one (L' := l0 :: l1 :: l2 :: l3 :: some (.int (x + y)) :: L) (st' := st) ?_ k
  unfold gP1
  simp only [hh, hg]
theorem gx_dstore_4 {l0 l1 l2 l3 l4 l5 : Option Value} {x : UInt64} (hp : gPk l3 = true) (k : gEx t (pc + 2) (l0 :: l1 :: l2 :: l3 :: some (.double x) :: none :: L) st K) : gEx ((.dstore 4, a) :: t) pc (l0 :: l1 :: l2 :: l3 :: l4 :: l5 :: L) (.double x :: st) K := by
  have hg : gSet2 (l0 :: l1 :: l2 :: l3 :: l4 :: l5 :: L) 4 (.double x) = some (l0 :: l1 :: l2 :: l3 :: some (.double x) :: none :: L) := by
    unfold gSet2
    rw [if_pos ⟨by simp, (gPrev_of (i := 3) rfl hp)⟩]
    rfl
  refine gx_one (L' := l0 :: l1 :: l2 :: l3 :: some (.double x) :: none :: L) (st' := st) ?_ k
  unfold gP1
  simp only [hg]
theorem gx_iload_5 {l0 l1 l2 l3 l4 : Option Value} {x : Int32} (k : gEx t (pc + 2) (l0 :: l1 :: l2 :: l3 :: l4 :: some (.int x) :: L) (.int x :: st) K) : gEx ((.iload 5, a) :: t) pc (l0 :: l1 :: l2 :: l3 :: l4 :: some (.int x) :: L) st K := k
theorem gx_aload_5 {l0 l1 l2 l3 l4 : Option Value} {x : Nat} (k : gEx t (pc + 2) (l0 :: l1 :: l2 :: l3 :: l4 :: some (.ref x) :: L) (.ref x :: st) K) : gEx ((.aload 5, a) :: t) pc (l0 :: l1 :: l2 :: l3 :: l4 :: some (.ref x) :: L) st K := k
theorem gx_aloadN_5 {l0 l1 l2 l3 l4 : Option Value} (k : gEx t (pc + 2) (l0 :: l1 :: l2 :: l3 :: l4 :: some (.null) :: L) (.null :: st) K) : gEx ((.aload 5, a) :: t) pc (l0 :: l1 :: l2 :: l3 :: l4 :: some (.null) :: L) st K := k
theorem gx_fload_5 {l0 l1 l2 l3 l4 : Option Value} {x : UInt32} (k : gEx t (pc + 2) (l0 :: l1 :: l2 :: l3 :: l4 :: some (.float x) :: L) (.float x :: st) K) : gEx ((.fload 5, a) :: t) pc (l0 :: l1 :: l2 :: l3 :: l4 :: some (.float x) :: L) st K := k
theorem gx_dload_5 {l0 l1 l2 l3 l4 : Option Value} {x : UInt64} (k : gEx t (pc + 2) (l0 :: l1 :: l2 :: l3 :: l4 :: some (.double x) :: L) (.double x :: st) K) : gEx ((.dload 5, a) :: t) pc (l0 :: l1 :: l2 :: l3 :: l4 :: some (.double x) :: L) st K := k
theorem gx_istore_5 {l0 l1 l2 l3 l4 l5 : Option Value} {x : Int32} (hp : gPk l4 = true) (k : gEx t (pc + 2) (l0 :: l1 :: l2 :: l3 :: l4 :: some (.int x) :: L) st K) : gEx ((.istore 5, a) :: t) pc (l0 :: l1 :: l2 :: l3 :: l4 :: l5 :: L) (.int x :: st) K := by
  have hg : gSet1 (l0 :: l1 :: l2 :: l3 :: l4 :: l5 :: L) 5 (.int x) = some (l0 :: l1 :: l2 :: l3 :: l4 :: some (.int x) :: L) := by
    unfold gSet1
    rw [if_pos ⟨by simp, (gPrev_of (i := 4) rfl hp)⟩]
    rfl
  refine gx_one (L' := l0 :: l1 :: l2 :: l3 :: l4 :: some (.int x) :: L) (st' := st) ?_ k
  show (match gSet1 (l0 :: l1 :: l2 :: l3 :: l4 :: l5 :: L) 5 (.int x) with | some L' => some (L', st) | none => none) = _
  rw [hg]
theorem gx_astore_5 {l0 l1 l2 l3 l4 l5 : Option Value} {x : Nat} (hp : gPk l4 = true) (k : gEx t (pc + 2) (l0 :: l1 :: l2 :: l3 :: l4 :: some (.ref x) :: L) st K) : gEx ((.astore 5, a) :: t) pc (l0 :: l1 :: l2 :: l3 :: l4 :: l5 :: L) (.ref x :: st) K := by
  have hg : gSet1 (l0 :: l1 :: l2 :: l3 :: l4 :: l5 :: L) 5 (.ref x) = some (l0 :: l1 :: l2 :: l3 :: l4 :: some (.ref x) :: L) := by
    unfold gSet1
    rw [if_pos ⟨by simp, (gPrev_of (i := 4) rfl hp)⟩]
    rfl
  refine gx_one (L' := l0 :: l1 :: l2 :: l3 :: l4 :: some (.ref x) :: L) (st' := st) ?_ k
  show (match gSet1 (l0 :: l1 :: l2 :: l3 :: l4 :: l5 :: L) 5 (.ref x) with | some L' => some (L', st) | none => none) = _
  rw [hg]
theorem gx_astoreN_5 {l0 l1 l2 l3 l4 l5 : Option Value} (hp : gPk l4 = true) (k : gEx t (pc + 2) (l0 :: l1 :: l2 :: l3 :: l4 :: some (.null) :: L) st K) : gEx ((.astore 5, a) :: t) pc (l0 :: l1 :: l2 :: l3 :: l4 :: l5 :: L) (.null :: st) K := by
  have hg : gSet1 (l0 :: l1 :: l2 :: l3 :: l4 :: l5 :: L) 5 (.null) = some (l0 :: l1 :: l2 :: l3 :: l4 :: some (.null) :: L) := by
    unfold gSet1
    rw [if_pos ⟨by simp, (gPrev_of (i := 4) rfl hp)⟩]
    rfl
  refine gx_one (L' := l0 :: l1 :: l2 :: l3 :: l4 :: some (.null) :: L) (st' := st) ?_ k
  show (match gSet1 (l0 :: l1 :: l2 :: l3 :: l4 :: l5 :: L) 5 (.null) with | some L' => some (L', st) | none => none) = _
  rw [hg]
theorem gx_fstore_5 {l0 l1 l2 l3 l4 l5 : Option Value} {x : UInt32} (hp : gPk l4 = true) (k : gEx t (pc + 2) (l0 :: l1 :: l2 :: l3 :: l4 :: some (.float x) :: L) st K) : gEx ((.fstore 5, a) :: t) pc (l0 :: l1 :: l2 :: l3 :: l4 :: l5 :: L) (.float x :: st) K := by
  have hg : gSet1 (l0 :: l1 :: l2 :: l3 :: l4 :: l5 :: L) 5 (.float x) = some (l0 :: l1 :: l2 :: l3 :: l4 :: some (.float x) :: L) := by
    unfold gSet1
    rw [if_pos ⟨by simp, (gPrev_of (i := 4) rfl hp)⟩]
    rfl
  refine gx_one (L' := l0 :: l1 :: l2 :: l3 :: l4 :: some (.float x) :: L) (st' := st) ?_ k
  show (match gSet1 (l0 :: l1 :: l2 :: l3 :: l4 :: l5 :: L) 5 (.float x) with | some L' => some (L', st) | none => none) = _
  rw [hg]
theorem gx_iinc_5 {l0 l1 l2 l3 l4 : Option Value} {n : Int} {x y : Int32} (hp : gPk l4 = true) (k : gEx t (pc + 3) (l0 :: l1 :: l2 :: l3 :: l4 :: some (.int (x + y)) :: L) st K) : gEx ((.iinc 5 n, .int y) :: t) pc (l0 :: l1 :: l2 :: l3 :: l4 :: some (.int x) :: L) st K := by
  have hg : gSet1 (l0 :: l1 :: l2 :: l3 :: l4 :: some (.int x) :: L) 5 (.int (x + y)) = some (l0 :: l1 :: l2 :: l3 :: l4 :: some (.int (x + y)) :: L) := by
    unfold gSet1
    rw [if_pos ⟨by simp, (gPrev_of (i := 4) rfl hp)⟩]
    rfl
  have hh : gGet (l0 :: l1 :: l2 :: l3 :: l4 :: some (.int x) :: L) 5 = some (.int x) := rfl
  refine gx_one (L' := l0 :: l1 :: l2 :: l3 :: l4 :: some (.int (x + y)) :: L) (st' := st) ?_ k
  unfold gP1
  simp only [hh, hg]
theorem gx_dstore_5 {l0 l1 l2 l3 l4 l5 l6 : Option Value} {x : UInt64} (hp : gPk l4 = true) (k : gEx t (pc + 2) (l0 :: l1 :: l2 :: l3 :: l4 :: some (.double x) :: none :: L) st K) : gEx ((.dstore 5, a) :: t) pc (l0 :: l1 :: l2 :: l3 :: l4 :: l5 :: l6 :: L) (.double x :: st) K := by
  have hg : gSet2 (l0 :: l1 :: l2 :: l3 :: l4 :: l5 :: l6 :: L) 5 (.double x) = some (l0 :: l1 :: l2 :: l3 :: l4 :: some (.double x) :: none :: L) := by
    unfold gSet2
    rw [if_pos ⟨by simp, (gPrev_of (i := 4) rfl hp)⟩]
    rfl
  refine gx_one (L' := l0 :: l1 :: l2 :: l3 :: l4 :: some (.double x) :: none :: L) (st' := st) ?_ k
  unfold gP1
  simp only [hg]
theorem gx_iload_6 {l0 l1 l2 l3 l4 l5 : Option Value} {x : Int32} (k : gEx t (pc + 2) (l0 :: l1 :: l2 :: l3 :: l4 :: l5 :: some (.int x) :: L) (.int x :: st) K) : gEx ((.iload 6, a) :: t) pc (l0 :: l1 :: l2 :: l3 :: l4 :: l5 :: some (.int x) :: L) st K := k
theorem gx_aload_6 {l0 l1 l2 l3 l4 l5 : Option Value} {x : Nat} (k : gEx t (pc + 2) (l0 :: l1 :: l2 :: l3 :: l4 :: l5 :: some (.ref x) :: L) (.ref x :: st) K) : gEx ((.aload 6, a) :: t) pc (l0 :: l1 :: l2 :: l3 :: l4 :: l5 :: some (.ref x) :: L) st K := k
theorem gx_aloadN_6 {l0 l1 l2 l3 l4 l5 : Option Value} (k : gEx t (pc + 2) (l0 :: l1 :: l2 :: l3 :: l4 :: l5 :: some (.null) :: L) (.null :: st) K) : gEx ((.aload 6, a) :: t) pc (l0 :: l1 :: l2 :: l3 :: l4 :: l5 :: some (.null) :: L) st K := k
theorem gx_fload_6 {l0 l1 l2 l3 l4 l5 : Option Value} {x : UInt32} (k : gEx t (pc + 2) (l0 :: l1 :: l2 :: l3 :: l4 :: l5 :: some (.float x) :: L) (.float x :: st) K) : gEx ((.fload 6, a) :: t) pc (l0 :: l1 :: l2 :: l3 :: l4 :: l5 :: some (.float x) :: L) st K := k
theorem gx_dload_6 {l0 l1 l2 l3 l4 l5 : Option Value} {x : UInt64} (k : gEx t (pc + 2) (l0 :: l1 :: l2 :: l3 :: l4 :: l5 :: some (.double x) :: L) (.double x :: st) K) : gEx ((.dload 6, a) :: t) pc (l0 :: l1 :: l2 :: l3 :: l4 :: l5 :: some (.double x) :: L) st K := k
theorem gx_istore_6 {l0 l1 l2 l3 l4 l5 l6 : Option Value} {x : Int32} (hp : gPk l5 = true) (k : gEx t (pc + 2) (l0 :: l1 :: l2 :: l3 :: l4 :: l5 :: some (.int x) :: L) st K) : gEx ((.istore 6, a) :: t) pc (l0 :: l1 :: l2 :: l3 :: l4 :: l5 :: l6 :: L) (.int x :: st) K := by
  have hg : gSet1 (l0 :: l1 :: l2 :: l3 :: l4 :: l5 :: l6 :: L) 6 (.int x) = some (l0 :: l1 :: l2 :: l3 :: l4 :: l5 :: some (.int x) :: L) := by
    unfold gSet1
    rw [if_pos ⟨by simp, (gPrev_of (i := 5) rfl hp)⟩]
    rfl
  refine gx_one (L' := l0 :: l1 :: l2 :: l3 :: l4 :: l5 :: some (.int x) :: L) (st' := st) ?_ k
  show (match gSet1 (l0 :: l1 :: l2 :: l3 :: l4 :: l5 :: l6 :: L) 6 (.int x) with | some L' => some (L', st) | none => none) = _
  rw [hg]
theorem gx_astore_6 {l0 l1 l2 l3 l4 l5 l6 : Option Value} {x : Nat} (hp : gPk l5 = true) (k : gEx t (pc + 2) (l0 :: l1 :: l2 :: l3 :: l4 :: l5 :: some (.ref x) :: L) st K) : gEx ((.astore 6, a) :: t) pc (l0 :: l1 :: l2 :: l3 :: l4 :: l5 :: l6 :: L) (.ref x :: st) K := by
  have hg : gSet1 (l0 :: l1 :: l2 :: l3 :: l4 :: l5 :: l6 :: L) 6 (.ref x) = some (l0 :: l1 :: l2 :: l3 :: l4 :: l5 :: some (.ref x) :: L) := by
    unfold gSet1
    rw [if_pos ⟨by simp, (gPrev_of (i := 5) rfl hp)⟩]
    rfl
  refine gx_one (L' := l0 :: l1 :: l2 :: l3 :: l4 :: l5 :: some (.ref x) :: L) (st' := st) ?_ k
  show (match gSet1 (l0 :: l1 :: l2 :: l3 :: l4 :: l5 :: l6 :: L) 6 (.ref x) with | some L' => some (L', st) | none => none) = _
  rw [hg]
theorem gx_astoreN_6 {l0 l1 l2 l3 l4 l5 l6 : Option Value} (hp : gPk l5 = true) (k : gEx t (pc + 2) (l0 :: l1 :: l2 :: l3 :: l4 :: l5 :: some (.null) :: L) st K) : gEx ((.astore 6, a) :: t) pc (l0 :: l1 :: l2 :: l3 :: l4 :: l5 :: l6 :: L) (.null :: st) K := by
  have hg : gSet1 (l0 :: l1 :: l2 :: l3 :: l4 :: l5 :: l6 :: L) 6 (.null) = some (l0 :: l1 :: l2 :: l3 :: l4 :: l5 :: some (.null) :: L) := by
    unfold gSet1
    rw [if_pos ⟨by simp, (gPrev_of (i := 5) rfl hp)⟩]
    rfl
  refine gx_one (L' := l0 :: l1 :: l2 :: l3 :: l4 :: l5 :: some (.null) :: L) (st' := st) ?_ k
  show (match gSet1 (l0 :: l1 :: l2 :: l3 :: l4 :: l5 :: l6 :: L) 6 (.null) with | some L' => some (L', st) | none => none) = _
  rw [hg]
theorem gx_fstore_6 {l0 l1 l2 l3 l4 l5 l6 : Option Value} {x : UInt32} (hp : gPk l5 = true) (k : gEx t (pc + 2) (l0 :: l1 :: l2 :: l3 :: l4 :: l5 :: some (.float x) :: L) st K) : gEx ((.fstore 6, a) :: t) pc (l0 :: l1 :: l2 :: l3 :: l4 :: l5 :: l6 :: L) (.float x :: st) K := by
  have hg : gSet1 (l0 :: l1 :: l2 :: l3 :: l4 :: l5 :: l6 :: L) 6 (.float x) = some (l0 :: l1 :: l2 :: l3 :: l4 :: l5 :: some (.float x) :: L) := by
    unfold gSet1
    rw [if_pos ⟨by simp, (gPrev_of (i := 5) rfl hp)⟩]
    rfl
  refine gx_one (L' := l0 :: l1 :: l2 :: l3 :: l4 :: l5 :: some (.float x) :: L) (st' := st) ?_ k
  show (match gSet1 (l0 :: l1 :: l2 :: l3 :: l4 :: l5 :: l6 :: L) 6 (.float x) with | some L' => some (L', st) | none => none) = _
  rw [hg]
theorem gx_iinc_6 {l0 l1 l2 l3 l4 l5 : Option Value} {n : Int} {x y : Int32} (hp : gPk l5 = true) (k : gEx t (pc + 3) (l0 :: l1 :: l2 :: l3 :: l4 :: l5 :: some (.int (x + y)) :: L) st K) : gEx ((.iinc 6 n, .int y) :: t) pc (l0 :: l1 :: l2 :: l3 :: l4 :: l5 :: some (.int x) :: L) st K := by
  have hg : gSet1 (l0 :: l1 :: l2 :: l3 :: l4 :: l5 :: some (.int x) :: L) 6 (.int (x + y)) = some (l0 :: l1 :: l2 :: l3 :: l4 :: l5 :: some (.int (x + y)) :: L) := by
    unfold gSet1
    rw [if_pos ⟨by simp, (gPrev_of (i := 5) rfl hp)⟩]
    rfl
  have hh : gGet (l0 :: l1 :: l2 :: l3 :: l4 :: l5 :: some (.int x) :: L) 6 = some (.int x) := rfl
  refine gx_one (L' := l0 :: l1 :: l2 :: l3 :: l4 :: l5 :: some (.int (x + y)) :: L) (st' := st) ?_ k
  unfold gP1
  simp only [hh, hg]
theorem gx_dstore_6 {l0 l1 l2 l3 l4 l5 l6 l7 : Option Value} {x : UInt64} (hp : gPk l5 = true) (k : gEx t (pc + 2) (l0 :: l1 :: l2 :: l3 :: l4 :: l5 :: some (.double x) :: none :: L) st K) : gEx ((.dstore 6, a) :: t) pc (l0 :: l1 :: l2 :: l3 :: l4 :: l5 :: l6 :: l7 :: L) (.double x :: st) K := by
  have hg : gSet2 (l0 :: l1 :: l2 :: l3 :: l4 :: l5 :: l6 :: l7 :: L) 6 (.double x) = some (l0 :: l1 :: l2 :: l3 :: l4 :: l5 :: some (.double x) :: none :: L) := by
    unfold gSet2
    rw [if_pos ⟨by simp, (gPrev_of (i := 5) rfl hp)⟩]
    rfl
  refine gx_one (L' := l0 :: l1 :: l2 :: l3 :: l4 :: l5 :: some (.double x) :: none :: L) (st' := st) ?_ k
  unfold gP1
  simp only [hg]
theorem gx_iload_7 {l0 l1 l2 l3 l4 l5 l6 : Option Value} {x : Int32} (k : gEx t (pc + 2) (l0 :: l1 :: l2 :: l3 :: l4 :: l5 :: l6 :: some (.int x) :: L) (.int x :: st) K) : gEx ((.iload 7, a) :: t) pc (l0 :: l1 :: l2 :: l3 :: l4 :: l5 :: l6 :: some (.int x) :: L) st K := k
theorem gx_aload_7 {l0 l1 l2 l3 l4 l5 l6 : Option Value} {x : Nat} (k : gEx t (pc + 2) (l0 :: l1 :: l2 :: l3 :: l4 :: l5 :: l6 :: some (.ref x) :: L) (.ref x :: st) K) : gEx ((.aload 7, a) :: t) pc (l0 :: l1 :: l2 :: l3 :: l4 :: l5 :: l6 :: some (.ref x) :: L) st K := k
theorem gx_aloadN_7 {l0 l1 l2 l3 l4 l5 l6 : Option Value} (k : gEx t (pc + 2) (l0 :: l1 :: l2 :: l3 :: l4 :: l5 :: l6 :: some (.null) :: L) (.null :: st) K) : gEx ((.aload 7, a) :: t) pc (l0 :: l1 :: l2 :: l3 :: l4 :: l5 :: l6 :: some (.null) :: L) st K := k
theorem gx_fload_7 {l0 l1 l2 l3 l4 l5 l6 : Option Value} {x : UInt32} (k : gEx t (pc + 2) (l0 :: l1 :: l2 :: l3 :: l4 :: l5 :: l6 :: some (.float x) :: L) (.float x :: st) K) : gEx ((.fload 7, a) :: t) pc (l0 :: l1 :: l2 :: l3 :: l4 :: l5 :: l6 :: some (.float x) :: L) st K := k
theorem gx_dload_7 {l0 l1 l2 l3 l4 l5 l6 : Option Value} {x : UInt64} (k : gEx t (pc + 2) (l0 :: l1 :: l2 :: l3 :: l4 :: l5 :: l6 :: some (.double x) :: L) (.double x :: st) K) : gEx ((.dload 7, a) :: t) pc (l0 :: l1 :: l2 :: l3 :: l4 :: l5 :: l6 :: some (.double x) :: L) st K := k
theorem gx_istore_7 {l0 l1 l2 l3 l4 l5 l6 l7 : Option Value} {x : Int32} (hp : gPk l6 = true) (k : gEx t (pc + 2) (l0 :: l1 :: l2 :: l3 :: l4 :: l5 :: l6 :: some (.int x) :: L) st K) : gEx ((.istore 7, a) :: t) pc (l0 :: l1 :: l2 :: l3 :: l4 :: l5 :: l6 :: l7 :: L) (.int x :: st) K := by
  have hg : gSet1 (l0 :: l1 :: l2 :: l3 :: l4 :: l5 :: l6 :: l7 :: L) 7 (.int x) = some (l0 :: l1 :: l2 :: l3 :: l4 :: l5 :: l6 :: some (.int x) :: L) := by
    unfold gSet1
    rw [if_pos ⟨by simp, (gPrev_of (i := 6) rfl hp)⟩]
    rfl
  refine gx_one (L' := l0 :: l1 :: l2 :: l3 :: l4 :: l5 :: l6 :: some (.int x) :: L) (st' := st) ?_ k
  show (match gSet1 (l0 :: l1 :: l2 :: l3 :: l4 :: l5 :: l6 :: l7 :: L) 7 (.int x) with | some L' => some (L', st) | none => none) = _
  rw [hg]
theorem gx_astore_7 {l0 l1 l2 l3 l4 l5 l6 l7 : Option Value} {x : Nat} (hp : gPk l6 = true) (k : gEx t (pc + 2) (l0 :: l1 :: l2 :: l3 :: l4 :: l5 :: l6 :: some (.ref x) :: L) st K) : gEx ((.astore 7, a) :: t) pc (l0 :: l1 :: l2 :: l3 :: l4 :: l5 :: l6 :: l7 :: L) (.ref x :: st) K := by
  have hg : gSet1 (l0 :: l1 :: l2 :: l3 :: l4 :: l5 :: l6 :: l7 :: L) 7 (.ref x) = some (l0 :: l1 :: l2 :: l3 :: l4 :: l5 :: l6 :: some (.ref x) :: L) := by
    unfold gSet1
    rw [if_pos ⟨by simp, (gPrev_of (i := 6) rfl hp)⟩]
    rfl
  refine gx_one (L' := l0 :: l1 :: l2 :: l3 :: l4 :: l5 :: l6 :: some (.ref x) :: L) (st' := st) ?_ k
  show (match gSet1 (l0 :: l1 :: l2 :: l3 :: l4 :: l5 :: l6 :: l7 :: L) 7 (.ref x) with | some L' => some (L', st) | none => none) = _
  rw [hg]
theorem gx_astoreN_7 {l0 l1 l2 l3 l4 l5 l6 l7 : Option Value} (hp : gPk l6 = true) (k : gEx t (pc + 2) (l0 :: l1 :: l2 :: l3 :: l4 :: l5 :: l6 :: some (.null) :: L) st K) : gEx ((.astore 7, a) :: t) pc (l0 :: l1 :: l2 :: l3 :: l4 :: l5 :: l6 :: l7 :: L) (.null :: st) K := by
  have hg : gSet1 (l0 :: l1 :: l2 :: l3 :: l4 :: l5 :: l6 :: l7 :: L) 7 (.null) = some (l0 :: l1 :: l2 :: l3 :: l4 :: l5 :: l6 :: some (.null) :: L) := by
    unfold gSet1
    rw [if_pos ⟨by simp, (gPrev_of (i := 6) rfl hp)⟩]
    rfl
  refine gx_one (L' := l0 :: l1 :: l2 :: l3 :: l4 :: l5 :: l6 :: some (.null) :: L) (st' := st) ?_ k
  show (match gSet1 (l0 :: l1 :: l2 :: l3 :: l4 :: l5 :: l6 :: l7 :: L) 7 (.null) with | some L' => some (L', st) | none => none) = _
  rw [hg]
theorem gx_fstore_7 {l0 l1 l2 l3 l4 l5 l6 l7 : Option Value} {x : UInt32} (hp : gPk l6 = true) (k : gEx t (pc + 2) (l0 :: l1 :: l2 :: l3 :: l4 :: l5 :: l6 :: some (.float x) :: L) st K) : gEx ((.fstore 7, a) :: t) pc (l0 :: l1 :: l2 :: l3 :: l4 :: l5 :: l6 :: l7 :: L) (.float x :: st) K := by
  have hg : gSet1 (l0 :: l1 :: l2 :: l3 :: l4 :: l5 :: l6 :: l7 :: L) 7 (.float x) = some (l0 :: l1 :: l2 :: l3 :: l4 :: l5 :: l6 :: some (.float x) :: L) := by
    unfold gSet1
    rw [if_pos ⟨by simp, (gPrev_of (i := 6) rfl hp)⟩]
    rfl
  refine gx_one (L' := l0 :: l1 :: l2 :: l3 :: l4 :: l5 :: l6 :: some (.float x) :: L) (st' := st) ?_ k
  show (match gSet1 (l0 :: l1 :: l2 :: l3 :: l4 :: l5 :: l6 :: l7 :: L) 7 (.float x) with | some L' => some (L', st) | none => none) = _
  rw [hg]
theorem gx_iinc_7 {l0 l1 l2 l3 l4 l5 l6 : Option Value} {n : Int} {x y : Int32} (hp : gPk l6 = true) (k : gEx t (pc + 3) (l0 :: l1 :: l2 :: l3 :: l4 :: l5 :: l6 :: some (.int (x + y)) :: L) st K) : gEx ((.iinc 7 n, .int y) :: t) pc (l0 :: l1 :: l2 :: l3 :: l4 :: l5 :: l6 :: some (.int x) :: L) st K := by
  have hg : gSet1 (l0 :: l1 :: l2 :: l3 :: l4 :: l5 :: l6 :: some (.int x) :: L) 7 (.int (x + y)) = some (l0 :: l1 :: l2 :: l3 :: l4 :: l5 :: l6 :: some (.int (x + y)) :: L) := by
    unfold gSet1
    rw [if_pos ⟨by simp, (gPrev_of (i := 6) rfl hp)⟩]
    rfl
  have hh : gGet (l0 :: l1 :: l2 :: l3 :: l4 :: l5 :: l6 :: some (.int x) :: L) 7 = some (.int x) := rfl
  refine gx_one (L' := l0 :: l1 :: l2 :: l3 :: l4 :: l5 :: l6 :: some (.int (x + y)) :: L) (st' := st) ?_ k
  unfold gP1
  simp only [hh, hg]
theorem gx_dstore_7 {l0 l1 l2 l3 l4 l5 l6 l7 l8 : Option Value} {x : UInt64} (hp : gPk l6 = true) (k : gEx t (pc + 2) (l0 :: l1 :: l2 :: l3 :: l4 :: l5 :: l6 :: some (.double x) :: none :: L) st K) : gEx ((.dstore 7, a) :: t) pc (l0 :: l1 :: l2 :: l3 :: l4 :: l5 :: l6 :: l7 :: l8 :: L) (.double x :: st) K := by
  have hg : gSet2 (l0 :: l1 :: l2 :: l3 :: l4 :: l5 :: l6 :: l7 :: l8 :: L) 7 (.double x) = some (l0 :: l1 :: l2 :: l3 :: l4 :: l5 :: l6 :: some (.double x) :: none :: L) := by
    unfold gSet2
    rw [if_pos ⟨by simp, (gPrev_of (i := 6) rfl hp)⟩]
    rfl
  refine gx_one (L' := l0 :: l1 :: l2 :: l3 :: l4 :: l5 :: l6 :: some (.double x) :: none :: L) (st' := st) ?_ k
  unfold gP1
  simp only [hg]
theorem gx_iload_8 {l0 l1 l2 l3 l4 l5 l6 l7 : Option Value} {x : Int32} (k : gEx t (pc + 2) (l0 :: l1 :: l2 :: l3 :: l4 :: l5 :: l6 :: l7 :: some (.int x) :: L) (.int x :: st) K) : gEx ((.iload 8, a) :: t) pc (l0 :: l1 :: l2 :: l3 :: l4 :: l5 :: l6 :: l7 :: some (.int x) :: L) st K := k
theorem gx_aload_8 {l0 l1 l2 l3 l4 l5 l6 l7 : Option Value} {x : Nat} (k : gEx t (pc + 2) (l0 :: l1 :: l2 :: l3 :: l4 :: l5 :: l6 :: l7 :: some (.ref x) :: L) (.ref x :: st) K) : gEx ((.aload 8, a) :: t) pc (l0 :: l1 :: l2 :: l3 :: l4 :: l5 :: l6 :: l7 :: some (.ref x) :: L) st K := k
theorem gx_aloadN_8 {l0 l1 l2 l3 l4 l5 l6 l7 : Option Value} (k : gEx t (pc + 2) (l0 :: l1 :: l2 :: l3 :: l4 :: l5 :: l6 :: l7 :: some (.null) :: L) (.null :: st) K) : gEx ((.aload 8, a) :: t) pc (l0 :: l1 :: l2 :: l3 :: l4 :: l5 :: l6 :: l7 :: some (.null) :: L) st K := k
theorem gx_fload_8 {l0 l1 l2 l3 l4 l5 l6 l7 : Option Value} {x : UInt32} (k : gEx t (pc + 2) (l0 :: l1 :: l2 :: l3 :: l4 :: l5 :: l6 :: l7 :: some (.float x) :: L) (.float x :: st) K) : gEx ((.fload 8, a) :: t) pc (l0 :: l1 :: l2 :: l3 :: l4 :: l5 :: l6 :: l7 :: some (.float x) :: L) st K := k
theorem gx_dload_8 {l0 l1 l2 l3 l4 l5 l6 l7 : Option Value} {x : UInt64} (k : gEx t (pc + 2) (l0 :: l1 :: l2 :: l3 :: l4 :: l5 :: l6 :: l7 :: some (.double x) :: L) (.double x :: st) K) : gEx ((.dload 8, a) :: t) pc (l0 :: l1 :: l2 :: l3 :: l4 :: l5 :: l6 :: l7 :: some (.double x) :: L) st K := k
theorem gx_istore_8 {l0 l1 l2 l3 l4 l5 l6 l7 l8 : Option Value} {x : Int32} (hp : gPk l7 = true) (k : gEx t (pc + 2) (l0 :: l1 :: l2 :: l3 :: l4 :: l5 :: l6 :: l7 :: some (.int x) :: L) st K) : gEx ((.istore 8, a) :: t) pc (l0 :: l1 :: l2 :: l3 :: l4 :: l5 :: l6 :: l7 :: l8 :: L) (.int x :: st) K := by
  have hg : gSet1 (l0 :: l1 :: l2 :: l3 :: l4 :: l5 :: l6 :: l7 :: l8 :: L) 8 (.int x) = some (l0 :: l1 :: l2 :: l3 :: l4 :: l5 :: l6 :: l7 :: some (.int x) :: L) := by
    unfold gSet1
    rw [if_pos ⟨by simp, (gPrev_of (i := 7) rfl hp)⟩]
    rfl
  refine gx_one (L' := l0 :: l1 :: l2 :: l3 :: l4 :: l5 :: l6 :: l7 :: some (.int x) :: L) (st' := st) ?_ k
  show (match gSet1 (l0 :: l1 :: l2 :: l3 :: l4 :: l5 :: l6 :: l7 :: l8 :: L) 8 (.int x) with | some L' => some (L', st) | none => none) = _
  rw [hg]
theorem gx_astore_8 {l0 l1 l2 l3 l4 l5 l6 l7 l8 : Option Value} {x : Nat} (hp : gPk l7 = true) (k : gEx t (pc + 2) (l0 :: l1 :: l2 :: l3 :: l4 :: l5 :: l6 :: l7 :: some (.ref x) :: L) st K) : gEx ((.astore 8, a) :: t) pc (l0 :: l1 :: l2 :: l3 :: l4 :: l5 :: l6 :: l7 :: l8 :: L) (.ref x :: st) K := by
  have hg : gSet1 (l0 :: l1 :: l2 :: l3 :: l4 :: l5 :: l6 :: l7 :: l8 :: L) 8 (.ref x) = some (l0 :: l1 :: l2 :: l3 :: l4 :: l5 :: l6 :: l7 :: some (.ref x) :: L) := by
    unfold gSet1
    rw [if_pos ⟨by simp, (gPrev_of (i := 7) rfl hp)⟩]
    rfl
  refine gx_one (L' := l0 :: l1 :: l2 :: l3 :: l4 :: l5 :: l6 :: l7 :: some (.ref x) :: L) (st' := st) ?_ k
  show (match gSet1 (l0 :: l1 :: l2 :: l3 :: l4 :: l5 :: l6 :: l7 :: l8 :: L) 8 (.ref x) with | some L' => some (L', st) | none => none) = _
  rw [hg]
theorem gx_astoreN_8 {l0 l1 l2 l3 l4 l5 l6 l7 l8 : Option Value} (hp : gPk l7 = true) (k : gEx t (pc + 2) (l0 :: l1 :: l2 :: l3 :: l4 :: l5 :: l6 :: l7 :: some (.null) :: L) st K) : gEx ((.astore 8, a) :: t) pc (l0 :: l1 :: l2 :: l3 :: l4 :: l5 :: l6 :: l7 :: l8 :: L) (.null :: st) K := by
  have hg : gSet1 (l0 :: l1 :: l2 :: l3 :: l4 :: l5 :: l6 :: l7 :: l8 :: L) 8 (.null) = some (l0 :: l1 :: l2 :: l3 :: l4 :: l5 :: l6 :: l7 :: some (.null) :: L) := by
    unfold gSet1
    rw [if_pos ⟨by simp, (gPrev_of (i := 7) rfl hp)⟩]
    rfl
  refine gx_one (L' := l0 :: l1 :: l2 :: l3 :: l4 :: l5 :: l6 :: l7 :: some (.null) :: L) (st' := st) ?_ k
  show (match gSet1 (l0 :: l1 :: l2 :: l3 :: l4 :: l5 :: l6 :: l7 :: l8 :: L) 8 (.null) with | some L' => some (L', st) | none => none) = _
  rw [hg]
theorem gx_fstore_8 {l0 l1 l2 l3 l4 l5 l6 l7 l8 : Option Value} {x : UInt32} (hp : gPk l7 = true) (k : gEx t (pc + 2) (l0 :: l1 :: l2 :: l3 :: l4 :: l5 :: l6 :: l7 :: some (.float x) :: L) st K) : gEx ((.fstore 8, a) :: t) pc (l0 :: l1 :: l2 :: l3 :: l4 :: l5 :: l6 :: l7 :: l8 :: L) (.float x :: st) K := by
  have hg : gSet1 (l0 :: l1 :: l2 :: l3 :: l4 :: l5 :: l6 :: l7 :: l8 :: L) 8 (.float x) = some (l0 :: l1 :: l2 :: l3 :: l4 :: l5 :: l6 :: l7 :: some (.float x) :: L) := by
    unfold gSet1
    rw [if_pos ⟨by simp, (gPrev_of (i := 7) rfl hp)⟩]
    rfl
  refine gx_one (L' := l0 :: l1 :: l2 :: l3 :: l4 :: l5 :: l6 :: l7 :: some (.float x) :: L) (st' := st) ?_ k
  show (match gSet1 (l0 :: l1 :: l2 :: l3 :: l4 :: l5 :: l6 :: l7 :: l8 :: L) 8 (.float x) with | some L' => some (L', st) | none => none) = _
  rw [hg]
theorem gx_iinc_8 {l0 l1 l2 l3 l4 l5 l6 l7 : Option Value} {n : Int} {x y : Int32} (hp : gPk l7 = true) (k : gEx t (pc + 3) (l0 :: l1 :: l2 :: l3 :: l4 :: l5 :: l6 :: l7 :: some (.int (x + y)) :: L) st K) : gEx ((.iinc 8 n, .int y) :: t) pc (l0 :: l1 :: l2 :: l3 :: l4 :: l5 :: l6 :: l7 :: some (.int x) :: L) st K := by
  have hg : gSet1 (l0 :: l1 :: l2 :: l3 :: l4 :: l5 :: l6 :: l7 :: some (.int x) :: L) 8 (.int (x + y)) = some (l0 :: l1 :: l2 :: l3 :: l4 :: l5 :: l6 :: l7 :: some (.int (x + y)) :: L) := by
    unfold gSet1
    rw [if_pos ⟨by simp, (gPrev_of (i := 7) rfl hp)⟩]
    rfl
  have hh : gGet (l0 :: l1 :: l2 :: l3 :: l4 :: l5 :: l6 :: l7 :: some (.int x) :: L) 8 = some (.int x) := rfl
  refine gx_one (L' := l0 :: l1 :: l2 :: l3 :: l4 :: l5 :: l6 :: l7 :: some (.int (x + y)) :: L) (st' := st) ?_ k
  unfold gP1
  simp only [hh, hg]
theorem gx_dstore_8 {l0 l1 l2 l3 l4 l5 l6 l7 l8 l9 : Option Value} {x : UInt64} (hp : gPk l7 = true) (k : gEx t (pc + 2) (l0 :: l1 :: l2 :: l3 :: l4 :: l5 :: l6 :: l7 :: some (.double x) :: none :: L) st K) : gEx ((.dstore 8, a) :: t) pc (l0 :: l1 :: l2 :: l3 :: l4 :: l5 :: l6 :: l7 :: l8 :: l9 :: L) (.double x :: st) K := by
  have hg : gSet2 (l0 :: l1 :: l2 :: l3 :: l4 :: l5 :: l6 :: l7 :: l8 :: l9 :: L) 8 (.double x) = some (l0 :: l1 :: l2 :: l3 :: l4 :: l5 :: l6 :: l7 :: some (.double x) :: none :: L) := by
    unfold gSet2
    rw [if_pos ⟨by simp, (gPrev_of (i := 7) rfl hp)⟩]
    rfl
  refine gx_one (L' := l0 :: l1 :: l2 :: l3 :: l4 :: l5 :: l6 :: l7 :: some (.double x) :: none :: L) (st' := st) ?_ k
  unfold gP1
  simp only [hg]
theorem gx_iload_9 {l0 l1 l2 l3 l4 l5 l6 l7 l8 : Option Value} {x : Int32} (k : gEx t (pc + 2) (l0 :: l1 :: l2 :: l3 :: l4 :: l5 :: l6 :: l7 :: l8 :: some (.int x) :: L) (.int x :: st) K) : gEx ((.iload 9, a) :: t) pc (l0 :: l1 :: l2 :: l3 :: l4 :: l5 :: l6 :: l7 :: l8 :: some (.int x) :: L) st K := k
theorem gx_aload_9 {l0 l1 l2 l3 l4 l5 l6 l7 l8 : Option Value} {x : Nat} (k : gEx t (pc + 2) (l0 :: l1 :: l2 :: l3 :: l4 :: l5 :: l6 :: l7 :: l8 :: some (.ref x) :: L) (.ref x :: st) K) : gEx ((.aload 9, a) :: t) pc (l0 :: l1 :: l2 :: l3 :: l4 :: l5 :: l6 :: l7 :: l8 :: some (.ref x) :: L) st K := k
theorem gx_aloadN_9 {l0 l1 l2 l3 l4 l5 l6 l7 l8 : Option Value} (k : gEx t (pc + 2) (l0 :: l1 :: l2 :: l3 :: l4 :: l5 :: l6 :: l7 :: l8 :: some (.null) :: L) (.null :: st) K) : gEx ((.aload 9, a) :: t) pc (l0 :: l1 :: l2 :: l3 :: l4 :: l5 :: l6 :: l7 :: l8 :: some (.null) :: L) st K := k
theorem gx_fload_9 {l0 l1 l2 l3 l4 l5 l6 l7 l8 : Option Value} {x : UInt32} (k : gEx t (pc + 2) (l0 :: l1 :: l2 :: l3 :: l4 :: l5 :: l6 :: l7 :: l8 :: some (.float x) :: L) (.float x :: st) K) : gEx ((.fload 9, a) :: t) pc (l0 :: l1 :: l2 :: l3 :: l4 :: l5 :: l6 :: l7 :: l8 :: some (.float x) :: L) st K := k
theorem gx_dload_9 {l0 l1 l2 l3 l4 l5 l6 l7 l8 : Option Value} {x : UInt64} (k : gEx t (pc + 2) (l0 :: l1 :: l2 :: l3 :: l4 :: l5 :: l6 :: l7 :: l8 :: some (.double x) :: L) (.double x :: st) K) : gEx ((.dload 9, a) :: t) pc (l0 :: l1 :: l2 :: l3 :: l4 :: l5 :: l6 :: l7 :: l8 :: some (.double x) :: L) st K := k
theorem gx_istore_9 {l0 l1 l2 l3 l4 l5 l6 l7 l8 l9 : Option Value} {x : Int32} (hp : gPk l8 = true) (k : gEx t (pc + 2) (l0 :: l1 :: l2 :: l3 :: l4 :: l5 :: l6 :: l7 :: l8 :: some (.int x) :: L) st K) : gEx ((.istore 9, a) :: t) pc (l0 :: l1 :: l2 :: l3 :: l4 :: l5 :: l6 :: l7 :: l8 :: l9 :: L) (.int x :: st) K := by
  have hg : gSet1 (l0 :: l1 :: l2 :: l3 :: l4 :: l5 :: l6 :: l7 :: l8 :: l9 :: L) 9 (.int x) = some (l0 :: l1 :: l2 :: l3 :: l4 :: l5 :: l6 :: l7 :: l8 :: some (.int x) :: L) := by
    unfold gSet1
    rw [if_pos ⟨by simp, (gPrev_of (i := 8) rfl hp)⟩]
    rfl
  refine gx_one (L' := l0 :: l1 :: l2 :: l3 :: l4 :: l5 :: l6 :: l7 :: l8 :: some (.int x) :: L) (st' := st) ?_ k
  show (match gSet1 (l0 :: l1 :: l2 :: l3 :: l4 :: l5 :: l6 :: l7 :: l8 :: l9 :: L) 9 (.int x) with | some L' => some (L', st) | none => none) = _
  rw [hg]
theorem gx_astore_9 {l0 l1 l2 l3 l4 l5 l6 l7 l8 l9 : Option Value} {x : Nat} (hp : gPk l8 = true) (k : gEx t (pc + 2) (l0 :: l1 :: l2 :: l3 :: l4 :: l5 :: l6 :: l7 :: l8 :: some (.ref x) :: L) st K) : gEx ((.astore 9, a) :: t) pc (l0 :: l1 :: l2 :: l3 :: l4 :: l5 :: l6 :: l7 :: l8 :: l9 :: L) (.ref x :: st) K := by
  have hg : gSet1 (l0 :: l1 :: l2 :: l3 :: l4 :: l5 :: l6 :: l7 :: l8 :: l9 :: L) 9 (.ref x) = some (l0 :: l1 :: l2 :: l3 :: l4 :: l5 :: l6 :: l7 :: l8 :: some (.ref x) :: L) := by
    unfold gSet1
    rw [if_pos ⟨by simp, (gPrev_of (i := 8) rfl hp)⟩]
    rfl
  refine gx_one (L' := l0 :: l1 :: l2 :: l3 :: l4 :: l5 :: l6 :: l7 :: l8 :: some (.ref x) :: L) (st' := st) ?_ k
  show (match gSet1 (l0 :: l1 :: l2 :: l3 :: l4 :: l5 :: l6 :: l7 :: l8 :: l9 :: L) 9 (.ref x) with | some L' => some (L', st) | none => none) = _
  rw [hg]
theorem gx_astoreN_9 {l0 l1 l2 l3 l4 l5 l6 l7 l8 l9 : Option Value} (hp : gPk l8 = true) (k : gEx t (pc + 2) (l0 :: l1 :: l2 :: l3 :: l4 :: l5 :: l6 :: l7 :: l8 :: some (.null) :: L) st K) : gEx ((.astore 9, a) :: t) pc (l0 :: l1 :: l2 :: l3 :: l4 :: l5 :: l6 :: l7 :: l8 :: l9 :: L) (.null :: st) K := by
  have hg : gSet1 (l0 :: l1 :: l2 :: l3 :: l4 :: l5 :: l6 :: l7 :: l8 :: l9 :: L) 9 (.null) = some (l0 :: l1 :: l2 :: l3 :: l4 :: l5 :: l6 :: l7 :: l8 :: some (.null) :: L) := by
    unfold gSet1
    rw [if_pos ⟨by simp, (gPrev_of (i := 8) rfl hp)⟩]
    rfl
  refine gx_one (L' := l0 :: l1 :: l2 :: l3 :: l4 :: l5 :: l6 :: l7 :: l8 :: some (.null) :: L) (st' := st) ?_ k
  show (match gSet1 (l0 :: l1 :: l2 :: l3 :: l4 :: l5 :: l6 :: l7 :: l8 :: l9 :: L) 9 (.null) with | some L' => some (L', st) | none => none) = _
  rw [hg]
theorem gx_fstore_9 {l0 l1 l2 l3 l4 l5 l6 l7 l8 l9 : Option Value} {x : UInt32} (hp : gPk l8 = true) (k : gEx t (pc + 2) (l0 :: l1 :: l2 :: l3 :: l4 :: l5 :: l6 :: l7 :: l8 :: some (.float x) :: L) st K) : gEx ((.fstore 9, a) :: t) pc (l0 :: l1 :: l2 :: l3 :: l4 :: l5 :: l6 :: l7 :: l8 :: l9 :: L) (.float x :: st) K := by
  have hg : gSet1 (l0 :: l1 :: l2 :: l3 :: l4 :: l5 :: l6 :: l7 :: l8 :: l9 :: L) 9 (.float x) = some (l0 :: l1 :: l2 :: l3 :: l4 :: l5 :: l6 :: l7 :: l8 :: some (.float x) :: L) := by
    unfold gSet1
    rw [if_pos ⟨by simp, (gPrev_of (i := 8) rfl hp)⟩]
    rfl
  refine gx_one (L' := l0 :: l1 :: l2 :: l3 :: l4 :: l5 :: l6 :: l7 :: l8 :: some (.float x) :: L) (st' := st) ?_ k
  show (match gSet1 (l0 :: l1 :: l2 :: l3 :: l4 :: l5 :: l6 :: l7 :: l8 :: l9 :: L) 9 (.float x) with | some L' => some (L', st) | none => none) = _
  rw [hg]
theorem gx_iinc_9 {l0 l1 l2 l3 l4 l5 l6 l7 l8 : Option Value} {n : Int} {x y : Int32} (hp : gPk l8 = true) (k : gEx t (pc + 3) (l0 :: l1 :: l2 :: l3 :: l4 :: l5 :: l6 :: l7 :: l8 :: some (.int (x + y)) :: L) st K) : gEx ((.iinc 9 n, .int y) :: t) pc (l0 :: l1 :: l2 :: l3 :: l4 :: l5 :: l6 :: l7 :: l8 :: some (.int x) :: L) st K := by
  have hg : gSet1 (l0 :: l1 :: l2 :: l3 :: l4 :: l5 :: l6 :: l7 :: l8 :: some (.int x) :: L) 9 (.int (x + y)) = some (l0 :: l1 :: l2 :: l3 :: l4 :: l5 :: l6 :: l7 :: l8 :: some (.int (x + y)) :: L) := by
    unfold gSet1
    rw [if_pos ⟨by simp, (gPrev_of (i := 8) rfl hp)⟩]
    rfl
  have hh : gGet (l0 :: l1 :: l2 :: l3 :: l4 :: l5 :: l6 :: l7 :: l8 :: some (.int x) :: L) 9 = some (.int x) := rfl
  refine gx_one (L' := l0 :: l1 :: l2 :: l3 :: l4 :: l5 :: l6 :: l7 :: l8 :: some (.int (x + y)) :: L) (st' := st) ?_ k
  unfold gP1
  simp only [hh, hg]
theorem gx_dstore_9 {l0 l1 l2 l3 l4 l5 l6 l7 l8 l9 l10 : Option Value} {x : UInt64} (hp : gPk l8 = true) (k : gEx t (pc + 2) (l0 :: l1 :: l2 :: l3 :: l4 :: l5 :: l6 :: l7 :: l8 :: some (.double x) :: none :: L) st K) : gEx ((.dstore 9, a) :: t) pc (l0 :: l1 :: l2 :: l3 :: l4 :: l5 :: l6 :: l7 :: l8 :: l9 :: l10 :: L) (.double x :: st) K := by
  have hg : gSet2 (l0 :: l1 :: l2 :: l3 :: l4 :: l5 :: l6 :: l7 :: l8 :: l9 :: l10 :: L) 9 (.double x) = some (l0 :: l1 :: l2 :: l3 :: l4 :: l5 :: l6 :: l7 :: l8 :: some (.double x) :: none :: L) := by
    unfold gSet2
    rw [if_pos ⟨by simp, (gPrev_of (i := 8) rfl hp)⟩]
    rfl
  refine gx_one (L' := l0 :: l1 :: l2 :: l3 :: l4 :: l5 :: l6 :: l7 :: l8 :: some (.double x) :: none :: L) (st' := st) ?_ k
  unfold gP1
  simp only [hg]
theorem gx_iload_10 {l0 l1 l2 l3 l4 l5 l6 l7 l8 l9 : Option Value} {x : Int32} (k : gEx t (pc + 2) (l0 :: l1 :: l2 :: l3 :: l4 :: l5 :: l6 :: l7 :: l8 :: l9 :: some (.int x) :: L) (.int x :: st) K) : gEx ((.iload 10, a) :: t) pc (l0 :: l1 :: l2 :: l3 :: l4 :: l5 :: l6 :: l7 :: l8 :: l9 :: some (.int x) :: L) st K := k
theorem gx_aload_10 {l0 l1 l2 l3 l4 l5 l6 l7 l8 l9 : Option Value} {x : Nat} (k : gEx t (pc + 2) (l0 :: l1 :: l2 :: l3 :: l4 :: l5 :: l6 :: l7 :: l8 :: l9 :: some (.ref x) :: L) (.ref x :: st) K) : gEx ((.aload 10, a) :: t) pc (l0 :: l1 :: l2 :: l3 :: l4 :: l5 :: l6 :: l7 :: l8 :: l9 :: some (.ref x) :: L) st K := k
theorem gx_aloadN_10 {l0 l1 l2 l3 l4 l5 l6 l7 l8 l9 : Option Value} (k : gEx t (pc + 2) (l0 :: l1 :: l2 :: l3 :: l4 :: l5 :: l6 :: l7 :: l8 :: l9 :: some (.null) :: L) (.null :: st) K) : gEx ((.aload 10, a) :: t) pc (l0 :: l1 :: l2 :: l3 :: l4 :: l5 :: l6 :: l7 :: l8 :: l9 :: some (.null) :: L) st K := k
theorem gx_fload_10 {l0 l1 l2 l3 l4 l5 l6 l7 l8 l9 : Option Value} {x : UInt32} (k : gEx t (pc + 2) (l0 :: l1 :: l2 :: l3 :: l4 :: l5 :: l6 :: l7 :: l8 :: l9 :: some (.float x) :: L) (.float x :: st) K) : gEx ((.fload 10, a) :: t) pc (l0 :: l1 :: l2 :: l3 :: l4 :: l5 :: l6 :: l7 :: l8 :: l9 :: some (.float x) :: L) st K := k
theorem gx_dload_10 {l0 l1 l2 l3 l4 l5 l6 l7 l8 l9 : Option Value} {x : UInt64} (k : gEx t (pc + 2) (l0 :: l1 :: l2 :: l3 :: l4 :: l5 :: l6 :: l7 :: l8 :: l9 :: some (.double x) :: L) (.double x :: st) K) : gEx ((.dload 10, a) :: t) pc (l0 :: l1 :: l2 :: l3 :: l4 :: l5 :: l6 :: l7 :: l8 :: l9 :: some (.double x) :: L) st K := k
theorem gx_istore_10 {l0 l1 l2 l3 l4 l5 l6 l7 l8 l9 l10 : Option Value} {x : Int32} (hp : gPk l9 = true) (k : gEx t (pc + 2) (l0 :: l1 :: l2 :: l3 :: l4 :: l5 :: l6 :: l7 :: l8 :: l9 :: some (.int x) :: L) st K) : gEx ((.istore 10, a) :: t) pc (l0 :: l1 :: l2 :: l3 :: l4 :: l5 :: l6 :: l7 :: l8 :: l9 :: l10 :: L) (.int x :: st) K := by
  have hg : gSet1 (l0 :: l1 :: l2 :: l3 :: l4 :: l5 :: l6 :: l7 :: l8 :: l9 :: l10 :: L) 10 (.int x) = some (l0 :: l1 :: l2 :: l3 :: l4 :: l5 :: l6 :: l7 :: l8 :: l9 :: some (.int x) :: L) := by
    unfold gSet1
    rw [if_pos ⟨by simp, (gPrev_of (i := 9) rfl hp)⟩]
    rfl
  refine gx_one (L' := l0 :: l1 :: l2 :: l3 :: l4 :: l5 :: l6 :: l7 :: l8 :: l9 :: some (.int x) :: L) (st' := st) ?_ k
  show (match gSet1 (l0 :: l1 :: l2 :: l3 :: l4 :: l5 :: l6 :: l7 :: l8 :: l9 :: l10 :: L) 10 (.int x) with | some L' => some (L', st) | none => none) = _
  rw [hg]
theorem gx_astore_10 {l0 l1 l2 l3 l4 l5 l6 l7 l8 l9 l10 : Option Value} {x : Nat} (hp : gPk l9 = true) (k : gEx t (pc + 2) (l0 :: l1 :: l2 :: l3 :: l4 :: l5 :: l6 :: l7 :: l8 :: l9 :: some (.ref x) :: L) st K) : gEx ((.astore 10, a) :: t) pc (l0 :: l1 :: l2 :: l3 :: l4 :: l5 :: l6 :: l7 :: l8 :: l9 :: l10 :: L) (.ref x :: st) K := by
  have hg : gSet1 (l0 :: l1 :: l2 :: l3 :: l4 :: l5 :: l6 :: l7 :: l8 :: l9 :: l10 :: L) 10 (.ref x) = some (l0 :: l1 :: l2 :: l3 :: l4 :: l5 :: l6 :: l7 :: l8 :: l9 :: some (.ref x) :: L) := by
    unfold gSet1
    rw [if_pos ⟨by simp, (gPrev_of (i := 9) rfl hp)⟩]
    rfl
  refine gx_one (L' := l0 :: l1 :: l2 :: l3 :: l4 :: l5 :: l6 :: l7 :: l8 :: l9 :: some (.ref x) :: L) (st' := st) ?_ k
  show (match gSet1 (l0 :: l1 :: l2 :: l3 :: l4 :: l5 :: l6 :: l7 :: l8 :: l9 :: l10 :: L) 10 (.ref x) with | some L' => some (L', st) | none => none) = _
  rw [hg]
theorem gx_astoreN_10 {l0 l1 l2 l3 l4 l5 l6 l7 l8 l9 l10 : Option Value} (hp : gPk l9 = true) (k : gEx t (pc + 2) (l0 :: l1 :: l2 :: l3 :: l4 :: l5 :: l6 :: l7 :: l8 :: l9 :: some (.null) :: L) st K) : gEx ((.astore 10, a) :: t) pc (l0 :: l1 :: l2 :: l3 :: l4 :: l5 :: l6 :: l7 :: l8 :: l9 :: l10 :: L) (.null :: st) K := by
  have hg : gSet1 (l0 :: l1 :: l2 :: l3 :: l4 :: l5 :: l6 :: l7 :: l8 :: l9 :: l10 :: L) 10 (.null) = some (l0 :: l1 :: l2 :: l3 :: l4 :: l5 :: l6 :: l7 :: l8 :: l9 :: some (.null) :: L) := by
    unfold gSet1
    rw [if_pos ⟨by simp, (gPrev_of (i := 9) rfl hp)⟩]
    rfl
  refine gx_one (L' := l0 :: l1 :: l2 :: l3 :: l4 :: l5 :: l6 :: l7 :: l8 :: l9 :: some (.null) :: L) (st' := st) ?_ k
  show (match gSet1 (l0 :: l1 :: l2 :: l3 :: l4 :: l5 :: l6 :: l7 :: l8 :: l9 :: l10 :: L) 10 (.null) with | some L' => some (L', st) | none => none) = _
  rw [hg]
theorem gx_fstore_10 {l0 l1 l2 l3 l4 l5 l6 l7 l8 l9 l10 : Option Value} {x : UInt32} (hp : gPk l9 = true) (k : gEx t (pc + 2) (l0 :: l1 :: l2 :: l3 :: l4 :: l5 :: l6 :: l7 :: l8 :: l9 :: some (.float x) :: L) st K) : gEx ((.fstore 10, a) :: t) pc (l0 :: l1 :: l2 :: l3 :: l4 :: l5 :: l6 :: l7 :: l8 :: l9 :: l10 :: L) (.float x :: st) K := by
  have hg : gSet1 (l0 :: l1 :: l2 :: l3 :: l4 :: l5 :: l6 :: l7 :: l8 :: l9 :: l10 :: L) 10 (.float x) = some (l0 :: l1 :: l2 :: l3 :: l4 :: l5 :: l6 :: l7 :: l8 :: l9 :: some (.float x) :: L) := by
    unfold gSet1
    rw [if_pos ⟨by simp, (gPrev_of (i := 9) rfl hp)⟩]
    rfl
  refine gx_one (L' := l0 :: l1 :: l2 :: l3 :: l4 :: l5 :: l6 :: l7 :: l8 :: l9 :: some (.float x) :: L) (st' := st) ?_ k
  show (match gSet1 (l0 :: l1 :: l2 :: l3 :: l4 :: l5 :: l6 :: l7 :: l8 :: l9 :: l10 :: L) 10 (.float x) with | some L' => some (L', st) | none => none) = _
  rw [hg]
theorem gx_iinc_10 {l0 l1 l2 l3 l4 l5 l6 l7 l8 l9 : Option Value} {n : Int} {x y : Int32} (hp : gPk l9 = true) (k : gEx t (pc + 3) (l0 :: l1 :: l2 :: l3 :: l4 :: l5 :: l6 :: l7 :: l8 :: l9 :: some (.int (x + y)) :: L) st K) : gEx ((.iinc 10 n, .int y) :: t) pc (l0 :: l1 :: l2 :: l3 :: l4 :: l5 :: l6 :: l7 :: l8 :: l9 :: some (.int x) :: L) st K := by
  have hg : gSet1 (l0 :: l1 :: l2 :: l3 :: l4 :: l5 :: l6 :: l7 :: l8 :: l9 :: some (.int x) :: L) 10 (.int (x + y)) = some (l0 :: l1 :: l2 :: l3 :: l4 :: l5 :: l6 :: l7 :: l8 :: l9 :: some (.int (x + y)) :: L) := by
    unfold gSet1
    rw [if_pos ⟨by simp, (gPrev_of (i := 9) rfl hp)⟩]
    rfl
  have hh : gGet (l0 :: l1 :: l2 :: l3 :: l4 :: l5 :: l6 :: l7 :: l8 :: l9 :: some (.int x) :: L) 10 = some (.int x) := rfl
  refine gx_one (L' := l0 :: l1 :: l2 :: l3 :: l4 :: l5 :: l6 :: l7 :: l8 :: l9 :: some (.int (x + y)) :: L) (st' := st) ?_ k
  unfold gP1
  simp only [hh, hg]
theorem gx_dstore_10 {l0 l1 l2 l3 l4 l5 l6 l7 l8 l9 l10 l11 : Option Value} {x : UInt64} (hp : gPk l9 = true) (k : gEx t (pc + 2) (l0 :: l1 :: l2 :: l3 :: l4 :: l5 :: l6 :: l7 :: l8 :: l9 :: some (.double x) :: none :: L) st K) : gEx ((.dstore 10, a) :: t) pc (l0 :: l1 :: l2 :: l3 :: l4 :: l5 :: l6 :: l7 :: l8 :: l9 :: l10 :: l11 :: L) (.double x :: st) K := by
  have hg : gSet2 (l0 :: l1 :: l2 :: l3 :: l4 :: l5 :: l6 :: l7 :: l8 :: l9 :: l10 :: l11 :: L) 10 (.double x) = some (l0 :: l1 :: l2 :: l3 :: l4 :: l5 :: l6 :: l7 :: l8 :: l9 :: some (.double x) :: none :: L) := by
    unfold gSet2
    rw [if_pos ⟨by simp, (gPrev_of (i := 9) rfl hp)⟩]
    rfl
  refine gx_one (L' := l0 :: l1 :: l2 :: l3 :: l4 :: l5 :: l6 :: l7 :: l8 :: l9 :: some (.double x) :: none :: L) (st' := st) ?_ k
  unfold gP1
  simp only [hg]
theorem gx_iload_11 {l0 l1 l2 l3 l4 l5 l6 l7 l8 l9 l10 : Option Value} {x : Int32} (k : gEx t (pc + 2) (l0 :: l1 :: l2 :: l3 :: l4 :: l5 :: l6 :: l7 :: l8 :: l9 :: l10 :: some (.int x) :: L) (.int x :: st) K) : gEx ((.iload 11, a) :: t) pc (l0 :: l1 :: l2 :: l3 :: l4 :: l5 :: l6 :: l7 :: l8 :: l9 :: l10 :: some (.int x) :: L) st K := k
theorem gx_aload_11 {l0 l1 l2 l3 l4 l5 l6 l7 l8 l9 l10 : Option Value} {x : Nat} (k : gEx t (pc + 2) (l0 :: l1 :: l2 :: l3 :: l4 :: l5 :: l6 :: l7 :: l8 :: l9 :: l10 :: some (.ref x) :: L) (.ref x :: st) K) : gEx ((.aload 11, a) :: t) pc (l0 :: l1 :: l2 :: l3 :: l4 :: l5 :: l6 :: l7 :: l8 :: l9 :: l10 :: some (.ref x) :: L) st K := k
theorem gx_aloadN_11 {l0 l1 l2 l3 l4 l5 l6 l7 l8 l9 l10 : Option Value} (k : gEx t (pc + 2) (l0 :: l1 :: l2 :: l3 :: l4 :: l5 :: l6 :: l7 :: l8 :: l9 :: l10 :: some (.null) :: L) (.null :: st) K) : gEx ((.aload 11, a) :: t) pc (l0 :: l1 :: l2 :: l3 :: l4 :: l5 :: l6 :: l7 :: l8 :: l9 :: l10 :: some (.null) :: L) st K := k
theorem gx_fload_11 {l0 l1 l2 l3 l4 l5 l6 l7 l8 l9 l10 : Option Value} {x : UInt32} (k : gEx t (pc + 2) (l0 :: l1 :: l2 :: l3 :: l4 :: l5 :: l6 :: l7 :: l8 :: l9 :: l10 :: some (.float x) :: L) (.float x :: st) K) : gEx ((.fload 11, a) :: t) pc (l0 :: l1 :: l2 :: l3 :: l4 :: l5 :: l6 :: l7 :: l8 :: l9 :: l10 :: some (.float x) :: L) st K := k
theorem gx_dload_11 {l0 l1 l2 l3 l4 l5 l6 l7 l8 l9 l10 : Option Value} {x : UInt64} (k : gEx t (pc + 2) (l0 :: l1 :: l2 :: l3 :: l4 :: l5 :: l6 :: l7 :: l8 :: l9 :: l10 :: some (.double x) :: L) (.double x :: st) K) : gEx ((.dload 11, a) :: t) pc (l0 :: l1 :: l2 :: l3 :: l4 :: l5 :: l6 :: l7 :: l8 :: l9 :: l10 :: some (.double x) :: L) st K := k
theorem gx_istore_11 {l0 l1 l2 l3 l4 l5 l6 l7 l8 l9 l10 l11 : Option Value} {x : Int32} (hp : gPk l10 = true) (k : gEx t (pc + 2) (l0 :: l1 :: l2 :: l3 :: l4 :: l5 :: l6 :: l7 :: l8 :: l9 :: l10 :: some (.int x) :: L) st K) : gEx ((.istore 11, a) :: t) pc (l0 :: l1 :: l2 :: l3 :: l4 :: l5 :: l6 :: l7 :: l8 :: l9 :: l10 :: l11 :: L) (.int x :: st) K := by
  have hg : gSet1 (l0 :: l1 :: l2 :: l3 :: l4 :: l5 :: l6 :: l7 :: l8 :: l9 :: l10 :: l11 :: L) 11 (.int x) = some (l0 :: l1 :: l2 :: l3 :: l4 :: l5 :: l6 :: l7 :: l8 :: l9 :: l10 :: some (.int x) :: L) := by
    unfold gSet1
    rw [if_pos ⟨by simp, (gPrev_of (i := 10) rfl hp)⟩]
    rfl
  refine gx_one (L' := l0 :: l1 :: l2 :: l3 :: l4 :: l5 :: l6 :: l7 :: l8 :: l9 :: l10 :: some (.int x) :: L) (st' := st) ?_ k
  show (match gSet1 (l0 :: l1 :: l2 :: l3 :: l4 :: l5 :: l6 :: l7 :: l8 :: l9 :: l10 :: l11 :: L) 11 (.int x) with | some L' => some (L', st) | none => none) = _
  rw [hg]
theorem gx_astore_11 {l0 l1 l2 l3 l4 l5 l6 l7 l8 l9 l10 l11 : Option Value} {x : Nat} (hp : gPk l10 = true) (k : gEx t (pc + 2) (l0 :: l1 :: l2 :: l3 :: l4 :: l5 :: l6 :: l7 :: l8 :: l9 :: l10 :: some (.ref x) :: L) st K) : gEx ((.astore 11, a) :: t) pc (l0 :: l1 :: l2 :: l3 :: l4 :: l5 :: l6 :: l7 :: l8 :: l9 :: l10 :: l11 :: L) (.ref x :: st) K := by
  have hg : gSet1 (l0 :: l1 :: l2 :: l3 :: l4 :: l5 :: l6 :: l7 :: l8 :: l9 :: l10 :: l11 :: L) 11 (.ref x) = some (l0 :: l1 :: l2 :: l3 :: l4 :: l5 :: l6 :: l7 :: l8 :: l9 :: l10 :: some (.ref x) :: L) := by
    unfold gSet1
    rw [if_pos ⟨by simp, (gPrev_of (i := 10) rfl hp)⟩]
    rfl
  refine gx_one (L' := l0 :: l1 :: l2 :: l3 :: l4 :: l5 :: l6 :: l7 :: l8 :: l9 :: l10 :: some (.ref x) :: L) (st' := st) ?_ k
  show (match gSet1 (l0 :: l1 :: l2 :: l3 :: l4 :: l5 :: l6 :: l7 :: l8 :: l9 :: l10 :: l11 :: L) 11 (.ref x) with | some L' => some (L', st) | none => none) = _
  rw [hg]
theorem gx_astoreN_11 {l0 l1 l2 l3 l4 l5 l6 l7 l8 l9 l10 l11 : Option Value} (hp : gPk l10 = true) (k : gEx t (pc + 2) (l0 :: l1 :: l2 :: l3 :: l4 :: l5 :: l6 :: l7 :: l8 :: l9 :: l10 :: some (.null) :: L) st K) : gEx ((.astore 11, a) :: t) pc (l0 :: l1 :: l2 :: l3 :: l4 :: l5 :: l6 :: l7 :: l8 :: l9 :: l10 :: l11 :: L) (.null :: st) K := by
  have hg : gSet1 (l0 :: l1 :: l2 :: l3 :: l4 :: l5 :: l6 :: l7 :: l8 :: l9 :: l10 :: l11 :: L) 11 (.null) = some (l0 :: l1 :: l2 :: l3 :: l4 :: l5 :: l6 :: l7 :: l8 :: l9 :: l10 :: some (.null) :: L) := by
    unfold gSet1
    rw [if_pos ⟨by simp, (gPrev_of (i := 10) rfl hp)⟩]
    rfl
  refine gx_one (L' := l0 :: l1 :: l2 :: l3 :: l4 :: l5 :: l6 :: l7 :: l8 :: l9 :: l10 :: some (.null) :: L) (st' := st) ?_ k
  show (match gSet1 (l0 :: l1 :: l2 :: l3 :: l4 :: l5 :: l6 :: l7 :: l8 :: l9 :: l10 :: l11 :: L) 11 (.null) with | some L' => some (L', st) | none => none) = _
  rw [hg]
theorem gx_fstore_11 {l0 l1 l2 l3 l4 l5 l6 l7 l8 l9 l10 l11 : Option Value} {x : UInt32} (hp : gPk l10 = true) (k : gEx t (pc + 2) (l0 :: l1 :: l2 :: l3 :: l4 :: l5 :: l6 :: l7 :: l8 :: l9 :: l10 :: some (.float x) :: L) st K) : gEx ((.fstore 11, a) :: t) pc (l0 :: l1 :: l2 :: l3 :: l4 :: l5 :: l6 :: l7 :: l8 :: l9 :: l10 :: l11 :: L) (.float x :: st) K := by
  have hg : gSet1 (l0 :: l1 :: l2 :: l3 :: l4 :: l5 :: l6 :: l7 :: l8 :: l9 :: l10 :: l11 :: L) 11 (.float x) = some (l0 :: l1 :: l2 :: l3 :: l4 :: l5 :: l6 :: l7 :: l8 :: l9 :: l10 :: some (.float x) :: L) := by
    unfold gSet1
    rw [if_pos ⟨by simp, (gPrev_of (i := 10) rfl hp)⟩]
    rfl
  refine gx_one (L' := l0 :: l1 :: l2 :: l3 :: l4 :: l5 :: l6 :: l7 :: l8 :: l9 :: l10 :: some (.float x) :: L) (st' := st) ?_ k
  show (match gSet1 (l0 :: l1 :: l2 :: l3 :: l4 :: l5 :: l6 :: l7 :: l8 :: l9 :: l10 :: l11 :: L) 11 (.float x) with | some L' => some (L', st) | none => none) = _
  rw [hg]
theorem gx_iinc_11 {l0 l1 l2 l3 l4 l5 l6 l7 l8 l9 l10 : Option Value} {n : Int} {x y : Int32} (hp : gPk l10 = true) (k : gEx t (pc + 3) (l0 :: l1 :: l2 :: l3 :: l4 :: l5 :: l6 :: l7 :: l8 :: l9 :: l10 :: some (.int (x + y)) :: L) st K) : gEx ((.iinc 11 n, .int y) :: t) pc (l0 :: l1 :: l2 :: l3 :: l4 :: l5 :: l6 :: l7 :: l8 :: l9 :: l10 :: some (.int x) :: L) st K := by
  have hg : gSet1 (l0 :: l1 :: l2 :: l3 :: l4 :: l5 :: l6 :: l7 :: l8 :: l9 :: l10 :: some (.int x) :: L) 11 (.int (x + y)) = some (l0 :: l1 :: l2 :: l3 :: l4 :: l5 :: l6 :: l7 :: l8 :: l9 :: l10 :: some (.int (x + y)) :: L) := by
    unfold gSet1
    rw [if_pos ⟨by simp, (gPrev_of (i := 10) rfl hp)⟩]
    rfl
  have hh : gGet (l0 :: l1 :: l2 :: l3 :: l4 :: l5 :: l6 :: l7 :: l8 :: l9 :: l10 :: some (.int x) :: L) 11 = some (.int x) := rfl
  refine gx_one (L' := l0 :: l1 :: l2 :: l3 :: l4 :: l5 :: l6 :: l7 :: l8 :: l9 :: l10 :: some (.int (x + y)) :: L) (st' := st) ?_ k
  unfold gP1
  simp only [hh, hg]
theorem gx_dstore_11 {l0 l1 l2 l3 l4 l5 l6 l7 l8 l9 l10 l11 l12 : Option Value} {x : UInt64} (hp : gPk l10 = true) (k : gEx t (pc + 2) (l0 :: l1 :: l2 :: l3 :: l4 :: l5 :: l6 :: l7 :: l8 :: l9 :: l10 :: some (.double x) :: none :: L) st K) : gEx ((.dstore 11, a) :: t) pc (l0 :: l1 :: l2 :: l3 :: l4 :: l5 :: l6 :: l7 :: l8 :: l9 :: l10 :: l11 :: l12 :: L) (.double x :: st) K := by
  have hg : gSet2 (l0 :: l1 :: l2 :: l3 :: l4 :: l5 :: l6 :: l7 :: l8 :: l9 :: l10 :: l11 :: l12 :: L) 11 (.double x) = some (l0 :: l1 :: l2 :: l3 :: l4 :: l5 :: l6 :: l7 :: l8 :: l9 :: l10 :: some (.double x) :: none :: L) := by
    unfold gSet2
    rw [if_pos ⟨by simp, (gPrev_of (i := 10) rfl hp)⟩]
    rfl
  refine gx_one (L' := l0 :: l1 :: l2 :: l3 :: l4 :: l5 :: l6 :: l7 :: l8 :: l9 :: l10 :: some (.double x) :: none :: L) (st' := st) ?_ k
  unfold gP1
  simp only [hg]
end GBlocks
