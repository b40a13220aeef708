/-! THE LAYER'S RULES: the plain instructions in blocks -/
section GRules
def gGet (L : List (Option Value)) (i : Nat) : Option Value := match L[i]? with
  | some (some v) => some v
  | _ => none
def gPrev (L : List (Option Value)) (i : Nat) : Bool := match i with
  | 0 => true
  | j + 1 => match L[j]? with
    | some (some (.long _)) => false
    | some (some (.double _)) => false
    | _ => true
def gSet1 (L : List (Option Value)) (i : Nat) (v : Value) : Option (List (Option Value)) := if i < L.length ∧ gPrev L i = true then some (L.set i (some v)) else none
def gSet2 (L : List (Option Value)) (i : Nat) (v : Value) : Option (List (Option Value)) := if i + 1 < L.length ∧ gPrev L i = true then some ((L.set i (some v)).set (i + 1) none) else none
theorem gAs_mem {L : List (Option Value)} {i : Nat} {v : Value} : ∀ (b : Nat), (b + i, v) ∈ gAs b L ↔ L[i]? = some (some v) := by
  induction L generalizing i with
  | nil => intro b; simp [gAs]
  | cons a t ih =>
    intro b
    cases i with
    | zero =>
      have hno : (b, v) ∉ gAs (b + 1) t := by
        intro hm
        have : ∀ (t : List (Option Value)) (b : Nat) (q : Nat × Value), q ∈ gAs b t → b ≤ q.1 := by
          intro t
          induction t with
          | nil => intro b q h; simp [gAs] at h
          | cons a t ih2 =>
            intro b q h
            cases a with
            | none => exact Nat.le_of_succ_le (ih2 (b + 1) q h)
            | some w =>
              rcases List.mem_cons.mp h with rfl | h
              · exact Nat.le_refl _
              · exact Nat.le_of_succ_le (ih2 (b + 1) q h)
        have h9 := this t (b + 1) (b, v) hm
        dsimp only at h9
        omega
      cases a with
      | none => simpa [gAs] using hno
      | some w =>
        simp only [gAs, List.mem_cons, Nat.add_zero, Prod.mk.injEq, true_and, List.getElem?_cons_zero, Option.some.injEq]
        constructor
        · rintro (rfl | h)
          · rfl
          · exact absurd h hno
        · intro h
          exact Or.inl h.symm
    | succ i =>
      have e : b + (i + 1) = (b + 1) + i := by omega
      cases a with
      | none =>
        simp only [gAs, List.getElem?_cons_succ]
        rw [e]
        exact ih (b + 1)
      | some w =>
        simp only [gAs, List.mem_cons, List.getElem?_cons_succ, Prod.mk.injEq]
        rw [e]
        constructor
        · rintro (⟨h, -⟩ | h)
          · omega
          · exact (ih (b + 1)).mp h
        · intro h
          exact Or.inr ((ih (b + 1)).mpr h)
theorem gAs_mem0 {L : List (Option Value)} {q : Nat × Value} : q ∈ gAs 0 L ↔ L[q.1]? = some (some q.2) := by
  have := gAs_mem (L := L) (i := q.1) (v := q.2) 0
  rw [Nat.zero_add] at this
  exact this
theorem gGet_of {L : List (Option Value)} {ls : Array Slot} {nL i : Nat} {v : Value} (hl : lv_has ls nL (gAs 0 L)) (h : gGet L i = some v) : ls[i]? = some (.val v) := by
  refine hl.2.2 (i, v) (gAs_mem0.mpr ?_)
  unfold gGet at h
  split at h
  · next w hw => cases h; exact hw
  · cases h
theorem gSet1_of {L L' : List (Option Value)} {ls' : Array Slot} {nL i : Nat} {v : Value} (h : gSet1 L i v = some L') (hl : lv_has ls' nL ((i, v) :: (gAs 0 L).filter (fun q => !(q.1 == i) && !(q.1 + 1 == i && q.2.category == 2)))) : lv_has ls' nL (gAs 0 L') := by
  refine ⟨hl.1, hl.2.1, fun q hq => hl.2.2 q ?_⟩
  unfold gSet1 at h
  split at h
  · next hc =>
    cases h
    have hq := gAs_mem0.mp hq
    by_cases hqi : i = q.1
    · subst hqi
      rw [List.getElem?_set_self hc.1] at hq
      obtain ⟨a, b⟩ := q
      cases hq
      exact List.mem_cons_self
    · rw [List.getElem?_set_ne hqi] at hq
      refine List.mem_cons_of_mem _ (List.mem_filter.mpr ⟨gAs_mem0.mpr hq, ?_⟩)
      simp only [Bool.and_eq_true, Bool.not_eq_true', beq_eq_false_iff_ne, ne_eq, Bool.and_eq_false_iff]
      refine ⟨fun z => hqi z.symm, ?_⟩
      by_cases hp : q.1 + 1 = i
      · right
        have h2 := hc.2
        subst hp
        unfold gPrev at h2
        simp only [hq] at h2
        obtain ⟨a, b⟩ := q
        cases b <;> simp_all [Value.category]
      · exact Or.inl hp
  · cases h
theorem gSet2_of {L L' : List (Option Value)} {ls' : Array Slot} {nL i : Nat} {v : Value} (h : gSet2 L i v = some L') (hl : lv_has ls' nL ((i, v) :: (gAs 0 L).filter (fun q => !(q.1 == i) && (!(q.1 == i + 1) && !(q.1 + 1 == i && q.2.category == 2))))) : lv_has ls' nL (gAs 0 L') := by
  refine ⟨hl.1, hl.2.1, fun q hq => hl.2.2 q ?_⟩
  unfold gSet2 at h
  split at h
  · next hc =>
    cases h
    have hq := gAs_mem0.mp hq
    by_cases hq1 : i + 1 = q.1
    · rw [← hq1, List.getElem?_set_self (by rw [List.length_set]; exact hc.1)] at hq
      cases hq
    · rw [List.getElem?_set_ne hq1] at hq
      by_cases hqi : i = q.1
      · subst hqi
        rw [List.getElem?_set_self (by omega)] at hq
        obtain ⟨a, b⟩ := q
        cases hq
        exact List.mem_cons_self
      · rw [List.getElem?_set_ne hqi] at hq
        refine List.mem_cons_of_mem _ (List.mem_filter.mpr ⟨gAs_mem0.mpr hq, ?_⟩)
        simp only [Bool.and_eq_true, Bool.not_eq_true', beq_eq_false_iff_ne, ne_eq, Bool.and_eq_false_iff]
        refine ⟨fun z => hqi z.symm, fun z => hq1 z.symm, ?_⟩
        by_cases hp : q.1 + 1 = i
        · right
          have h2 := hc.2
          subst hp
          unfold gPrev at h2
          simp only [hq] at h2
          obtain ⟨a, b⟩ := q
          cases b <;> simp_all [Value.category]
        · exact Or.inl hp
  · cases h
/-- one plain instruction (v: what it pushes, if a constant; what it adds; where it goes) -/
def gP1 : Instr → Value → List (Option Value) → List Value → Option (List (Option Value) × List Value)
  | .iconst _, .int x, L, st => some (L, .int x :: st)
  | .bipush _, .int x, L, st => some (L, .int x :: st)
  | .sipush _, .int x, L, st => some (L, .int x :: st)
  | .lconst _, .long x, L, st => some (L, .long x :: st)
  | .aconst_null, _, L, st => some (L, .null :: st)
  | .iload i, _, L, st => match gGet L i with
    | some (.int x) => some (L, .int x :: st)
    | _ => none
  | .iload_n i, _, L, st => match gGet L i.val with
    | some (.int x) => some (L, .int x :: st)
    | _ => none
  | .aload i, _, L, st => match gGet L i with
    | some (.ref x) => some (L, .ref x :: st)
    | some .null => some (L, .null :: st)
    | _ => none
  | .aload_n i, _, L, st => match gGet L i.val with
    | some (.ref x) => some (L, .ref x :: st)
    | some .null => some (L, .null :: st)
    | _ => none
  | .fload i, _, L, st => match gGet L i with
    | some (.float x) => some (L, .float x :: st)
    | _ => none
  | .dload i, _, L, st => match gGet L i with
    | some (.double x) => some (L, .double x :: st)
    | _ => none
  | .istore i, _, L, .int x :: st => match gSet1 L i (.int x) with
    | some L' => some (L', st)
    | none => none
  | .istore_n i, _, L, .int x :: st => match gSet1 L i.val (.int x) with
    | some L' => some (L', st)
    | none => none
  | .astore i, _, L, .ref x :: st => match gSet1 L i (.ref x) with
    | some L' => some (L', st)
    | none => none
  | .astore i, _, L, .null :: st => match gSet1 L i .null with
    | some L' => some (L', st)
    | none => none
  | .astore_n i, _, L, .ref x :: st => match gSet1 L i.val (.ref x) with
    | some L' => some (L', st)
    | none => none
  | .astore_n i, _, L, .null :: st => match gSet1 L i.val .null with
    | some L' => some (L', st)
    | none => none
  | .fstore i, _, L, .float x :: st => match gSet1 L i (.float x) with
    | some L' => some (L', st)
    | none => none
  | .dstore i, _, L, .double x :: st => match gSet2 L i (.double x) with
    | some L' => some (L', st)
    | none => none
  | .iinc i _, .int k, L, st => match gGet L i with
    | some (.int x) => match gSet1 L i (.int (x + k)) with
      | some L' => some (L', st)
      | none => none
    | _ => none
  | .dup, _, L, .int x :: st => some (L, .int x :: .int x :: st)
  | .dup, _, L, .ref x :: st => some (L, .ref x :: .ref x :: st)
  | .dup, _, L, .null :: st => some (L, .null :: .null :: st)
  | .dup_x1, _, L, .int x :: .ref y :: st => some (L, .int x :: .ref y :: .int x :: st)
  | .dup_x1, _, L, .int x :: .int y :: st => some (L, .int x :: .int y :: .int x :: st)
  | .dup2, _, L, .int x :: .ref y :: st => some (L, .int x :: .ref y :: .int x :: .ref y :: st)
  | .pop, _, L, .int _ :: st => some (L, st)
  | .pop, _, L, .ref _ :: st => some (L, st)
  | .iadd, _, L, .int y :: .int x :: st => some (L, .int (x + y) :: st)
  | .isub, _, L, .int y :: .int x :: st => some (L, .int (x - y) :: st)
  | .imul, _, L, .int y :: .int x :: st => some (L, .int (x * y) :: st)
  | .iand, _, L, .int y :: .int x :: st => some (L, .int (x &&& y) :: st)
  | .ior, _, L, .int y :: .int x :: st => some (L, .int (x ||| y) :: st)
  | .ineg, _, L, .int x :: st => some (L, .int (-x) :: st)
  | .ishl, _, L, .int y :: .int x :: st => some (L, .int (x <<< (y &&& 31)) :: st)
  | .ishr, _, L, .int y :: .int x :: st => some (L, .int (x >>> (y &&& 31)) :: st)
  | .i2l, _, L, .int x :: st => some (L, .long x.toInt64 :: st)
  | .i2b, _, L, .int x :: st => some (L, .int x.toInt8.toInt32 :: st)
  | .i2c, _, L, .int x :: st => some (L, .int (x.toUInt32 % 65536).toInt32 :: st)
  | .i2d, _, L, .int x :: st => some (L, .double (FP.i2d x) :: st)
  | .i2f, _, L, .int x :: st => some (L, .float (FP.i2f x) :: st)
  | .lcmp, _, L, .long y :: .long x :: st => some (L, .int (lg_cmp x y) :: st)
  | .dcmp op, _, L, .double y :: .double x :: st => some (L, .int (Op.cmpValue (FP.dcmp x y) op) :: st)
  | .fcmp op, _, L, .float y :: .float x :: st => some (L, .int (Op.cmpValue (FP.fcmp x y) op) :: st)
  | .goto _, _, L, st => some (L, st)
  | _, _, _, _ => none
def gLen : Instr → Nat
  | .bipush _ => 2
  | .sipush _ => 3
  | .iload _ => 2
  | .aload _ => 2
  | .fload _ => 2
  | .dload _ => 2
  | .istore _ => 2
  | .astore _ => 2
  | .fstore _ => 2
  | .dstore _ => 2
  | .iinc _ _ => 3
  | .goto _ => 3
  | _ => 1
def gNx (i : Instr) (pc : Nat) (v : Value) : Nat := match i, v with
  | .goto _, .retAddr t => t
  | _, _ => pc + gLen i
def gAnn (i : Instr) (pc : Nat) (v : Value) : Bool := match i, v with
  | .iconst k, .int x => decide (Int32.ofInt k = x)
  | .bipush k, .int x => decide ((Int8.ofInt k).toInt32 = x)
  | .sipush k, .int x => decide ((Int16.ofInt k).toInt32 = x)
  | .lconst k, .long x => decide (Int64.ofNat (k : Nat) = x)
  | .iinc _ k, .int x => decide (Int32.ofInt k = x)
  | .goto off, .retAddr t => decide ((pc : Int) + off = (t : Int))
  | .goto _, _ => false
  | _, _ => true
def gChk (cc : ByteArray) : Nat → List (Instr × Value) → Bool
  | _, [] => true
  | pc, (i, v) :: t => decide (decode cc pc = .ok (i, gLen i)) && gAnn i pc v && gChk cc (gNx i pc v) t
def gEx : List (Instr × Value) → Nat → List (Option Value) → List Value → (Nat → List (Option Value) → List Value → Prop) → Prop
  | [], pc, L, st, K => K pc L st
  | (i, v) :: t, pc, L, st, K => match gP1 i v L st with
    | some (L', st') => gEx t (gNx i pc v) L' st' K
    | none => False
variable {Γ : gE} {M : gM} {d mc ms : Nat} {Z : Option Value → gHp → Prop} {ZX : String → gHp → Prop} {rc rs pc : Nat} {L L' : List (Option Value)} {st st' : List Value} {h : gHp}

theorem g_iconst {n : Int} {x : Int32} (hd : decode M.2.1 pc = .ok (.iconst n, 1)) (hv : Int32.ofInt n = x) (k : G Γ M d mc ms Z ZX rc rs (pc + 1) L (.int x :: st) h) : G Γ M d mc ms Z ZX rc rs pc L st h := by
  intro p e R s m args below meth c H locs cells slots ls C hd1 hd2 hd3 hd4 ha hl hc hs
  obtain ⟨hx, hb, -⟩ := id C
  exact lv_iconst hx hb hd hv (k p e R s m args below meth c H locs cells slots ls C hd1 hd2 hd3 hd4 ha hl hc hs)
theorem g_bipush {n : Int} {x : Int32} (hd : decode M.2.1 pc = .ok (.bipush n, 2)) (hv : (Int8.ofInt n).toInt32 = x) (k : G Γ M d mc ms Z ZX rc rs (pc + 2) L (.int x :: st) h) : G Γ M d mc ms Z ZX rc rs pc L st h := by
  intro p e R s m args below meth c H locs cells slots ls C hd1 hd2 hd3 hd4 ha hl hc hs
  obtain ⟨hx, hb, -⟩ := id C
  exact lv_bipush hx hb hd hv (k p e R s m args below meth c H locs cells slots ls C hd1 hd2 hd3 hd4 ha hl hc hs)
theorem g_sipush {n : Int} {x : Int32} (hd : decode M.2.1 pc = .ok (.sipush n, 3)) (hv : (Int16.ofInt n).toInt32 = x) (k : G Γ M d mc ms Z ZX rc rs (pc + 3) L (.int x :: st) h) : G Γ M d mc ms Z ZX rc rs pc L st h := by
  intro p e R s m args below meth c H locs cells slots ls C hd1 hd2 hd3 hd4 ha hl hc hs
  obtain ⟨hx, hb, -⟩ := id C
  exact lv_sipush hx hb hd hv (k p e R s m args below meth c H locs cells slots ls C hd1 hd2 hd3 hd4 ha hl hc hs)
theorem g_lconst {n : Fin 2} {x : Int64} (hd : decode M.2.1 pc = .ok (.lconst n, 1)) (hv : Int64.ofNat (n : Nat) = x) (k : G Γ M d mc ms Z ZX rc rs (pc + 1) L (.long x :: st) h) : G Γ M d mc ms Z ZX rc rs pc L st h := by
  intro p e R s m args below meth c H locs cells slots ls C hd1 hd2 hd3 hd4 ha hl hc hs
  obtain ⟨hx, hb, -⟩ := id C
  exact lv_lconst hx hb hd hv (k p e R s m args below meth c H locs cells slots ls C hd1 hd2 hd3 hd4 ha hl hc hs)
theorem g_null (hd : decode M.2.1 pc = .ok (.aconst_null, 1)) (k : G Γ M d mc ms Z ZX rc rs (pc + 1) L (.null :: st) h) : G Γ M d mc ms Z ZX rc rs pc L st h := by
  intro p e R s m args below meth c H locs cells slots ls C hd1 hd2 hd3 hd4 ha hl hc hs
  obtain ⟨hx, hb, -⟩ := id C
  exact lv_null hx hb hd (k p e R s m args below meth c H locs cells slots ls C hd1 hd2 hd3 hd4 ha hl hc hs)
theorem g_dconst0 (hd : decode M.2.1 pc = .ok (.dconst 0, 1)) (k : G Γ M d mc ms Z ZX rc rs (pc + 1) L (.double FP.dconst0 :: st) h) : G Γ M d mc ms Z ZX rc rs pc L st h := by
  intro p e R s m args below meth c H locs cells slots ls C hd1 hd2 hd3 hd4 ha hl hc hs
  obtain ⟨hx, hb, -⟩ := id C
  exact lv_dconst0 hx hb hd (k p e R s m args below meth c H locs cells slots ls C hd1 hd2 hd3 hd4 ha hl hc hs)
theorem g_fconst0 (hd : decode M.2.1 pc = .ok (.fconst 0, 1)) (k : G Γ M d mc ms Z ZX rc rs (pc + 1) L (.float FP.fconst0 :: st) h) : G Γ M d mc ms Z ZX rc rs pc L st h := by
  intro p e R s m args below meth c H locs cells slots ls C hd1 hd2 hd3 hd4 ha hl hc hs
  obtain ⟨hx, hb, -⟩ := id C
  exact lv_fconst0 hx hb hd (k p e R s m args below meth c H locs cells slots ls C hd1 hd2 hd3 hd4 ha hl hc hs)
theorem g_iload {i : Nat} {x : Int32} (hd : decode M.2.1 pc = .ok (.iload i, 2)) (hg : gGet L i = some (.int x)) (k : G Γ M d mc ms Z ZX rc rs (pc + 2) L (.int x :: st) h) : G Γ M d mc ms Z ZX rc rs pc L st h := by
  intro p e R s m args below meth c H locs cells slots ls C hd1 hd2 hd3 hd4 ha hl hc hs
  obtain ⟨hx, hb, -⟩ := id C
  exact lv_iload hx hb hd (gGet_of hl hg) (k p e R s m args below meth c H locs cells slots ls C hd1 hd2 hd3 hd4 ha hl hc hs)
theorem g_iload_n {i : Fin 4} {x : Int32} (hd : decode M.2.1 pc = .ok (.iload_n i, 1)) (hg : gGet L i.val = some (.int x)) (k : G Γ M d mc ms Z ZX rc rs (pc + 1) L (.int x :: st) h) : G Γ M d mc ms Z ZX rc rs pc L st h := by
  intro p e R s m args below meth c H locs cells slots ls C hd1 hd2 hd3 hd4 ha hl hc hs
  obtain ⟨hx, hb, -⟩ := id C
  exact lv_iload_n hx hb hd rfl (gGet_of hl hg) (k p e R s m args below meth c H locs cells slots ls C hd1 hd2 hd3 hd4 ha hl hc hs)
theorem g_aload {i : Nat} {x : Nat} (hd : decode M.2.1 pc = .ok (.aload i, 2)) (hg : gGet L i = some (.ref x)) (k : G Γ M d mc ms Z ZX rc rs (pc + 2) L (.ref x :: st) h) : G Γ M d mc ms Z ZX rc rs pc L st h := by
  intro p e R s m args below meth c H locs cells slots ls C hd1 hd2 hd3 hd4 ha hl hc hs
  obtain ⟨hx, hb, -⟩ := id C
  exact lv_aload hx hb hd (gGet_of hl hg) (k p e R s m args below meth c H locs cells slots ls C hd1 hd2 hd3 hd4 ha hl hc hs)
theorem g_aload_n {i : Fin 4} {x : Nat} (hd : decode M.2.1 pc = .ok (.aload_n i, 1)) (hg : gGet L i.val = some (.ref x)) (k : G Γ M d mc ms Z ZX rc rs (pc + 1) L (.ref x :: st) h) : G Γ M d mc ms Z ZX rc rs pc L st h := by
  intro p e R s m args below meth c H locs cells slots ls C hd1 hd2 hd3 hd4 ha hl hc hs
  obtain ⟨hx, hb, -⟩ := id C
  exact lv_aload_n hx hb hd rfl (gGet_of hl hg) (k p e R s m args below meth c H locs cells slots ls C hd1 hd2 hd3 hd4 ha hl hc hs)
theorem g_fload {i : Nat} {x : UInt32} (hd : decode M.2.1 pc = .ok (.fload i, 2)) (hg : gGet L i = some (.float x)) (k : G Γ M d mc ms Z ZX rc rs (pc + 2) L (.float x :: st) h) : G Γ M d mc ms Z ZX rc rs pc L st h := by
  intro p e R s m args below meth c H locs cells slots ls C hd1 hd2 hd3 hd4 ha hl hc hs
  obtain ⟨hx, hb, -⟩ := id C
  exact lv_fload hx hb hd (gGet_of hl hg) (k p e R s m args below meth c H locs cells slots ls C hd1 hd2 hd3 hd4 ha hl hc hs)
theorem g_dload {i : Nat} {x : UInt64} (hd : decode M.2.1 pc = .ok (.dload i, 2)) (hg : gGet L i = some (.double x)) (k : G Γ M d mc ms Z ZX rc rs (pc + 2) L (.double x :: st) h) : G Γ M d mc ms Z ZX rc rs pc L st h := by
  intro p e R s m args below meth c H locs cells slots ls C hd1 hd2 hd3 hd4 ha hl hc hs
  obtain ⟨hx, hb, -⟩ := id C
  exact lv_dload hx hb hd (gGet_of hl hg) (k p e R s m args below meth c H locs cells slots ls C hd1 hd2 hd3 hd4 ha hl hc hs)
theorem g_aloadN {i : Nat} (hd : decode M.2.1 pc = .ok (.aload i, 2)) (hg : gGet L i = some .null) (k : G Γ M d mc ms Z ZX rc rs (pc + 2) L (.null :: st) h) : G Γ M d mc ms Z ZX rc rs pc L st h := by
  intro p e R s m args below meth c H locs cells slots ls C hd1 hd2 hd3 hd4 ha hl hc hs
  obtain ⟨hx, hb, -⟩ := id C
  exact lv_aloadN hx hb hd (gGet_of hl hg) (k p e R s m args below meth c H locs cells slots ls C hd1 hd2 hd3 hd4 ha hl hc hs)
theorem g_aload_nN {i : Fin 4} (hd : decode M.2.1 pc = .ok (.aload_n i, 1)) (hg : gGet L i.val = some .null) (k : G Γ M d mc ms Z ZX rc rs (pc + 1) L (.null :: st) h) : G Γ M d mc ms Z ZX rc rs pc L st h := by
  intro p e R s m args below meth c H locs cells slots ls C hd1 hd2 hd3 hd4 ha hl hc hs
  obtain ⟨hx, hb, -⟩ := id C
  exact lv_aload_nN hx hb hd rfl (gGet_of hl hg) (k p e R s m args below meth c H locs cells slots ls C hd1 hd2 hd3 hd4 ha hl hc hs)
theorem gSet1_lt {L L' : List (Option Value)} {i : Nat} {v : Value} (h : gSet1 L i v = some L') : i < L.length := by
  unfold gSet1 at h
  split at h
  · next hc => exact hc.1
  · cases h
theorem gSet2_lt {L L' : List (Option Value)} {i : Nat} {v : Value} (h : gSet2 L i v = some L') : i + 1 < L.length := by
  unfold gSet2 at h
  split at h
  · next hc => exact hc.1
  · cases h
theorem g_istore {i : Nat} {x : Int32} (hd : decode M.2.1 pc = .ok (.istore i, 2)) (hn : L.length ≤ M.2.2.1) (hg : gSet1 L i (.int x) = some L') (k : G Γ M d mc ms Z ZX rc rs (pc + 2) L' st h) : G Γ M d mc ms Z ZX rc rs pc L (.int x :: st) h := by
  intro p e R s m args below meth c H locs cells slots ls C hd1 hd2 hd3 hd4 ha hl hc hs
  obtain ⟨hx, hb, -⟩ := id C
  exact lv_istore hx hb hd hl (Nat.lt_of_lt_of_le (gSet1_lt hg) hn) rfl (fun ls hl2 => k p e R s m args below meth c H locs cells slots ls C hd1 hd2 hd3 hd4 ha (gSet1_of hg hl2) hc hs)
theorem g_istore_n {i : Fin 4} {x : Int32} (hd : decode M.2.1 pc = .ok (.istore_n i, 1)) (hn : L.length ≤ M.2.2.1) (hg : gSet1 L i.val (.int x) = some L') (k : G Γ M d mc ms Z ZX rc rs (pc + 1) L' st h) : G Γ M d mc ms Z ZX rc rs pc L (.int x :: st) h := by
  intro p e R s m args below meth c H locs cells slots ls C hd1 hd2 hd3 hd4 ha hl hc hs
  obtain ⟨hx, hb, -⟩ := id C
  exact lv_istore_n hx hb hd rfl hl (Nat.lt_of_lt_of_le (gSet1_lt hg) hn) rfl (fun ls hl2 => k p e R s m args below meth c H locs cells slots ls C hd1 hd2 hd3 hd4 ha (gSet1_of hg hl2) hc hs)
theorem g_astore {i : Nat} {x : Nat} (hd : decode M.2.1 pc = .ok (.astore i, 2)) (hn : L.length ≤ M.2.2.1) (hg : gSet1 L i (.ref x) = some L') (k : G Γ M d mc ms Z ZX rc rs (pc + 2) L' st h) : G Γ M d mc ms Z ZX rc rs pc L (.ref x :: st) h := by
  intro p e R s m args below meth c H locs cells slots ls C hd1 hd2 hd3 hd4 ha hl hc hs
  obtain ⟨hx, hb, -⟩ := id C
  exact lv_astore hx hb hd hl (Nat.lt_of_lt_of_le (gSet1_lt hg) hn) rfl (fun ls hl2 => k p e R s m args below meth c H locs cells slots ls C hd1 hd2 hd3 hd4 ha (gSet1_of hg hl2) hc hs)
theorem g_astore_n {i : Fin 4} {x : Nat} (hd : decode M.2.1 pc = .ok (.astore_n i, 1)) (hn : L.length ≤ M.2.2.1) (hg : gSet1 L i.val (.ref x) = some L') (k : G Γ M d mc ms Z ZX rc rs (pc + 1) L' st h) : G Γ M d mc ms Z ZX rc rs pc L (.ref x :: st) h := by
  intro p e R s m args below meth c H locs cells slots ls C hd1 hd2 hd3 hd4 ha hl hc hs
  obtain ⟨hx, hb, -⟩ := id C
  exact lv_astore_n hx hb hd rfl hl (Nat.lt_of_lt_of_le (gSet1_lt hg) hn) rfl (fun ls hl2 => k p e R s m args below meth c H locs cells slots ls C hd1 hd2 hd3 hd4 ha (gSet1_of hg hl2) hc hs)
theorem g_astoreN {i : Nat} (hd : decode M.2.1 pc = .ok (.astore i, 2)) (hn : L.length ≤ M.2.2.1) (hg : gSet1 L i (.null) = some L') (k : G Γ M d mc ms Z ZX rc rs (pc + 2) L' st h) : G Γ M d mc ms Z ZX rc rs pc L (.null :: st) h := by
  intro p e R s m args below meth c H locs cells slots ls C hd1 hd2 hd3 hd4 ha hl hc hs
  obtain ⟨hx, hb, -⟩ := id C
  exact lv_astoreN hx hb hd hl (Nat.lt_of_lt_of_le (gSet1_lt hg) hn) rfl (fun ls hl2 => k p e R s m args below meth c H locs cells slots ls C hd1 hd2 hd3 hd4 ha (gSet1_of hg hl2) hc hs)
theorem g_astore_nN {i : Fin 4} (hd : decode M.2.1 pc = .ok (.astore_n i, 1)) (hn : L.length ≤ M.2.2.1) (hg : gSet1 L i.val (.null) = some L') (k : G Γ M d mc ms Z ZX rc rs (pc + 1) L' st h) : G Γ M d mc ms Z ZX rc rs pc L (.null :: st) h := by
  intro p e R s m args below meth c H locs cells slots ls C hd1 hd2 hd3 hd4 ha hl hc hs
  obtain ⟨hx, hb, -⟩ := id C
  exact lv_astore_nN hx hb hd rfl hl (Nat.lt_of_lt_of_le (gSet1_lt hg) hn) rfl (fun ls hl2 => k p e R s m args below meth c H locs cells slots ls C hd1 hd2 hd3 hd4 ha (gSet1_of hg hl2) hc hs)
theorem g_fstore {i : Nat} {x : UInt32} (hd : decode M.2.1 pc = .ok (.fstore i, 2)) (hn : L.length ≤ M.2.2.1) (hg : gSet1 L i (.float x) = some L') (k : G Γ M d mc ms Z ZX rc rs (pc + 2) L' st h) : G Γ M d mc ms Z ZX rc rs pc L (.float x :: st) h := by
  intro p e R s m args below meth c H locs cells slots ls C hd1 hd2 hd3 hd4 ha hl hc hs
  obtain ⟨hx, hb, -⟩ := id C
  exact lv_fstore hx hb hd hl (Nat.lt_of_lt_of_le (gSet1_lt hg) hn) rfl (fun ls hl2 => k p e R s m args below meth c H locs cells slots ls C hd1 hd2 hd3 hd4 ha (gSet1_of hg hl2) hc hs)
theorem g_dstore {i : Nat} {x : UInt64} (hd : decode M.2.1 pc = .ok (.dstore i, 2)) (hn : L.length ≤ M.2.2.1) (hg : gSet2 L i (.double x) = some L') (k : G Γ M d mc ms Z ZX rc rs (pc + 2) L' st h) : G Γ M d mc ms Z ZX rc rs pc L (.double x :: st) h := by
  intro p e R s m args below meth c H locs cells slots ls C hd1 hd2 hd3 hd4 ha hl hc hs
  obtain ⟨hx, hb, -⟩ := id C
  exact lv_dstore hx hb hd hl (Nat.lt_of_lt_of_le (gSet2_lt hg) hn) rfl (fun ls hl2 => k p e R s m args below meth c H locs cells slots ls C hd1 hd2 hd3 hd4 ha (gSet2_of hg hl2) hc hs)
theorem g_iinc {i : Nat} {n : Int} {x k9 : Int32} (hd : decode M.2.1 pc = .ok (.iinc i n, 3)) (hv : Int32.ofInt n = k9) (hn : L.length ≤ M.2.2.1) (hg : gGet L i = some (.int x)) (hs9 : gSet1 L i (.int (x + k9)) = some L') (k : G Γ M d mc ms Z ZX rc rs (pc + 3) L' st h) : G Γ M d mc ms Z ZX rc rs pc L st h := by
  intro p e R s m args below meth c H locs cells slots ls C hd1 hd2 hd3 hd4 ha hl hc hs
  obtain ⟨hx, hb, -⟩ := id C
  subst hv
  have hm : (i, Value.int x) ∈ gAs 0 L := by
    refine gAs_mem0.mpr ?_
    unfold gGet at hg
    split at hg
    · next w hw => cases hg; exact hw
    · cases hg
  obtain ⟨j, hj⟩ := List.getElem?_of_mem hm
  exact lv_iinc hx hb hd hl hj rfl (Nat.lt_of_lt_of_le (gSet1_lt hs9) hn) rfl (fun ls hl2 => k p e R s m args below meth c H locs cells slots ls C hd1 hd2 hd3 hd4 ha (gSet1_of hs9 hl2) hc hs)
theorem g_iadd {x y : Int32} (hd : decode M.2.1 pc = .ok (.iadd, 1)) (k : G Γ M d mc ms Z ZX rc rs (pc + 1) L (.int (x + y) :: st) h) : G Γ M d mc ms Z ZX rc rs pc L (.int y :: .int x :: st) h := by
  intro p e R s m args below meth c H locs cells slots ls C hd1 hd2 hd3 hd4 ha hl hc hs
  obtain ⟨hx, hb, -⟩ := id C
  exact lv_iadd hx hb hd (k p e R s m args below meth c H locs cells slots ls C hd1 hd2 hd3 hd4 ha hl hc hs)
theorem g_isub {x y : Int32} (hd : decode M.2.1 pc = .ok (.isub, 1)) (k : G Γ M d mc ms Z ZX rc rs (pc + 1) L (.int (x - y) :: st) h) : G Γ M d mc ms Z ZX rc rs pc L (.int y :: .int x :: st) h := by
  intro p e R s m args below meth c H locs cells slots ls C hd1 hd2 hd3 hd4 ha hl hc hs
  obtain ⟨hx, hb, -⟩ := id C
  exact lv_isub hx hb hd (k p e R s m args below meth c H locs cells slots ls C hd1 hd2 hd3 hd4 ha hl hc hs)
theorem g_imul {x y : Int32} (hd : decode M.2.1 pc = .ok (.imul, 1)) (k : G Γ M d mc ms Z ZX rc rs (pc + 1) L (.int (x * y) :: st) h) : G Γ M d mc ms Z ZX rc rs pc L (.int y :: .int x :: st) h := by
  intro p e R s m args below meth c H locs cells slots ls C hd1 hd2 hd3 hd4 ha hl hc hs
  obtain ⟨hx, hb, -⟩ := id C
  exact lv_imul hx hb hd (k p e R s m args below meth c H locs cells slots ls C hd1 hd2 hd3 hd4 ha hl hc hs)
theorem g_iand {x y : Int32} (hd : decode M.2.1 pc = .ok (.iand, 1)) (k : G Γ M d mc ms Z ZX rc rs (pc + 1) L (.int (x &&& y) :: st) h) : G Γ M d mc ms Z ZX rc rs pc L (.int y :: .int x :: st) h := by
  intro p e R s m args below meth c H locs cells slots ls C hd1 hd2 hd3 hd4 ha hl hc hs
  obtain ⟨hx, hb, -⟩ := id C
  exact lv_iand hx hb hd (k p e R s m args below meth c H locs cells slots ls C hd1 hd2 hd3 hd4 ha hl hc hs)
theorem g_ior {x y : Int32} (hd : decode M.2.1 pc = .ok (.ior, 1)) (k : G Γ M d mc ms Z ZX rc rs (pc + 1) L (.int (x ||| y) :: st) h) : G Γ M d mc ms Z ZX rc rs pc L (.int y :: .int x :: st) h := by
  intro p e R s m args below meth c H locs cells slots ls C hd1 hd2 hd3 hd4 ha hl hc hs
  obtain ⟨hx, hb, -⟩ := id C
  exact lv_ior hx hb hd (k p e R s m args below meth c H locs cells slots ls C hd1 hd2 hd3 hd4 ha hl hc hs)
theorem g_ineg {x : Int32} (hd : decode M.2.1 pc = .ok (.ineg, 1)) (k : G Γ M d mc ms Z ZX rc rs (pc + 1) L (.int (-x) :: st) h) : G Γ M d mc ms Z ZX rc rs pc L (.int x :: st) h := by
  intro p e R s m args below meth c H locs cells slots ls C hd1 hd2 hd3 hd4 ha hl hc hs
  obtain ⟨hx, hb, -⟩ := id C
  exact lv_ineg hx hb hd (k p e R s m args below meth c H locs cells slots ls C hd1 hd2 hd3 hd4 ha hl hc hs)
theorem g_ishl {x y : Int32} (hd : decode M.2.1 pc = .ok (.ishl, 1)) (k : G Γ M d mc ms Z ZX rc rs (pc + 1) L (.int (x <<< (y &&& 31)) :: st) h) : G Γ M d mc ms Z ZX rc rs pc L (.int y :: .int x :: st) h := by
  intro p e R s m args below meth c H locs cells slots ls C hd1 hd2 hd3 hd4 ha hl hc hs
  obtain ⟨hx, hb, -⟩ := id C
  exact lv_ishl hx hb hd (k p e R s m args below meth c H locs cells slots ls C hd1 hd2 hd3 hd4 ha hl hc hs)
theorem g_ishr {x y : Int32} (hd : decode M.2.1 pc = .ok (.ishr, 1)) (k : G Γ M d mc ms Z ZX rc rs (pc + 1) L (.int (x >>> (y &&& 31)) :: st) h) : G Γ M d mc ms Z ZX rc rs pc L (.int y :: .int x :: st) h := by
  intro p e R s m args below meth c H locs cells slots ls C hd1 hd2 hd3 hd4 ha hl hc hs
  obtain ⟨hx, hb, -⟩ := id C
  exact lv_ishr hx hb hd (k p e R s m args below meth c H locs cells slots ls C hd1 hd2 hd3 hd4 ha hl hc hs)
theorem g_i2l {x : Int32} (hd : decode M.2.1 pc = .ok (.i2l, 1)) (k : G Γ M d mc ms Z ZX rc rs (pc + 1) L (.long x.toInt64 :: st) h) : G Γ M d mc ms Z ZX rc rs pc L (.int x :: st) h := by
  intro p e R s m args below meth c H locs cells slots ls C hd1 hd2 hd3 hd4 ha hl hc hs
  obtain ⟨hx, hb, -⟩ := id C
  exact lv_i2l hx hb hd rfl (k p e R s m args below meth c H locs cells slots ls C hd1 hd2 hd3 hd4 ha hl hc hs)
theorem g_i2b {x : Int32} (hd : decode M.2.1 pc = .ok (.i2b, 1)) (k : G Γ M d mc ms Z ZX rc rs (pc + 1) L (.int x.toInt8.toInt32 :: st) h) : G Γ M d mc ms Z ZX rc rs pc L (.int x :: st) h := by
  intro p e R s m args below meth c H locs cells slots ls C hd1 hd2 hd3 hd4 ha hl hc hs
  obtain ⟨hx, hb, -⟩ := id C
  exact lv_i2b hx hb hd rfl (k p e R s m args below meth c H locs cells slots ls C hd1 hd2 hd3 hd4 ha hl hc hs)
theorem g_i2c {x : Int32} (hd : decode M.2.1 pc = .ok (.i2c, 1)) (k : G Γ M d mc ms Z ZX rc rs (pc + 1) L (.int (x.toUInt32 % 65536).toInt32 :: st) h) : G Γ M d mc ms Z ZX rc rs pc L (.int x :: st) h := by
  intro p e R s m args below meth c H locs cells slots ls C hd1 hd2 hd3 hd4 ha hl hc hs
  obtain ⟨hx, hb, -⟩ := id C
  exact lv_i2c hx hb hd rfl (k p e R s m args below meth c H locs cells slots ls C hd1 hd2 hd3 hd4 ha hl hc hs)
theorem g_i2d {x : Int32} (hd : decode M.2.1 pc = .ok (.i2d, 1)) (k : G Γ M d mc ms Z ZX rc rs (pc + 1) L (.double (FP.i2d x) :: st) h) : G Γ M d mc ms Z ZX rc rs pc L (.int x :: st) h := by
  intro p e R s m args below meth c H locs cells slots ls C hd1 hd2 hd3 hd4 ha hl hc hs
  obtain ⟨hx, hb, -⟩ := id C
  exact lv_i2d hx hb hd (k p e R s m args below meth c H locs cells slots ls C hd1 hd2 hd3 hd4 ha hl hc hs)
theorem g_i2f {x : Int32} (hd : decode M.2.1 pc = .ok (.i2f, 1)) (k : G Γ M d mc ms Z ZX rc rs (pc + 1) L (.float (FP.i2f x) :: st) h) : G Γ M d mc ms Z ZX rc rs pc L (.int x :: st) h := by
  intro p e R s m args below meth c H locs cells slots ls C hd1 hd2 hd3 hd4 ha hl hc hs
  obtain ⟨hx, hb, -⟩ := id C
  exact lv_i2f hx hb hd (k p e R s m args below meth c H locs cells slots ls C hd1 hd2 hd3 hd4 ha hl hc hs)
theorem g_lcmp {x y : Int64} (hd : decode M.2.1 pc = .ok (.lcmp, 1)) (k : G Γ M d mc ms Z ZX rc rs (pc + 1) L (.int (lg_cmp x y) :: st) h) : G Γ M d mc ms Z ZX rc rs pc L (.long y :: .long x :: st) h := by
  intro p e R s m args below meth c H locs cells slots ls C hd1 hd2 hd3 hd4 ha hl hc hs
  obtain ⟨hx, hb, -⟩ := id C
  exact W.lcmp hx hb hd (k p e R s m args below meth c H locs cells slots ls C hd1 hd2 hd3 hd4 ha hl hc hs)
theorem g_dcmp {x y : UInt64} {op : CmpOp} (hd : decode M.2.1 pc = .ok (.dcmp op, 1)) (k : G Γ M d mc ms Z ZX rc rs (pc + 1) L (.int (Op.cmpValue (FP.dcmp x y) op) :: st) h) : G Γ M d mc ms Z ZX rc rs pc L (.double y :: .double x :: st) h := by
  intro p e R s m args below meth c H locs cells slots ls C hd1 hd2 hd3 hd4 ha hl hc hs
  obtain ⟨hx, hb, -⟩ := id C
  exact lv_dcmp hx hb hd (k p e R s m args below meth c H locs cells slots ls C hd1 hd2 hd3 hd4 ha hl hc hs)
theorem g_fcmp {x y : UInt32} {op : CmpOp} (hd : decode M.2.1 pc = .ok (.fcmp op, 1)) (k : G Γ M d mc ms Z ZX rc rs (pc + 1) L (.int (Op.cmpValue (FP.fcmp x y) op) :: st) h) : G Γ M d mc ms Z ZX rc rs pc L (.float y :: .float x :: st) h := by
  intro p e R s m args below meth c H locs cells slots ls C hd1 hd2 hd3 hd4 ha hl hc hs
  obtain ⟨hx, hb, -⟩ := id C
  exact lv_fcmp hx hb hd (k p e R s m args below meth c H locs cells slots ls C hd1 hd2 hd3 hd4 ha hl hc hs)
theorem g_dup {v : Value} (hv : v.category = 1) (hd : decode M.2.1 pc = .ok (.dup, 1)) (k : G Γ M d mc ms Z ZX rc rs (pc + 1) L (v :: v :: st) h) : G Γ M d mc ms Z ZX rc rs pc L (v :: st) h := by
  intro p e R s m args below meth c H locs cells slots ls C hd1 hd2 hd3 hd4 ha hl hc hs
  obtain ⟨hx, hb, -⟩ := id C
  exact lv_dup hx hb hd hv (k p e R s m args below meth c H locs cells slots ls C hd1 hd2 hd3 hd4 ha hl hc hs)
theorem g_pop {v : Value} (hv : v.category = 1) (hd : decode M.2.1 pc = .ok (.pop, 1)) (k : G Γ M d mc ms Z ZX rc rs (pc + 1) L (st) h) : G Γ M d mc ms Z ZX rc rs pc L (v :: st) h := by
  intro p e R s m args below meth c H locs cells slots ls C hd1 hd2 hd3 hd4 ha hl hc hs
  obtain ⟨hx, hb, -⟩ := id C
  exact lv_pop hx hb hd hv (k p e R s m args below meth c H locs cells slots ls C hd1 hd2 hd3 hd4 ha hl hc hs)
theorem g_dup_x1 {v w : Value} (hv : v.category = 1) (hw : w.category = 1) (hd : decode M.2.1 pc = .ok (.dup_x1, 1)) (k : G Γ M d mc ms Z ZX rc rs (pc + 1) L (v :: w :: v :: st) h) : G Γ M d mc ms Z ZX rc rs pc L (v :: w :: st) h := by
  intro p e R s m args below meth c H locs cells slots ls C hd1 hd2 hd3 hd4 ha hl hc hs
  obtain ⟨hx, hb, -⟩ := id C
  exact lv_dup_x1 hx hb hd hv hw (k p e R s m args below meth c H locs cells slots ls C hd1 hd2 hd3 hd4 ha hl hc hs)
theorem g_dup2 {v w : Value} (hv : v.category = 1) (hw : w.category = 1) (hd : decode M.2.1 pc = .ok (.dup2, 1)) (k : G Γ M d mc ms Z ZX rc rs (pc + 1) L (v :: w :: v :: w :: st) h) : G Γ M d mc ms Z ZX rc rs pc L (v :: w :: st) h := by
  intro p e R s m args below meth c H locs cells slots ls C hd1 hd2 hd3 hd4 ha hl hc hs
  obtain ⟨hx, hb, -⟩ := id C
  exact lv_dup2_11 hx hb hd hv hw (k p e R s m args below meth c H locs cells slots ls C hd1 hd2 hd3 hd4 ha hl hc hs)
theorem g_goto {off : Int} {tgt : Nat} (hd : decode M.2.1 pc = .ok (.goto off, 3)) (ht : (pc : Int) + off = (tgt : Int)) (k : G Γ M d mc ms Z ZX rc rs tgt L st h) : G Γ M d mc ms Z ZX rc rs pc L st h := by
  intro p e R s m args below meth c H locs cells slots ls C hd1 hd2 hd3 hd4 ha hl hc hs
  obtain ⟨hx, hb, -⟩ := id C
  exact lv_goto hx hb hd ht (k p e R s m args below meth c H locs cells slots ls C hd1 hd2 hd3 hd4 ha hl hc hs)
theorem g_idiv {x y : Int32} (hne : ¬ y = 0) (hd : decode M.2.1 pc = .ok (.idiv, 1)) (k : G Γ M d mc ms Z ZX rc rs (pc + 1) L (.int (x / y) :: st) h) : G Γ M d mc ms Z ZX rc rs pc L (.int y :: .int x :: st) h := by
  intro p e R s m args below meth c H locs cells slots ls C hd1 hd2 hd3 hd4 ha hl hc hs
  obtain ⟨hx, hb, -⟩ := id C
  exact lv_idiv hx hb hd hne (k p e R s m args below meth c H locs cells slots ls C hd1 hd2 hd3 hd4 ha hl hc hs)
theorem g_irem {x y : Int32} (hne : ¬ y = 0) (hd : decode M.2.1 pc = .ok (.irem, 1)) (k : G Γ M d mc ms Z ZX rc rs (pc + 1) L (.int (x - x / y * y) :: st) h) : G Γ M d mc ms Z ZX rc rs pc L (.int y :: .int x :: st) h := by
  intro p e R s m args below meth c H locs cells slots ls C hd1 hd2 hd3 hd4 ha hl hc hs
  obtain ⟨hx, hb, -⟩ := id C
  exact lv_irem hx hb hd hne (k p e R s m args below meth c H locs cells slots ls C hd1 hd2 hd3 hd4 ha hl hc hs)
theorem g_iushr {x y v : Int32} (hv : (x.toUInt32 >>> (y.toUInt32 &&& Int32.toUInt32 31)).toInt32 = v) (hd : decode M.2.1 pc = .ok (.iushr, 1)) (k : G Γ M d mc ms Z ZX rc rs (pc + 1) L (.int v :: st) h) : G Γ M d mc ms Z ZX rc rs pc L (.int y :: .int x :: st) h := by
  intro p e R s m args below meth c H locs cells slots ls C hd1 hd2 hd3 hd4 ha hl hc hs
  obtain ⟨hx, hb, -⟩ := id C
  exact lv_iushr hx hb hd hv (k p e R s m args below meth c H locs cells slots ls C hd1 hd2 hd3 hd4 ha hl hc hs)
theorem g_ddiv {x y : UInt64} (hne : vf_n64 (FP.ddiv x y)) (hd : decode M.2.1 pc = .ok (.ddiv, 1)) (k : G Γ M d mc ms Z ZX rc rs (pc + 1) L (.double (FP.ddiv x y) :: st) h) : G Γ M d mc ms Z ZX rc rs pc L (.double y :: .double x :: st) h := by
  intro p e R s m args below meth c H locs cells slots ls C hd1 hd2 hd3 hd4 ha hl hc hs
  obtain ⟨hx, hb, -⟩ := id C
  exact lv_ddiv hx hb hd hne (k p e R s m args below meth c H locs cells slots ls C hd1 hd2 hd3 hd4 ha hl hc hs)
theorem g_fdiv {x y : UInt32} (hne : vf_n32 (FP.fdiv x y)) (hd : decode M.2.1 pc = .ok (.fdiv, 1)) (k : G Γ M d mc ms Z ZX rc rs (pc + 1) L (.float (FP.fdiv x y) :: st) h) : G Γ M d mc ms Z ZX rc rs pc L (.float y :: .float x :: st) h := by
  intro p e R s m args below meth c H locs cells slots ls C hd1 hd2 hd3 hd4 ha hl hc hs
  obtain ⟨hx, hb, -⟩ := id C
  exact lv_fdiv hx hb hd hne (k p e R s m args below meth c H locs cells slots ls C hd1 hd2 hd3 hd4 ha hl hc hs)
theorem g_f2d {x : UInt32} (hne : vf_n64 (FP.f2d x)) (hd : decode M.2.1 pc = .ok (.f2d, 1)) (k : G Γ M d mc ms Z ZX rc rs (pc + 1) L (.double (FP.f2d x) :: st) h) : G Γ M d mc ms Z ZX rc rs pc L (.float x :: st) h := by
  intro p e R s m args below meth c H locs cells slots ls C hd1 hd2 hd3 hd4 ha hl hc hs
  obtain ⟨hx, hb, -⟩ := id C
  exact lv_f2d hx hb hd hne (k p e R s m args below meth c H locs cells slots ls C hd1 hd2 hd3 hd4 ha hl hc hs)
theorem g_icmp_eq {x y : Int32} {off : Int} {tgt : Nat} (hd : decode M.2.1 pc = .ok (.if_icmp .eq off, 3)) (ht : (pc : Int) + off = (tgt : Int)) (kt : x = y → G Γ M d mc ms Z ZX rc rs tgt L st h) (kf : ¬ x = y → G Γ M d mc ms Z ZX rc rs (pc + 3) L st h) : G Γ M d mc ms Z ZX rc rs pc L (.int y :: .int x :: st) h := by
  intro p e R s m args below meth c H locs cells slots ls C hd1 hd2 hd3 hd4 ha hl hc hs
  obtain ⟨hx, hb, -⟩ := id C
  exact lv_icmp_eq hx hb hd ht (fun q => kt q p e R s m args below meth c H locs cells slots ls C hd1 hd2 hd3 hd4 ha hl hc hs) (fun q => kf q p e R s m args below meth c H locs cells slots ls C hd1 hd2 hd3 hd4 ha hl hc hs)
theorem g_if_eq {x : Int32} {off : Int} {tgt : Nat} (hd : decode M.2.1 pc = .ok (.ifCond .eq off, 3)) (ht : (pc : Int) + off = (tgt : Int)) (kt : x = 0 → G Γ M d mc ms Z ZX rc rs tgt L st h) (kf : ¬ x = 0 → G Γ M d mc ms Z ZX rc rs (pc + 3) L st h) : G Γ M d mc ms Z ZX rc rs pc L (.int x :: st) h := by
  intro p e R s m args below meth c H locs cells slots ls C hd1 hd2 hd3 hd4 ha hl hc hs
  obtain ⟨hx, hb, -⟩ := id C
  exact lv_if_eq hx hb hd ht (fun q => kt q p e R s m args below meth c H locs cells slots ls C hd1 hd2 hd3 hd4 ha hl hc hs) (fun q => kf q p e R s m args below meth c H locs cells slots ls C hd1 hd2 hd3 hd4 ha hl hc hs)
theorem g_icmp_ne {x y : Int32} {off : Int} {tgt : Nat} (hd : decode M.2.1 pc = .ok (.if_icmp .ne off, 3)) (ht : (pc : Int) + off = (tgt : Int)) (kt : ¬ x = y → G Γ M d mc ms Z ZX rc rs tgt L st h) (kf : x = y → G Γ M d mc ms Z ZX rc rs (pc + 3) L st h) : G Γ M d mc ms Z ZX rc rs pc L (.int y :: .int x :: st) h := by
  intro p e R s m args below meth c H locs cells slots ls C hd1 hd2 hd3 hd4 ha hl hc hs
  obtain ⟨hx, hb, -⟩ := id C
  exact lv_icmp_ne hx hb hd ht (fun q => kt q p e R s m args below meth c H locs cells slots ls C hd1 hd2 hd3 hd4 ha hl hc hs) (fun q => kf q p e R s m args below meth c H locs cells slots ls C hd1 hd2 hd3 hd4 ha hl hc hs)
theorem g_if_ne {x : Int32} {off : Int} {tgt : Nat} (hd : decode M.2.1 pc = .ok (.ifCond .ne off, 3)) (ht : (pc : Int) + off = (tgt : Int)) (kt : ¬ x = 0 → G Γ M d mc ms Z ZX rc rs tgt L st h) (kf : x = 0 → G Γ M d mc ms Z ZX rc rs (pc + 3) L st h) : G Γ M d mc ms Z ZX rc rs pc L (.int x :: st) h := by
  intro p e R s m args below meth c H locs cells slots ls C hd1 hd2 hd3 hd4 ha hl hc hs
  obtain ⟨hx, hb, -⟩ := id C
  exact lv_if_ne hx hb hd ht (fun q => kt q p e R s m args below meth c H locs cells slots ls C hd1 hd2 hd3 hd4 ha hl hc hs) (fun q => kf q p e R s m args below meth c H locs cells slots ls C hd1 hd2 hd3 hd4 ha hl hc hs)
theorem g_icmp_lt {x y : Int32} {off : Int} {tgt : Nat} (hd : decode M.2.1 pc = .ok (.if_icmp .lt off, 3)) (ht : (pc : Int) + off = (tgt : Int)) (kt : x < y → G Γ M d mc ms Z ZX rc rs tgt L st h) (kf : ¬ x < y → G Γ M d mc ms Z ZX rc rs (pc + 3) L st h) : G Γ M d mc ms Z ZX rc rs pc L (.int y :: .int x :: st) h := by
  intro p e R s m args below meth c H locs cells slots ls C hd1 hd2 hd3 hd4 ha hl hc hs
  obtain ⟨hx, hb, -⟩ := id C
  exact lv_icmp_lt hx hb hd ht (fun q => kt q p e R s m args below meth c H locs cells slots ls C hd1 hd2 hd3 hd4 ha hl hc hs) (fun q => kf q p e R s m args below meth c H locs cells slots ls C hd1 hd2 hd3 hd4 ha hl hc hs)
theorem g_if_lt {x : Int32} {off : Int} {tgt : Nat} (hd : decode M.2.1 pc = .ok (.ifCond .lt off, 3)) (ht : (pc : Int) + off = (tgt : Int)) (kt : x < 0 → G Γ M d mc ms Z ZX rc rs tgt L st h) (kf : ¬ x < 0 → G Γ M d mc ms Z ZX rc rs (pc + 3) L st h) : G Γ M d mc ms Z ZX rc rs pc L (.int x :: st) h := by
  intro p e R s m args below meth c H locs cells slots ls C hd1 hd2 hd3 hd4 ha hl hc hs
  obtain ⟨hx, hb, -⟩ := id C
  exact lv_if_lt hx hb hd ht (fun q => kt q p e R s m args below meth c H locs cells slots ls C hd1 hd2 hd3 hd4 ha hl hc hs) (fun q => kf q p e R s m args below meth c H locs cells slots ls C hd1 hd2 hd3 hd4 ha hl hc hs)
theorem g_icmp_ge {x y : Int32} {off : Int} {tgt : Nat} (hd : decode M.2.1 pc = .ok (.if_icmp .ge off, 3)) (ht : (pc : Int) + off = (tgt : Int)) (kt : y ≤ x → G Γ M d mc ms Z ZX rc rs tgt L st h) (kf : ¬ y ≤ x → G Γ M d mc ms Z ZX rc rs (pc + 3) L st h) : G Γ M d mc ms Z ZX rc rs pc L (.int y :: .int x :: st) h := by
  intro p e R s m args below meth c H locs cells slots ls C hd1 hd2 hd3 hd4 ha hl hc hs
  obtain ⟨hx, hb, -⟩ := id C
  exact lv_icmp_ge hx hb hd ht (fun q => kt q p e R s m args below meth c H locs cells slots ls C hd1 hd2 hd3 hd4 ha hl hc hs) (fun q => kf q p e R s m args below meth c H locs cells slots ls C hd1 hd2 hd3 hd4 ha hl hc hs)
theorem g_if_ge {x : Int32} {off : Int} {tgt : Nat} (hd : decode M.2.1 pc = .ok (.ifCond .ge off, 3)) (ht : (pc : Int) + off = (tgt : Int)) (kt : 0 ≤ x → G Γ M d mc ms Z ZX rc rs tgt L st h) (kf : ¬ 0 ≤ x → G Γ M d mc ms Z ZX rc rs (pc + 3) L st h) : G Γ M d mc ms Z ZX rc rs pc L (.int x :: st) h := by
  intro p e R s m args below meth c H locs cells slots ls C hd1 hd2 hd3 hd4 ha hl hc hs
  obtain ⟨hx, hb, -⟩ := id C
  exact lv_if_ge hx hb hd ht (fun q => kt q p e R s m args below meth c H locs cells slots ls C hd1 hd2 hd3 hd4 ha hl hc hs) (fun q => kf q p e R s m args below meth c H locs cells slots ls C hd1 hd2 hd3 hd4 ha hl hc hs)
theorem g_icmp_gt {x y : Int32} {off : Int} {tgt : Nat} (hd : decode M.2.1 pc = .ok (.if_icmp .gt off, 3)) (ht : (pc : Int) + off = (tgt : Int)) (kt : y < x → G Γ M d mc ms Z ZX rc rs tgt L st h) (kf : ¬ y < x → G Γ M d mc ms Z ZX rc rs (pc + 3) L st h) : G Γ M d mc ms Z ZX rc rs pc L (.int y :: .int x :: st) h := by
  intro p e R s m args below meth c H locs cells slots ls C hd1 hd2 hd3 hd4 ha hl hc hs
  obtain ⟨hx, hb, -⟩ := id C
  exact lv_icmp_gt hx hb hd ht (fun q => kt q p e R s m args below meth c H locs cells slots ls C hd1 hd2 hd3 hd4 ha hl hc hs) (fun q => kf q p e R s m args below meth c H locs cells slots ls C hd1 hd2 hd3 hd4 ha hl hc hs)
theorem g_if_gt {x : Int32} {off : Int} {tgt : Nat} (hd : decode M.2.1 pc = .ok (.ifCond .gt off, 3)) (ht : (pc : Int) + off = (tgt : Int)) (kt : 0 < x → G Γ M d mc ms Z ZX rc rs tgt L st h) (kf : ¬ 0 < x → G Γ M d mc ms Z ZX rc rs (pc + 3) L st h) : G Γ M d mc ms Z ZX rc rs pc L (.int x :: st) h := by
  intro p e R s m args below meth c H locs cells slots ls C hd1 hd2 hd3 hd4 ha hl hc hs
  obtain ⟨hx, hb, -⟩ := id C
  exact lv_if_gt hx hb hd ht (fun q => kt q p e R s m args below meth c H locs cells slots ls C hd1 hd2 hd3 hd4 ha hl hc hs) (fun q => kf q p e R s m args below meth c H locs cells slots ls C hd1 hd2 hd3 hd4 ha hl hc hs)
theorem g_icmp_le {x y : Int32} {off : Int} {tgt : Nat} (hd : decode M.2.1 pc = .ok (.if_icmp .le off, 3)) (ht : (pc : Int) + off = (tgt : Int)) (kt : x ≤ y → G Γ M d mc ms Z ZX rc rs tgt L st h) (kf : ¬ x ≤ y → G Γ M d mc ms Z ZX rc rs (pc + 3) L st h) : G Γ M d mc ms Z ZX rc rs pc L (.int y :: .int x :: st) h := by
  intro p e R s m args below meth c H locs cells slots ls C hd1 hd2 hd3 hd4 ha hl hc hs
  obtain ⟨hx, hb, -⟩ := id C
  exact lv_icmp_le hx hb hd ht (fun q => kt q p e R s m args below meth c H locs cells slots ls C hd1 hd2 hd3 hd4 ha hl hc hs) (fun q => kf q p e R s m args below meth c H locs cells slots ls C hd1 hd2 hd3 hd4 ha hl hc hs)
theorem g_if_le {x : Int32} {off : Int} {tgt : Nat} (hd : decode M.2.1 pc = .ok (.ifCond .le off, 3)) (ht : (pc : Int) + off = (tgt : Int)) (kt : x ≤ 0 → G Γ M d mc ms Z ZX rc rs tgt L st h) (kf : ¬ x ≤ 0 → G Γ M d mc ms Z ZX rc rs (pc + 3) L st h) : G Γ M d mc ms Z ZX rc rs pc L (.int x :: st) h := by
  intro p e R s m args below meth c H locs cells slots ls C hd1 hd2 hd3 hd4 ha hl hc hs
  obtain ⟨hx, hb, -⟩ := id C
  exact lv_if_le hx hb hd ht (fun q => kt q p e R s m args below meth c H locs cells slots ls C hd1 hd2 hd3 hd4 ha hl hc hs) (fun q => kf q p e R s m args below meth c H locs cells slots ls C hd1 hd2 hd3 hd4 ha hl hc hs)
theorem g_acmp_eq {rx ry : Option Nat} {off : Int} {tgt : Nat} (hd : decode M.2.1 pc = .ok (.if_acmp .eq off, 3)) (ht : (pc : Int) + off = (tgt : Int)) (kt : rx = ry → G Γ M d mc ms Z ZX rc rs tgt L st h) (kf : ¬ rx = ry → G Γ M d mc ms Z ZX rc rs (pc + 3) L st h) : G Γ M d mc ms Z ZX rc rs pc L (va_rf ry :: va_rf rx :: st) h := by
  intro p e R s m args below meth c H locs cells slots ls C hd1 hd2 hd3 hd4 ha hl hc hs
  obtain ⟨hx, hb, -⟩ := id C
  exact lv_acmp_eq hx hb hd ht (fun q => kt q p e R s m args below meth c H locs cells slots ls C hd1 hd2 hd3 hd4 ha hl hc hs) (fun q => kf q p e R s m args below meth c H locs cells slots ls C hd1 hd2 hd3 hd4 ha hl hc hs)
theorem g_acmp_ne {rx ry : Option Nat} {off : Int} {tgt : Nat} (hd : decode M.2.1 pc = .ok (.if_acmp .ne off, 3)) (ht : (pc : Int) + off = (tgt : Int)) (kt : ¬ rx = ry → G Γ M d mc ms Z ZX rc rs tgt L st h) (kf : rx = ry → G Γ M d mc ms Z ZX rc rs (pc + 3) L st h) : G Γ M d mc ms Z ZX rc rs pc L (va_rf ry :: va_rf rx :: st) h := by
  intro p e R s m args below meth c H locs cells slots ls C hd1 hd2 hd3 hd4 ha hl hc hs
  obtain ⟨hx, hb, -⟩ := id C
  exact lv_acmp_ne hx hb hd ht (fun q => kt q p e R s m args below meth c H locs cells slots ls C hd1 hd2 hd3 hd4 ha hl hc hs) (fun q => kf q p e R s m args below meth c H locs cells slots ls C hd1 hd2 hd3 hd4 ha hl hc hs)
theorem g_ifnull {x : Nat} {off : Int} (hd : decode M.2.1 pc = .ok (.ifnull off, 3)) (k : G Γ M d mc ms Z ZX rc rs (pc + 3) L st h) : G Γ M d mc ms Z ZX rc rs pc L (.ref x :: st) h := by
  intro p e R s m args below meth c H locs cells slots ls C hd1 hd2 hd3 hd4 ha hl hc hs
  obtain ⟨hx, hb, -⟩ := id C
  exact lv_ifnull hx hb hd (k p e R s m args below meth c H locs cells slots ls C hd1 hd2 hd3 hd4 ha hl hc hs)
theorem g_ifnonnull {x : Nat} {off : Int} {tgt : Nat} (hd : decode M.2.1 pc = .ok (.ifnonnull off, 3)) (ht : (pc : Int) + off = (tgt : Int)) (k : G Γ M d mc ms Z ZX rc rs tgt L st h) : G Γ M d mc ms Z ZX rc rs pc L (.ref x :: st) h := by
  intro p e R s m args below meth c H locs cells slots ls C hd1 hd2 hd3 hd4 ha hl hc hs
  obtain ⟨hx, hb, -⟩ := id C
  exact lv_ifnonnull hx hb hd ht (k p e R s m args below meth c H locs cells slots ls C hd1 hd2 hd3 hd4 ha hl hc hs)
theorem g_ifnullN {off : Int} {tgt : Nat} (hd : decode M.2.1 pc = .ok (.ifnull off, 3)) (ht : (pc : Int) + off = (tgt : Int)) (k : G Γ M d mc ms Z ZX rc rs tgt L st h) : G Γ M d mc ms Z ZX rc rs pc L (.null :: st) h := by
  intro p e R s m args below meth c H locs cells slots ls C hd1 hd2 hd3 hd4 ha hl hc hs
  obtain ⟨hx, hb, -⟩ := id C
  exact lv_ifnullN hx hb hd ht (k p e R s m args below meth c H locs cells slots ls C hd1 hd2 hd3 hd4 ha hl hc hs)
theorem g_ifnonnullN {off : Int} (hd : decode M.2.1 pc = .ok (.ifnonnull off, 3)) (k : G Γ M d mc ms Z ZX rc rs (pc + 3) L st h) : G Γ M d mc ms Z ZX rc rs pc L (.null :: st) h := by
  intro p e R s m args below meth c H locs cells slots ls C hd1 hd2 hd3 hd4 ha hl hc hs
  obtain ⟨hx, hb, -⟩ := id C
  exact lv_ifnonnullN hx hb hd (k p e R s m args below meth c H locs cells slots ls C hd1 hd2 hd3 hd4 ha hl hc hs)
theorem g_tableIn {dflt lo hi : Int} {offs : Array Int} {len : Nat} {x : Int32} {off : Int} {tgt : Nat} (hd : decode M.2.1 pc = .ok (.tableswitch dflt lo hi offs, len)) (h1 : ¬ x.toInt < lo) (h2 : ¬ hi < x.toInt) (ho : offs[(x.toInt - lo).toNat]? = some off) (ht : (pc : Int) + off = (tgt : Int)) (k : G Γ M d mc ms Z ZX rc rs tgt L st h) : G Γ M d mc ms Z ZX rc rs pc L (.int x :: st) h := by
  intro p e R s m args below meth c H locs cells slots ls C hd1 hd2 hd3 hd4 ha hl hc hs
  obtain ⟨hx, hb, -⟩ := id C
  exact lv_tableIn hx hb hd h1 h2 ho ht (k p e R s m args below meth c H locs cells slots ls C hd1 hd2 hd3 hd4 ha hl hc hs)
theorem g_tableOut {dflt lo hi : Int} {offs : Array Int} {len : Nat} {x : Int32} {tgt : Nat} (hd : decode M.2.1 pc = .ok (.tableswitch dflt lo hi offs, len)) (h1 : x.toInt < lo ∨ hi < x.toInt) (ht : (pc : Int) + dflt = (tgt : Int)) (k : G Γ M d mc ms Z ZX rc rs tgt L st h) : G Γ M d mc ms Z ZX rc rs pc L (.int x :: st) h := by
  intro p e R s m args below meth c H locs cells slots ls C hd1 hd2 hd3 hd4 ha hl hc hs
  obtain ⟨hx, hb, -⟩ := id C
  exact lv_tableOut hx hb hd h1 ht (k p e R s m args below meth c H locs cells slots ls C hd1 hd2 hd3 hd4 ha hl hc hs)
def gLe : List (Option Value) → List (Option Value) → Prop
  | [], _ => True
  | none :: t, [] => gLe t []
  | none :: t, _ :: u => gLe t u
  | some _ :: _, [] => False
  | some v :: t, w :: u => w = some v ∧ gLe t u
theorem gLe_of : ∀ {A B : List (Option Value)}, gLe A B → ∀ (i : Nat) (v : Value), A[i]? = some (some v) → B[i]? = some (some v)
  | [], _, _, i, v, h => by simp at h
  | none :: t, [], hh, i, v, h => by
    cases i with
    | zero => simp at h
    | succ i => have := gLe_of (A := t) (B := []) hh i v (by simpa using h); simp at this
  | none :: t, w :: u, hh, i, v, h => by
    cases i with
    | zero => simp at h
    | succ i => simpa using gLe_of (A := t) (B := u) hh i v (by simpa using h)
  | some _ :: _, [], hh, _, _, _ => hh.elim
  | some w :: t, x :: u, hh, i, v, h => by
    cases i with
    | zero => rw [hh.1]; simpa using h
    | succ i => simpa using gLe_of (A := t) (B := u) hh.2 i v (by simpa using h)
/-- fewer locals, more room -/
theorem g_weak {rc' rs' : Nat} (hL : gLe L' L) (h1 : rc' ≤ rc) (h2 : rs' ≤ rs) (k : G Γ M d mc ms Z ZX rc' rs' pc L' st h) : G Γ M d mc ms Z ZX rc rs pc L st h := by
  intro p e R s m args below meth c H locs cells slots ls C hd1 hd2 hd3 hd4 ha hl hc hs
  exact k p e R s m args below meth c H locs cells slots ls C hd1 hd2 hd3 hd4 ha ⟨hl.1, hl.2.1, fun q hq => hl.2.2 q (gAs_mem0.mpr (gLe_of hL _ _ (gAs_mem0.mp hq)))⟩ (by omega) (by omega)
theorem gSet_len {i : Nat} {v : Value} (h : gSet1 L i v = some L') : L'.length = L.length := by
  unfold gSet1 at h
  split at h
  · cases h; simp
  · cases h
theorem gSet2_len {i : Nat} {v : Value} (h : gSet2 L i v = some L') : L'.length = L.length := by
  unfold gSet2 at h
  split at h
  · cases h; simp
  · cases h

theorem g_gotoV {o : Int} {v : Value} (hd : decode M.2.1 pc = .ok (.goto o, 3)) (ha : gAnn (.goto o) pc v = true) (k : G Γ M d mc ms Z ZX rc rs (gNx (.goto o) pc v) L st h) : G Γ M d mc ms Z ZX rc rs pc L st h := by
  cases v <;> first | (simp [gAnn] at ha; done) | exact g_goto hd (of_decide_eq_true ha) k
set_option maxHeartbeats 4000000 in
theorem g_step {i : Instr} {v : Value} (hn : L.length ≤ M.2.2.1) (hd : decode M.2.1 pc = .ok (i, gLen i)) (ha : gAnn i pc v = true) (hp : gP1 i v L st = some (L', st')) (k : G Γ M d mc ms Z ZX rc rs (gNx i pc v) L' st' h) : L'.length = L.length ∧ G Γ M d mc ms Z ZX rc rs pc L st h := by
  unfold gP1 at hp
  split at hp
  · cases hp; exact ⟨rfl, g_iconst hd (of_decide_eq_true ha) k⟩
  · cases hp; exact ⟨rfl, g_bipush hd (of_decide_eq_true ha) k⟩
  · cases hp; exact ⟨rfl, g_sipush hd (of_decide_eq_true ha) k⟩
  · cases hp; exact ⟨rfl, g_lconst hd (of_decide_eq_true ha) k⟩
  · cases hp; exact ⟨rfl, g_null hd k⟩
  · split at hp
    · next hg => cases hp; exact ⟨rfl, g_iload hd hg k⟩
    · cases hp
  · split at hp
    · next hg => cases hp; exact ⟨rfl, g_iload_n hd hg k⟩
    · cases hp
  · split at hp
    · next hg => cases hp; exact ⟨rfl, g_aload hd hg k⟩
    · next hg => cases hp; exact ⟨rfl, g_aloadN hd hg k⟩
    · cases hp
  · split at hp
    · next hg => cases hp; exact ⟨rfl, g_aload_n hd hg k⟩
    · next hg => cases hp; exact ⟨rfl, g_aload_nN hd hg k⟩
    · cases hp
  · split at hp
    · next hg => cases hp; exact ⟨rfl, g_fload hd hg k⟩
    · cases hp
  · split at hp
    · next hg => cases hp; exact ⟨rfl, g_dload hd hg k⟩
    · cases hp
  · split at hp
    · next hg => cases hp; exact ⟨gSet_len hg, g_istore hd hn hg k⟩
    · cases hp
  · split at hp
    · next hg => cases hp; exact ⟨gSet_len hg, g_istore_n hd hn hg k⟩
    · cases hp
  · split at hp
    · next hg => cases hp; exact ⟨gSet_len hg, g_astore hd hn hg k⟩
    · cases hp
  · split at hp
    · next hg => cases hp; exact ⟨gSet_len hg, g_astoreN hd hn hg k⟩
    · cases hp
  · split at hp
    · next hg => cases hp; exact ⟨gSet_len hg, g_astore_n hd hn hg k⟩
    · cases hp
  · split at hp
    · next hg => cases hp; exact ⟨gSet_len hg, g_astore_nN hd hn hg k⟩
    · cases hp
  · split at hp
    · next hg => cases hp; exact ⟨gSet_len hg, g_fstore hd hn hg k⟩
    · cases hp
  · split at hp
    · next hg => cases hp; exact ⟨gSet2_len hg, g_dstore hd hn hg k⟩
    · cases hp
  · split at hp
    · next hg =>
      split at hp
      · next hg2 => cases hp; exact ⟨gSet_len hg2, g_iinc hd (of_decide_eq_true ha) hn hg hg2 k⟩
      · cases hp
    · cases hp
  · cases hp; exact ⟨rfl, g_dup rfl hd k⟩
  · cases hp; exact ⟨rfl, g_dup rfl hd k⟩
  · cases hp; exact ⟨rfl, g_dup rfl hd k⟩
  · cases hp; exact ⟨rfl, g_dup_x1 rfl rfl hd k⟩
  · cases hp; exact ⟨rfl, g_dup_x1 rfl rfl hd k⟩
  · cases hp; exact ⟨rfl, g_dup2 rfl rfl hd k⟩
  · cases hp; exact ⟨rfl, g_pop rfl hd k⟩
  · cases hp; exact ⟨rfl, g_pop rfl hd k⟩
  · cases hp; exact ⟨rfl, g_iadd hd k⟩
  · cases hp; exact ⟨rfl, g_isub hd k⟩
  · cases hp; exact ⟨rfl, g_imul hd k⟩
  · cases hp; exact ⟨rfl, g_iand hd k⟩
  · cases hp; exact ⟨rfl, g_ior hd k⟩
  · cases hp; exact ⟨rfl, g_ineg hd k⟩
  · cases hp; exact ⟨rfl, g_ishl hd k⟩
  · cases hp; exact ⟨rfl, g_ishr hd k⟩
  · cases hp; exact ⟨rfl, g_i2l hd k⟩
  · cases hp; exact ⟨rfl, g_i2b hd k⟩
  · cases hp; exact ⟨rfl, g_i2c hd k⟩
  · cases hp; exact ⟨rfl, g_i2d hd k⟩
  · cases hp; exact ⟨rfl, g_i2f hd k⟩
  · cases hp; exact ⟨rfl, g_lcmp hd k⟩
  · cases hp; exact ⟨rfl, g_dcmp hd k⟩
  · cases hp; exact ⟨rfl, g_fcmp hd k⟩
  · cases hp
    exact ⟨rfl, g_gotoV hd ha k⟩
  · cases hp
theorem g_len {i : Instr} {v : Value} (hp : gP1 i v L st = some (L', st')) : L'.length = L.length := by
  unfold gP1 at hp
  split at hp <;> first | (cases hp; done) | (cases hp; rfl) | (split at hp <;> first | (cases hp; done) | (cases hp; rfl) | (rename_i hg; cases hp; exact gSet_len hg) | (rename_i hg; cases hp; exact gSet2_len hg) | (split at hp <;> first | (cases hp; done) | (rename_i hg; cases hp; exact gSet_len hg)))
theorem g_blk (l9 : List (Instr × Value)) (hn : L.length ≤ M.2.2.1) (hd : gChk M.2.1 pc l9 = true) (k : gEx l9 pc L st (fun pc L st => G Γ M d mc ms Z ZX rc rs pc L st h)) : G Γ M d mc ms Z ZX rc rs pc L st h := by
  induction l9 generalizing pc L st with
  | nil => exact k
  | cons a t ih =>
    obtain ⟨i, v⟩ := a
    unfold gChk at hd
    rw [Bool.and_eq_true, Bool.and_eq_true] at hd
    obtain ⟨⟨h1, h2⟩, h3⟩ := hd
    unfold gEx at k
    split at k
    · next L' st' hp =>
      have hlen : L'.length ≤ M.2.2.1 := by
        have := g_len hp
        omega
      exact (g_step hn (of_decide_eq_true h1) h2 hp (ih hlen h3 k)).2
    · exact k.elim

end GRules
