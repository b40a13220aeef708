/-! THE LAW: numbers out of the script -/
section GLa
variable {Γ : gE} {h : gHp}
section Ru
variable {M : gM} {d mc ms : Nat} {Z : Option Value → gHp → Prop} {ZX : String → gHp → Prop} {rc rs pc : Nat} {L : List (Option Value)} {st : List Value}
theorem g_ixor {x y : Int32} (hd : decode M.2.1 pc = .ok (.ixor, 1)) (k : G Γ M d mc ms Z ZX rc rs (pc + 1) L (.int (x ^^^ y) :: st) h) : G Γ M d mc ms Z ZX rc rs pc L (.int y :: .int x :: st) h := by
  intro p e R s m args below meth c H locs cells slots ls C hd1 hd2 hd3 hd4 ha hl hc hs
  obtain ⟨hx, hb, -⟩ := id C
  exact lv_ixor hx hb hd (k p e R s m args below meth c H locs cells slots ls C hd1 hd2 hd3 hd4 ha hl hc hs)
end Ru
set_option maxRecDepth 100000 in
theorem cnL_7 : Cond.constant RL 7 (69069 : Int32) ∈ lw_good := (gIn (List.mem_of_getElem? (i := 656) (by decide +kernel)) (by decide +kernel))
set_option maxRecDepth 100000 in
theorem cnL_8 : Cond.constant RL 8 (1103515245 : Int32) ∈ lw_good := (gIn (List.mem_of_getElem? (i := 657) (by decide +kernel)) (by decide +kernel))
def us9 (x k : Int32) : Int32 := (x.toUInt32 >>> (k.toUInt32 &&& Int32.toUInt32 31)).toInt32
def ce1 (a i : Int32) : Int32 := 69069 * (a + nI 1009 * i) + nI 12345
def ce2 (a i : Int32) : Int32 := (ce1 a i ^^^ us9 (ce1 a i) (nI 13)) * 1103515245
def ceV (a i : Int32) : Int32 := ce2 a i ^^^ us9 (ce2 a i) (nI 16)
/-- a cell of the script, mixed -/
def ceL (xs : Nat → Int32) (L k : Nat) : Int32 := ceV (if k < L then xs k else nI 0) (nI k)
/-- a number below m out of a cell -/
def pkN (xs : Nat → Int32) (L k m : Nat) : Nat := (us9 (ceL xs L k) (nI 8)).toNatClampNeg % m
theorem pkN_lt {xs : Nat → Int32} {L k m : Nat} (hm : 0 < m) : pkN xs L k m < m := Nat.mod_lt _ hm
theorem u2i9 (u : UInt32) : u.toInt32 = nI u.toNat := by
  apply Int32.toBitVec_inj.mp
  simp [nI]
theorem us9_8 (x : Int32) : ∃ n, n < 16777216 ∧ us9 x (nI 8) = nI n := by
  refine ⟨(x.toUInt32 >>> ((nI 8).toUInt32 &&& Int32.toUInt32 31)).toNat, ?_, u2i9 _⟩
  rw [UInt32.toNat_shiftRight, show ((nI 8).toUInt32 &&& Int32.toUInt32 31).toNat % 32 = 8 by decide, Nat.shiftRight_eq_div_pow]
  have := x.toUInt32.toNat_lt
  omega
theorem rm_nI {a b : Nat} (ha : a < 2 ^ 31) (hb0 : 0 < b) (hb : b < 2 ^ 31) : nI a - nI a / nI b * nI b = nI (a % b) := by
  have h2 : a / b * b ≤ a := Nat.div_mul_le_self a b
  rw [pk_div ha hb0 hb, pk_mul, nI_subN h2]
  congr 1
  have := Nat.div_add_mod a b
  rw [Nat.mul_comm] at this
  omega
variable {sc L : Nat} {xs : Nat → Int32} {m : Nat}
theorem la_told (x : Int32) : pC Γ M_L_told [.int x] h 0 (some (.int (if x = 0 then nI 0 else nI 1))) := by
  refine pC_of (by decide) rfl (Nat.le_of_ble_eq_true rfl) [some (.int x)] rfl ?_
  refine g_blk [(.iload_n 0, .null)] (Nat.le_of_ble_eq_true rfl) (by decide +kernel) ?_
  refine gx_iload_n_0 ((gx_nil ?_))
  refine g_if_eq (off := 7) (tgt := 8) (by decide +kernel) (by decide) (fun c1 => ?_) (fun c1 => ?_)
  · try simp only [bI_0, Decidable.not_not] at c1
    rw [if_pos c1]
    refine g_blk [(.iconst 0, .int (nI 0))] (Nat.le_of_ble_eq_true rfl) (by decide +kernel) ?_
    refine gx_iconst ((gx_nil ?_))
    refine g_end (some (.int _)) rfl ⟨by decide +kernel, _, rfl, rfl⟩ ⟨?_, rfl⟩
    rfl
  · try simp only [bI_0, Decidable.not_not] at c1
    rw [if_neg c1]
    refine g_blk [(.iconst 1, .int (nI 1)), (.goto 4, .retAddr 9)] (Nat.le_of_ble_eq_true rfl) (by decide +kernel) ?_
    refine gx_iconst (gx_goto ((gx_nil ?_)))
    refine g_end (some (.int _)) rfl ⟨by decide +kernel, _, rfl, rfl⟩ ⟨?_, rfl⟩
    rfl
theorem la_cell (hsa : gPa Γ .int sc L (fun j => .int (xs j))) (hL : L ≤ 260) {k : Nat} (hk : k < 100000) : pC Γ M_L_cell [.ref sc, .int (nI k)] h 0 (some (.int (ceL xs L k))) := by
  refine pC_of (by decide) rfl (Nat.le_of_ble_eq_true rfl) [some (.ref sc), some (.int (nI k)), none] rfl ?_
  refine g_ldcI cnL_7 (by decide +kernel) ?_
  refine g_blk [(.iload_n 1, .null), (.aload_n 0, .null)] (Nat.le_of_ble_eq_true rfl) (by decide +kernel) ?_
  refine gx_iload_n_1 (gx_aload_n_0 ((gx_nil ?_)))
  refine g_alenP hsa (by decide +kernel) ?_
  refine g_icmp_ge (off := 9) (tgt := 14) (by decide +kernel) (by decide) (fun c5 => ?_) (fun c5 => ?_)
  · try simp only [bI_0, Decidable.not_not] at c5
    have hkL : ¬ k < L := fun z => nI_ge z (by omega) c5
    refine g_blk [(.iconst 0, .int (nI 0)), (.sipush 1009, .int (nI 1009)), (.iload_n 1, .null), (.imul, .null), (.iadd, .null), (.imul, .null), (.sipush 12345, .int (nI 12345)), (.iadd, .null), (.istore_n 2, .null), (.iload_n 2, .null), (.iload_n 2, .null), (.bipush 13, .int (nI 13))] (Nat.le_of_ble_eq_true rfl) (by decide +kernel) ?_
    refine gx_iconst (gx_sipush (gx_iload_n_1 (gx_imul (gx_iadd (gx_imul (gx_sipush (gx_iadd (gx_istore_n_2 rfl (gx_iload_n_2 (gx_iload_n_2 (gx_bipush ((gx_nil ?_)))))))))))))
    try simp only [nI_add, Nat.add_zero, Nat.zero_add, Nat.reduceAdd]
    refine g_iushr (v := us9 _ _) rfl (by decide +kernel) ?_
    refine g_ixor (by decide +kernel) ?_
    refine g_ldcI cnL_8 (by decide +kernel) ?_
    refine g_blk [(.imul, .null), (.istore_n 2, .null), (.iload_n 2, .null), (.iload_n 2, .null), (.bipush 16, .int (nI 16))] (Nat.le_of_ble_eq_true rfl) (by decide +kernel) ?_
    refine gx_imul (gx_istore_n_2 rfl (gx_iload_n_2 (gx_iload_n_2 (gx_bipush ((gx_nil ?_))))))
    try simp only [nI_add, Nat.add_zero, Nat.zero_add, Nat.reduceAdd]
    refine g_iushr (v := us9 _ _) rfl (by decide +kernel) ?_
    refine g_ixor (by decide +kernel) ?_
    refine g_end (some (.int _)) rfl ⟨by decide +kernel, _, rfl, rfl⟩ ⟨?_, rfl⟩
    unfold ceL
    first | rw [if_pos hkL] | rw [if_neg hkL]
    rfl
  · try simp only [bI_0, Decidable.not_not] at c5
    have hkL : k < L := by
      by_cases y : k < L
      · exact y
      · exact absurd (nI_le (Nat.le_of_not_lt y) (by omega)) c5
    refine g_blk [(.aload_n 0, .null), (.iload_n 1, .null)] (Nat.le_of_ble_eq_true rfl) (by decide +kernel) ?_
    refine gx_aload_n_0 (gx_iload_n_1 ((gx_nil ?_)))
    refine g_ialoadP hsa (vp_in_nI (by omega) (by omega)) (by decide +kernel) ?_
    try simp only []
    rw [nI_clamp (by omega)]
    refine g_blk [(.goto 4, .retAddr 15), (.sipush 1009, .int (nI 1009)), (.iload_n 1, .null), (.imul, .null), (.iadd, .null), (.imul, .null), (.sipush 12345, .int (nI 12345)), (.iadd, .null), (.istore_n 2, .null), (.iload_n 2, .null), (.iload_n 2, .null), (.bipush 13, .int (nI 13))] (Nat.le_of_ble_eq_true rfl) (by decide +kernel) ?_
    refine gx_goto (gx_sipush (gx_iload_n_1 (gx_imul (gx_iadd (gx_imul (gx_sipush (gx_iadd (gx_istore_n_2 rfl (gx_iload_n_2 (gx_iload_n_2 (gx_bipush ((gx_nil ?_)))))))))))))
    try simp only [nI_add, Nat.add_zero, Nat.zero_add, Nat.reduceAdd]
    refine g_iushr (v := us9 _ _) rfl (by decide +kernel) ?_
    refine g_ixor (by decide +kernel) ?_
    refine g_ldcI cnL_8 (by decide +kernel) ?_
    refine g_blk [(.imul, .null), (.istore_n 2, .null), (.iload_n 2, .null), (.iload_n 2, .null), (.bipush 16, .int (nI 16))] (Nat.le_of_ble_eq_true rfl) (by decide +kernel) ?_
    refine gx_imul (gx_istore_n_2 rfl (gx_iload_n_2 (gx_iload_n_2 (gx_bipush ((gx_nil ?_))))))
    try simp only [nI_add, Nat.add_zero, Nat.zero_add, Nat.reduceAdd]
    refine g_iushr (v := us9 _ _) rfl (by decide +kernel) ?_
    refine g_ixor (by decide +kernel) ?_
    refine g_end (some (.int _)) rfl ⟨by decide +kernel, _, rfl, rfl⟩ ⟨?_, rfl⟩
    unfold ceL
    first | rw [if_pos hkL] | rw [if_neg hkL]
    rfl
theorem la_pick (hsa : gPa Γ .int sc L (fun j => .int (xs j))) (hL : L ≤ 260) {k m : Nat} (hk : k < 100000) (hm : 0 < m) (hm2 : m < 2147483648) : pC Γ M_L_pick [.ref sc, .int (nI k), .int (nI m)] h 2 (some (.int (nI (pkN xs L k m)))) := by
  refine pC_of (by decide) rfl (Nat.le_of_ble_eq_true rfl) [some (.ref sc), some (.int (nI k)), some (.int (nI m))] rfl ?_
  refine g_blk [(.aload_n 0, .null), (.iload_n 1, .null)] (Nat.le_of_ble_eq_true rfl) (by decide +kernel) ?_
  refine gx_aload_n_0 (gx_iload_n_1 ((gx_nil ?_)))
  refine g_pS kL_9 (la_cell hsa hL hk) (by decide +kernel) rfl rfl (Nat.le_of_ble_eq_true rfl) (Nat.le_of_ble_eq_true rfl) (Nat.le_of_ble_eq_true rfl) rfl ?_
  simp only [Option.toList_some, Option.toList_none, List.cons_append, List.nil_append]
  refine g_blk [(.bipush 8, .int (nI 8))] (Nat.le_of_ble_eq_true rfl) (by decide +kernel) ?_
  refine gx_bipush ((gx_nil ?_))
  refine g_iushr (v := us9 _ _) rfl (by decide +kernel) ?_
  refine g_blk [(.iload_n 2, .null)] (Nat.le_of_ble_eq_true rfl) (by decide +kernel) ?_
  refine gx_iload_n_2 ((gx_nil ?_))
  refine g_irem (nI_ne0 hm hm2) (by decide +kernel) ?_
  refine g_end (some (.int _)) rfl ⟨by decide +kernel, _, rfl, rfl⟩ ⟨?_, rfl⟩
  obtain ⟨n, hn, e⟩ := us9_8 (ceL xs L k)
  show some (Value.int (us9 (ceL xs L k) (nI 8) - us9 (ceL xs L k) (nI 8) / nI m * nI m)) = _
  unfold pkN
  rw [e, rm_nI (by omega) hm hm2, nI_clamp (by omega)]
/-- a code out of the script -/
def coN (xs : Nat → Int32) (L k : Nat) : Nat := if pkN xs L k 4 = 0 then pkN xs L (k + 1) 10000 else pkN xs L (k + 1) 3 * 1000 + pkN xs L (k + 2) 3 * 100 + pkN xs L (k + 3) 30
theorem coN_lt {k : Nat} : coN xs L k < 10000 := by
  unfold coN
  have h1 := pkN_lt (xs := xs) (L := L) (k := k + 1) (m := 10000) (by decide)
  have h2 := pkN_lt (xs := xs) (L := L) (k := k + 1) (m := 3) (by decide)
  have h3 := pkN_lt (xs := xs) (L := L) (k := k + 2) (m := 3) (by decide)
  have h4 := pkN_lt (xs := xs) (L := L) (k := k + 3) (m := 30) (by decide)
  split <;> omega
theorem la_code (hsa : gPa Γ .int sc L (fun j => .int (xs j))) (hL : L ≤ 260) {k : Nat} (hk : k < 90000) : pC Γ M_L_code [.ref sc, .int (nI k)] h 4 (some (.int (nI (coN xs L k)))) := by
  refine pC_of (by decide) rfl (Nat.le_of_ble_eq_true rfl) [some (.ref sc), some (.int (nI k))] rfl ?_
  refine g_blk [(.aload_n 0, .null), (.iload_n 1, .null), (.iconst 4, .int (nI 4))] (Nat.le_of_ble_eq_true rfl) (by decide +kernel) ?_
  refine gx_aload_n_0 (gx_iload_n_1 (gx_iconst ((gx_nil ?_))))
  refine g_pS kL_130 (la_pick hsa hL (k := k) (m := 4) (by omega) (by omega) (by omega)) (by decide +kernel) rfl rfl (Nat.le_of_ble_eq_true rfl) (Nat.le_of_ble_eq_true rfl) (Nat.le_of_ble_eq_true rfl) rfl ?_
  simp only [Option.toList_some, Option.toList_none, List.cons_append, List.nil_append]
  refine g_if_ne (off := 16) (tgt := 22) (by decide +kernel) (by decide) (fun c6 => ?_) (fun c6 => ?_)
  · try simp only [bI_0, Decidable.not_not] at c6
    have hz : ¬ pkN xs L k 4 = 0 := fun z => c6 (by rw [z]; decide)
    refine g_blk [(.aload_n 0, .null), (.iload_n 1, .null), (.iconst 1, .int (nI 1)), (.iadd, .null), (.iconst 3, .int (nI 3))] (Nat.le_of_ble_eq_true rfl) (by decide +kernel) ?_
    refine gx_aload_n_0 (gx_iload_n_1 (gx_iconst (gx_iadd (gx_iconst ((gx_nil ?_))))))
    try simp only [nI_add, Nat.add_zero, Nat.zero_add, Nat.reduceAdd]
    refine g_pS kL_130 (la_pick hsa hL (k := k + 1) (m := 3) (by omega) (by omega) (by omega)) (by decide +kernel) rfl rfl (Nat.le_of_ble_eq_true rfl) (Nat.le_of_ble_eq_true rfl) (Nat.le_of_ble_eq_true rfl) rfl ?_
    simp only [Option.toList_some, Option.toList_none, List.cons_append, List.nil_append]
    refine g_blk [(.sipush 1000, .int (nI 1000)), (.imul, .null), (.aload_n 0, .null), (.iload_n 1, .null), (.iconst 2, .int (nI 2)), (.iadd, .null), (.iconst 3, .int (nI 3))] (Nat.le_of_ble_eq_true rfl) (by decide +kernel) ?_
    refine gx_sipush (gx_imul (gx_aload_n_0 (gx_iload_n_1 (gx_iconst (gx_iadd (gx_iconst ((gx_nil ?_))))))))
    try simp only [nI_add, Nat.add_zero, Nat.zero_add, Nat.reduceAdd]
    refine g_pS kL_130 (la_pick hsa hL (k := k + 2) (m := 3) (by omega) (by omega) (by omega)) (by decide +kernel) rfl rfl (Nat.le_of_ble_eq_true rfl) (Nat.le_of_ble_eq_true rfl) (Nat.le_of_ble_eq_true rfl) rfl ?_
    simp only [Option.toList_some, Option.toList_none, List.cons_append, List.nil_append]
    refine g_blk [(.bipush 100, .int (nI 100)), (.imul, .null), (.iadd, .null), (.aload_n 0, .null), (.iload_n 1, .null), (.iconst 3, .int (nI 3)), (.iadd, .null), (.bipush 30, .int (nI 30))] (Nat.le_of_ble_eq_true rfl) (by decide +kernel) ?_
    refine gx_bipush (gx_imul (gx_iadd (gx_aload_n_0 (gx_iload_n_1 (gx_iconst (gx_iadd (gx_bipush ((gx_nil ?_)))))))))
    try simp only [nI_add, Nat.add_zero, Nat.zero_add, Nat.reduceAdd]
    refine g_pS kL_130 (la_pick hsa hL (k := k + 3) (m := 30) (by omega) (by omega) (by omega)) (by decide +kernel) rfl rfl (Nat.le_of_ble_eq_true rfl) (Nat.le_of_ble_eq_true rfl) (Nat.le_of_ble_eq_true rfl) rfl ?_
    simp only [Option.toList_some, Option.toList_none, List.cons_append, List.nil_append]
    refine g_blk [(.iadd, .null)] (Nat.le_of_ble_eq_true rfl) (by decide +kernel) ?_
    refine gx_iadd ((gx_nil ?_))
    try simp only [nI_add, Nat.add_zero, Nat.zero_add, Nat.reduceAdd]
    refine g_end (some (.int _)) rfl ⟨by decide +kernel, _, rfl, rfl⟩ ⟨?_, rfl⟩
    unfold coN
    first | rw [if_pos hz] | rw [if_neg hz]
    try simp only [pk_mul, nI_add]
  · try simp only [bI_0, Decidable.not_not] at c6
    have hz : pkN xs L k 4 = 0 := nI_z (by have := pkN_lt (xs := xs) (L := L) (k := k) (m := 4) (by decide); omega) c6
    refine g_blk [(.aload_n 0, .null), (.iload_n 1, .null), (.iconst 1, .int (nI 1)), (.iadd, .null), (.sipush 10000, .int (nI 10000))] (Nat.le_of_ble_eq_true rfl) (by decide +kernel) ?_
    refine gx_aload_n_0 (gx_iload_n_1 (gx_iconst (gx_iadd (gx_sipush ((gx_nil ?_))))))
    try simp only [nI_add, Nat.add_zero, Nat.zero_add, Nat.reduceAdd]
    refine g_pS kL_130 (la_pick hsa hL (k := k + 1) (m := 10000) (by omega) (by omega) (by omega)) (by decide +kernel) rfl rfl (Nat.le_of_ble_eq_true rfl) (Nat.le_of_ble_eq_true rfl) (Nat.le_of_ble_eq_true rfl) rfl ?_
    simp only [Option.toList_some, Option.toList_none, List.cons_append, List.nil_append]
    refine g_blk [(.goto 37, .retAddr 56)] (Nat.le_of_ble_eq_true rfl) (by decide +kernel) ?_
    refine gx_goto ((gx_nil ?_))
    refine g_end (some (.int _)) rfl ⟨by decide +kernel, _, rfl, rfl⟩ ⟨?_, rfl⟩
    unfold coN
    first | rw [if_pos hz] | rw [if_neg hz]
    try simp only [pk_mul, nI_add]
end GLa
