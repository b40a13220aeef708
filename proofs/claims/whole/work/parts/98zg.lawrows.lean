/-! THE LAW: its 64 rows as they are walked -/
section GLzg
variable {Γ : gE} {de : Nat} {h : gHp} {m o out outD B : Nat} {ad : Nat → Nat} {V : Nat → Int32} {F : Nat → Nat → Int32}
variable {sc i L mc ms rc rs pc : Nat} {xs : Nat → Int32} {Z : Option Value → gHp → Prop} {ZX : String → gHp → Prop}
theorem la_arg {j : Nat} {ji : Int} {Ls : List (Option Value)} {st : List Value} (D : lDs cL_law pc [(.aload_n 0, 1), (.iload 5, 2), (.iconst ji, 1), (.iadd, 1), (.iaload, 1)]) (hj : Int32.ofInt ji = nI j) (hsa : gPa Γ .int sc L (fun j => .int (xs j))) (hL : L ≤ 2048) (hi : i + j < L) (g0 : gGet Ls 0 = some (.ref sc)) (g5 : gGet Ls 5 = some (.int (nI i))) (k : G Γ M_L_law 32 mc ms Z ZX rc rs (pc + 6) Ls (.int (xs (i + j)) :: st) h) : G Γ M_L_law 32 mc ms Z ZX rc rs pc Ls st h := by
  obtain ⟨d0, d1, d2, d3, d4, -⟩ := D
  refine g_aload_n d0 g0 ?_
  refine g_iload d1 g5 ?_
  refine g_iconst d2 hj ?_
  refine g_iadd d3 ?_
  rw [nI_add]
  refine g_ialoadP hsa (vp_in_nI hi (by omega)) d4 ?_
  rw [nI_clamp (by omega)]
  exact k
def fl0 (x : Int32) : Nat := if x = 0 then 0 else 1
theorem fl0_le (x : Int32) : fl0 x ≤ 1 := by unfold fl0; split <;> omega
theorem lb_arg {Ls : List (Option Value)} {st : List Value} (D : lDs cL_law pc [(.aload_n 0, 1), (.iload 5, 2), (.iconst 3, 1), (.iadd, 1), (.iaload, 1), (.ifCond .eq 7, 3), (.iconst 1, 1), (.goto 4, 3), (.iconst 0, 1)]) (hsa : gPa Γ .int sc L (fun j => .int (xs j))) (hL : L ≤ 2048) (hi : i + 3 < L) (g0 : gGet Ls 0 = some (.ref sc)) (g5 : gGet Ls 5 = some (.int (nI i))) (k : G Γ M_L_law 32 mc ms Z ZX rc rs (pc + 14) Ls (.int (nI (fl0 (xs (i + 3)))) :: st) h) : G Γ M_L_law 32 mc ms Z ZX rc rs pc Ls st h := by
  obtain ⟨d0, d1, d2, d3, d4, d5, d6, d7, d8, -⟩ := D
  refine la_arg (j := 3) ⟨d0, d1, d2, d3, d4, True.intro⟩ rfl hsa hL hi g0 g5 ?_
  refine g_if_eq (tgt := pc + 13) d5 (by omega) (fun z => ?_) (fun z => ?_)
  · refine g_iconst (x := nI 0) d8 rfl ?_
    have e : fl0 (xs (i + 3)) = 0 := if_pos z
    rw [e] at k
    exact k
  · refine g_iconst (x := nI 1) d6 rfl ?_
    refine g_goto (tgt := pc + 14) d7 (by omega) ?_
    have e : fl0 (xs (i + 3)) = 1 := if_neg z
    rw [e] at k
    exact k
set_option maxRecDepth 100000 in
theorem lq_0 (H : gDi Γ) (hnc : gPnc Γ) (hsa : gPa Γ .int sc L (fun j => .int (xs j))) (hL : L ≤ 2048) (hi : i + 3 < L) (I : LI Γ de h m o ad out outD V F B) {W B' : Nat} {τ : Int32} {x : Int32} {P : gHp → Prop} {Ph : (Nat → Int32) → (Nat → Nat → Int32) → Prop} {fs : List Value} (hm : h m = some (gJ 12 fs)) (C : fC Γ M_X9_accept [.ref m, .int (xs (i + 1)), .int (xs (i + 2)), .int (nI (fl0 (xs (i + 3))))] h W τ (.int x) (nmOf xIA xIS xIS) P) (hP : ∀ h1, P h1 → (∀ V1 F1, Ph V1 F1 → gMO Γ de h1 m V1 F1 B') ∧ gFr (kC Γ) h h1) (R : mE Γ o ad M_X10_accept [.int (xs (i + 1)), .int (xs (i + 2)), .int (nI (fl0 (xs (i + 3))))] V F 4 (fun v V1 F1 => v = some (.int x) ∧ Ph V1 F1)) (ht9 : τ = 0 ∨ τ = nI 1 ∨ τ = nI 2) (h13 : ∀ V1 F1, Ph V1 F1 → V1 13 = τ) (K : ∀ h' V1 F1, Ph V1 F1 → LI Γ de h' m o ad out outD V1 F1 B' → G Γ M_L_law 32 mc ms Z ZX rc rs 3368 (L0 sc m o out outD i) [] h') : G Γ M_L_law 32 mc ms Z ZX (rc + 1000) (rs + W) 316 (L0 sc m o out outD i) [] h := by
  refine g_aload_n dL_law_316 rfl ?_
  refine la_arg (j := 1) ⟨dL_law_317, dL_law_318, dL_law_320, dL_law_321, dL_law_322, True.intro⟩ rfl hsa hL (by omega) rfl rfl ?_
  refine la_arg (j := 2) ⟨dL_law_323, dL_law_324, dL_law_326, dL_law_327, dL_law_328, True.intro⟩ rfl hsa hL (by omega) rfl rfl ?_
  refine lb_arg ⟨dL_law_329, dL_law_330, dL_law_332, dL_law_333, dL_law_334, dL_law_335, dL_law_338, dL_law_339, dL_law_342, True.intro⟩ hsa hL hi rfl rfl ?_
  refine g_aload_n dL_law_343 rfl ?_
  obtain ⟨f, hf⟩ := I.lo
  refine g_callSH (av := [.ref m, .int (xs (i + 1)), .int (xs (i + 2)), .int (nI (fl0 (xs (i + 3)))), .ref out]) (rc' := rc) (rs' := rs) kL_178 (lw_accept hnc _ _ _ hm C ht9 (fun h1 p => (hP h1 p).2 _ _ hf nC_lo)) dL_law_344 rfl rfl (Nat.le_of_ble_eq_true rfl) (Nat.le_of_ble_eq_true rfl) (Nat.le_of_ble_eq_true rfl) (by omega) (by omega) rfl (fun _ _ z => z.elim) (fun v9 h5 hz => ?_)
  obtain ⟨rfl, J, ho, hod⟩ := I.wr H hf hP hz
  simp only [Option.toList_some, List.cons_append, List.nil_append]
  refine g_istore dL_law_347 (Nat.le_of_ble_eq_true rfl) rfl ?_
  refine g_aload_n dL_law_349 rfl ?_
  refine la_arg (j := 1) ⟨dL_law_350, dL_law_351, dL_law_353, dL_law_354, dL_law_355, True.intro⟩ rfl hsa hL (by omega) rfl rfl ?_
  refine la_arg (j := 2) ⟨dL_law_356, dL_law_357, dL_law_359, dL_law_360, dL_law_361, True.intro⟩ rfl hsa hL (by omega) rfl rfl ?_
  refine lb_arg ⟨dL_law_362, dL_law_363, dL_law_365, dL_law_366, dL_law_367, dL_law_368, dL_law_371, dL_law_372, dL_law_375, True.intro⟩ hsa hL hi rfl rfl ?_
  refine g_callV (av := [.ref o, .int (xs (i + 1)), .int (xs (i + 2)), .int (nI (fl0 (xs (i + 3))))]) (rc' := rc) (rs' := rs) kL_183 (R h5 J.2) dL_law_376 rfl rfl J.2.1 rfl (Nat.le_of_ble_eq_true rfl) (Nat.le_of_ble_eq_true rfl) (Nat.le_of_ble_eq_true rfl) (by omega) (by omega) rfl (fun _ _ z => z.elim) (fun v9 h7 hz => ?_)
  obtain ⟨V1, F1, ⟨rfl, p⟩, hM, hk⟩ := hz
  obtain ⟨gm, -, fr⟩ := J.md H hM hk p
  have ho7 := ho.tr fr (fun _ => nM_lo)
  have hod7 := hod.tr fr (fun _ => nM_do)
  have I7 : LI Γ de h7 m o ad out outD V1 F1 B' := ⟨gm, hM, ho7.any, hod7.any⟩
  simp only [Option.toList_some, List.cons_append, List.nil_append]
  exact lt_i H ⟨dL_law_379, dL_law_381, dL_law_382, dL_law_385, dL_law_387, dL_law_390, dL_law_391, dL_law_392, dL_law_394, dL_law_397, dL_law_398, dL_law_399, dL_law_400, dL_law_402, dL_law_403, dL_law_404, dL_law_407, dL_law_408, dL_law_409, True.intro⟩ (by decide) I7 ho7 (h13 V1 F1 p) (fun _ => rfl) (fun h' I' => K h' V1 F1 p I')
set_option maxRecDepth 100000 in
theorem lq_1 (H : gDi Γ) (hnc : gPnc Γ) (hsa : gPa Γ .int sc L (fun j => .int (xs j))) (hL : L ≤ 2048) (hi : i + 3 < L) (I : LI Γ de h m o ad out outD V F B) {W B' : Nat} {τ : Int32} {x : Int32} {P : gHp → Prop} {Ph : (Nat → Int32) → (Nat → Nat → Int32) → Prop} {fs : List Value} (hm : h m = some (gJ 12 fs)) (C : fC Γ M_X9_addPrefix [.ref m, .int (xs (i + 1)), .int (xs (i + 2)), .int (xs (i + 3))] h W τ (.int x) (nmOf xIA xIO xIS) P) (hP : ∀ h1, P h1 → (∀ V1 F1, Ph V1 F1 → gMO Γ de h1 m V1 F1 B') ∧ gFr (kC Γ) h h1) (R : mE Γ o ad M_X10_addPrefix [.int (xs (i + 1)), .int (xs (i + 2)), .int (xs (i + 3))] V F 4 (fun v V1 F1 => v = some (.int x) ∧ Ph V1 F1)) (ht9 : τ = 0 ∨ τ = nI 1 ∨ τ = nI 2 ∨ τ = nI 3) (h13 : ∀ V1 F1, Ph V1 F1 → V1 13 = τ) (K : ∀ h' V1 F1, Ph V1 F1 → LI Γ de h' m o ad out outD V1 F1 B' → G Γ M_L_law 32 mc ms Z ZX rc rs 3368 (L0 sc m o out outD i) [] h') : G Γ M_L_law 32 mc ms Z ZX (rc + 1000) (rs + W) 412 (L0 sc m o out outD i) [] h := by
  refine g_aload_n dL_law_412 rfl ?_
  refine la_arg (j := 1) ⟨dL_law_413, dL_law_414, dL_law_416, dL_law_417, dL_law_418, True.intro⟩ rfl hsa hL (by omega) rfl rfl ?_
  refine la_arg (j := 2) ⟨dL_law_419, dL_law_420, dL_law_422, dL_law_423, dL_law_424, True.intro⟩ rfl hsa hL (by omega) rfl rfl ?_
  refine la_arg (j := 3) ⟨dL_law_425, dL_law_426, dL_law_428, dL_law_429, dL_law_430, True.intro⟩ rfl hsa hL (by omega) rfl rfl ?_
  refine g_aload_n dL_law_431 rfl ?_
  obtain ⟨f, hf⟩ := I.lo
  refine g_callSH (av := [.ref m, .int (xs (i + 1)), .int (xs (i + 2)), .int (xs (i + 3)), .ref out]) (rc' := rc) (rs' := rs) kL_187 (lw_addPrefix hnc _ _ _ hm C ht9 (fun h1 p => (hP h1 p).2 _ _ hf nC_lo)) dL_law_432 rfl rfl (Nat.le_of_ble_eq_true rfl) (Nat.le_of_ble_eq_true rfl) (Nat.le_of_ble_eq_true rfl) (by omega) (by omega) rfl (fun _ _ z => z.elim) (fun v9 h5 hz => ?_)
  obtain ⟨rfl, J, ho, hod⟩ := I.wr H hf hP hz
  simp only [Option.toList_some, List.cons_append, List.nil_append]
  refine g_istore dL_law_435 (Nat.le_of_ble_eq_true rfl) rfl ?_
  refine g_aload_n dL_law_437 rfl ?_
  refine la_arg (j := 1) ⟨dL_law_438, dL_law_439, dL_law_441, dL_law_442, dL_law_443, True.intro⟩ rfl hsa hL (by omega) rfl rfl ?_
  refine la_arg (j := 2) ⟨dL_law_444, dL_law_445, dL_law_447, dL_law_448, dL_law_449, True.intro⟩ rfl hsa hL (by omega) rfl rfl ?_
  refine la_arg (j := 3) ⟨dL_law_450, dL_law_451, dL_law_453, dL_law_454, dL_law_455, True.intro⟩ rfl hsa hL (by omega) rfl rfl ?_
  refine g_callV (av := [.ref o, .int (xs (i + 1)), .int (xs (i + 2)), .int (xs (i + 3))]) (rc' := rc) (rs' := rs) kL_190 (R h5 J.2) dL_law_456 rfl rfl J.2.1 rfl (Nat.le_of_ble_eq_true rfl) (Nat.le_of_ble_eq_true rfl) (Nat.le_of_ble_eq_true rfl) (by omega) (by omega) rfl (fun _ _ z => z.elim) (fun v9 h7 hz => ?_)
  obtain ⟨V1, F1, ⟨rfl, p⟩, hM, hk⟩ := hz
  obtain ⟨gm, -, fr⟩ := J.md H hM hk p
  have ho7 := ho.tr fr (fun _ => nM_lo)
  have hod7 := hod.tr fr (fun _ => nM_do)
  have I7 : LI Γ de h7 m o ad out outD V1 F1 B' := ⟨gm, hM, ho7.any, hod7.any⟩
  simp only [Option.toList_some, List.cons_append, List.nil_append]
  exact lt_i H ⟨dL_law_459, dL_law_461, dL_law_462, dL_law_465, dL_law_467, dL_law_470, dL_law_471, dL_law_472, dL_law_474, dL_law_477, dL_law_478, dL_law_479, dL_law_480, dL_law_482, dL_law_483, dL_law_484, dL_law_487, dL_law_488, dL_law_489, True.intro⟩ (by decide) I7 ho7 (h13 V1 F1 p) (fun _ => rfl) (fun h' I' => K h' V1 F1 p I')
set_option maxRecDepth 100000 in
theorem lq_2 (H : gDi Γ) (hnc : gPnc Γ) (hsa : gPa Γ .int sc L (fun j => .int (xs j))) (hL : L ≤ 2048) (hi : i + 3 < L) (I : LI Γ de h m o ad out outD V F B) {W B' : Nat} {τ : Int32} {x : Int32} {P : gHp → Prop} {Ph : (Nat → Int32) → (Nat → Nat → Int32) → Prop} {fs : List Value} (hm : h m = some (gJ 12 fs)) (C : fC Γ M_X9_removePrefix [.ref m, .int (xs (i + 1)), .int (xs (i + 2))] h W τ (.int x) (nmOf xIA xNS xNS) P) (hP : ∀ h1, P h1 → (∀ V1 F1, Ph V1 F1 → gMO Γ de h1 m V1 F1 B') ∧ gFr (kC Γ) h h1) (R : mE Γ o ad M_X10_removePrefix [.int (xs (i + 1)), .int (xs (i + 2))] V F 4 (fun v V1 F1 => v = some (.int x) ∧ Ph V1 F1)) (ht9 : τ = 0 ∨ τ = nI 1 ∨ τ = nI 2) (h13 : ∀ V1 F1, Ph V1 F1 → V1 13 = τ) (K : ∀ h' V1 F1, Ph V1 F1 → LI Γ de h' m o ad out outD V1 F1 B' → G Γ M_L_law 32 mc ms Z ZX rc rs 3368 (L0 sc m o out outD i) [] h') : G Γ M_L_law 32 mc ms Z ZX (rc + 1000) (rs + W) 492 (L0 sc m o out outD i) [] h := by
  refine g_aload_n dL_law_492 rfl ?_
  refine la_arg (j := 1) ⟨dL_law_493, dL_law_494, dL_law_496, dL_law_497, dL_law_498, True.intro⟩ rfl hsa hL (by omega) rfl rfl ?_
  refine la_arg (j := 2) ⟨dL_law_499, dL_law_500, dL_law_502, dL_law_503, dL_law_504, True.intro⟩ rfl hsa hL (by omega) rfl rfl ?_
  refine g_aload_n dL_law_505 rfl ?_
  obtain ⟨f, hf⟩ := I.lo
  refine g_callSH (av := [.ref m, .int (xs (i + 1)), .int (xs (i + 2)), .ref out]) (rc' := rc) (rs' := rs) kL_191 (lw_removePrefix hnc _ _ hm C ht9 (fun h1 p => (hP h1 p).2 _ _ hf nC_lo)) dL_law_506 rfl rfl (Nat.le_of_ble_eq_true rfl) (Nat.le_of_ble_eq_true rfl) (Nat.le_of_ble_eq_true rfl) (by omega) (by omega) rfl (fun _ _ z => z.elim) (fun v9 h5 hz => ?_)
  obtain ⟨rfl, J, ho, hod⟩ := I.wr H hf hP hz
  simp only [Option.toList_some, List.cons_append, List.nil_append]
  refine g_istore dL_law_509 (Nat.le_of_ble_eq_true rfl) rfl ?_
  refine g_aload_n dL_law_511 rfl ?_
  refine la_arg (j := 1) ⟨dL_law_512, dL_law_513, dL_law_515, dL_law_516, dL_law_517, True.intro⟩ rfl hsa hL (by omega) rfl rfl ?_
  refine la_arg (j := 2) ⟨dL_law_518, dL_law_519, dL_law_521, dL_law_522, dL_law_523, True.intro⟩ rfl hsa hL (by omega) rfl rfl ?_
  refine g_callV (av := [.ref o, .int (xs (i + 1)), .int (xs (i + 2))]) (rc' := rc) (rs' := rs) kL_194 (R h5 J.2) dL_law_524 rfl rfl J.2.1 rfl (Nat.le_of_ble_eq_true rfl) (Nat.le_of_ble_eq_true rfl) (Nat.le_of_ble_eq_true rfl) (by omega) (by omega) rfl (fun _ _ z => z.elim) (fun v9 h7 hz => ?_)
  obtain ⟨V1, F1, ⟨rfl, p⟩, hM, hk⟩ := hz
  obtain ⟨gm, -, fr⟩ := J.md H hM hk p
  have ho7 := ho.tr fr (fun _ => nM_lo)
  have hod7 := hod.tr fr (fun _ => nM_do)
  have I7 : LI Γ de h7 m o ad out outD V1 F1 B' := ⟨gm, hM, ho7.any, hod7.any⟩
  simp only [Option.toList_some, List.cons_append, List.nil_append]
  exact lt_i H ⟨dL_law_527, dL_law_529, dL_law_530, dL_law_533, dL_law_535, dL_law_538, dL_law_539, dL_law_540, dL_law_542, dL_law_545, dL_law_546, dL_law_547, dL_law_548, dL_law_550, dL_law_551, dL_law_552, dL_law_555, dL_law_556, dL_law_557, True.intro⟩ (by decide) I7 ho7 (h13 V1 F1 p) (fun _ => rfl) (fun h' I' => K h' V1 F1 p I')
set_option maxRecDepth 100000 in
theorem lq_3 (H : gDi Γ) (hnc : gPnc Γ) (hsa : gPa Γ .int sc L (fun j => .int (xs j))) (hL : L ≤ 2048) (hi : i + 3 < L) (I : LI Γ de h m o ad out outD V F B) {W B' : Nat} {τ : Int32} {x : Int32} {P : gHp → Prop} {Ph : (Nat → Int32) → (Nat → Nat → Int32) → Prop} {fs : List Value} (hm : h m = some (gJ 12 fs)) (C : fC Γ M_X9_sort [.ref m, .int (xs (i + 1))] h W τ (.int x) (nmOf xNS xIS xIS) P) (hP : ∀ h1, P h1 → (∀ V1 F1, Ph V1 F1 → gMO Γ de h1 m V1 F1 B') ∧ gFr (kC Γ) h h1) (R : mE Γ o ad M_X10_sort [.int (xs (i + 1))] V F 7 (fun v V1 F1 => v = some (.int x) ∧ Ph V1 F1)) (ht9 : τ = 0 ∨ τ = nI 1 ∨ τ = nI 2) (h13 : ∀ V1 F1, Ph V1 F1 → V1 13 = τ) (K : ∀ h' V1 F1, Ph V1 F1 → LI Γ de h' m o ad out outD V1 F1 B' → G Γ M_L_law 32 mc ms Z ZX rc rs 3368 (L0 sc m o out outD i) [] h') : G Γ M_L_law 32 mc ms Z ZX (rc + 1000) (rs + W) 560 (L0 sc m o out outD i) [] h := by
  refine g_aload_n dL_law_560 rfl ?_
  refine la_arg (j := 1) ⟨dL_law_561, dL_law_562, dL_law_564, dL_law_565, dL_law_566, True.intro⟩ rfl hsa hL (by omega) rfl rfl ?_
  refine g_aload_n dL_law_567 rfl ?_
  obtain ⟨f, hf⟩ := I.lo
  refine g_callSH (av := [.ref m, .int (xs (i + 1)), .ref out]) (rc' := rc) (rs' := rs) kL_195 (lw_sort hnc _ hm C ht9 (fun h1 p => (hP h1 p).2 _ _ hf nC_lo)) dL_law_568 rfl rfl (Nat.le_of_ble_eq_true rfl) (Nat.le_of_ble_eq_true rfl) (Nat.le_of_ble_eq_true rfl) (by omega) (by omega) rfl (fun _ _ z => z.elim) (fun v9 h5 hz => ?_)
  obtain ⟨rfl, J, ho, hod⟩ := I.wr H hf hP hz
  simp only [Option.toList_some, List.cons_append, List.nil_append]
  refine g_istore dL_law_571 (Nat.le_of_ble_eq_true rfl) rfl ?_
  refine g_aload_n dL_law_573 rfl ?_
  refine la_arg (j := 1) ⟨dL_law_574, dL_law_575, dL_law_577, dL_law_578, dL_law_579, True.intro⟩ rfl hsa hL (by omega) rfl rfl ?_
  refine g_callV (av := [.ref o, .int (xs (i + 1))]) (rc' := rc) (rs' := rs) kL_198 (R h5 J.2) dL_law_580 rfl rfl J.2.1 rfl (Nat.le_of_ble_eq_true rfl) (Nat.le_of_ble_eq_true rfl) (Nat.le_of_ble_eq_true rfl) (by omega) (by omega) rfl (fun _ _ z => z.elim) (fun v9 h7 hz => ?_)
  obtain ⟨V1, F1, ⟨rfl, p⟩, hM, hk⟩ := hz
  obtain ⟨gm, -, fr⟩ := J.md H hM hk p
  have ho7 := ho.tr fr (fun _ => nM_lo)
  have hod7 := hod.tr fr (fun _ => nM_do)
  have I7 : LI Γ de h7 m o ad out outD V1 F1 B' := ⟨gm, hM, ho7.any, hod7.any⟩
  simp only [Option.toList_some, List.cons_append, List.nil_append]
  exact lt_i H ⟨dL_law_583, dL_law_585, dL_law_586, dL_law_589, dL_law_591, dL_law_594, dL_law_595, dL_law_596, dL_law_598, dL_law_601, dL_law_602, dL_law_603, dL_law_604, dL_law_606, dL_law_607, dL_law_608, dL_law_611, dL_law_612, dL_law_613, True.intro⟩ (by decide) I7 ho7 (h13 V1 F1 p) (fun _ => rfl) (fun h' I' => K h' V1 F1 p I')
set_option maxRecDepth 100000 in
theorem lq_4 (H : gDi Γ) (hnc : gPnc Γ) (hsa : gPa Γ .int sc L (fun j => .int (xs j))) (hL : L ≤ 2048) (hi : i + 3 < L) (I : LI Γ de h m o ad out outD V F B) {W B' : Nat} {x : Int32} {P : gHp → Prop} {Ph : (Nat → Int32) → (Nat → Nat → Int32) → Prop} {fs : List Value} (hm : h m = some (gJ 12 fs)) (C : fN Γ M_X9_sortAll [.ref m] h W (.int x) P) (hP : ∀ h1, P h1 → (∀ V1 F1, Ph V1 F1 → gMO Γ de h1 m V1 F1 B') ∧ gFr (kC Γ) h h1) (R : mE Γ o ad M_X10_sortAll [] V F 8 (fun v V1 F1 => v = some (.int x) ∧ Ph V1 F1)) (K : ∀ h' V1 F1, Ph V1 F1 → LI Γ de h' m o ad out outD V1 F1 B' → G Γ M_L_law 32 mc ms Z ZX rc rs 3368 (L0 sc m o out outD i) [] h') : G Γ M_L_law 32 mc ms Z ZX (rc + 1000) (rs + W) 616 (L0 sc m o out outD i) [] h := by
  refine g_aload_n dL_law_616 rfl ?_
  refine g_callV (av := [.ref m]) (rc' := rc) (rs' := rs) kL_199 C dL_law_617 rfl rfl hm rfl (Nat.le_of_ble_eq_true rfl) (Nat.le_of_ble_eq_true rfl) (Nat.le_of_ble_eq_true rfl) (by omega) (by omega) rfl (fun _ _ z => z.elim) (fun v9 h5 hz => ?_)
  obtain ⟨rfl, p⟩ := hz
  obtain ⟨g, k⟩ := hP h5 p
  have J := I.cl g k
  obtain ⟨f, hf⟩ := I.lo
  obtain ⟨fd, hfd⟩ := I.do_
  have ho := k _ _ hf nC_lo
  have hod := k _ _ hfd nC_do
  simp only [Option.toList_some, List.cons_append, List.nil_append]
  refine g_aload_n dL_law_620 rfl ?_
  refine g_callV (av := [.ref o]) (rc' := rc) (rs' := rs) kL_202 (R h5 J.2) dL_law_621 rfl rfl J.2.1 rfl (Nat.le_of_ble_eq_true rfl) (Nat.le_of_ble_eq_true rfl) (Nat.le_of_ble_eq_true rfl) (by omega) (by omega) rfl (fun _ _ z => z.elim) (fun v9 h7 hz => ?_)
  obtain ⟨V1, F1, ⟨rfl, p7⟩, hM, hk⟩ := hz
  obtain ⟨gm, -, fr⟩ := J.md H hM hk p7
  have I7 : LI Γ de h7 m o ad out outD V1 F1 B' := ⟨gm, hM, ⟨f, fr _ _ ho nM_lo⟩, ⟨fd, fr _ _ hod nM_do⟩⟩
  simp only [Option.toList_some, List.cons_append, List.nil_append]
  exact g_icmp_eq (tgt := 3368) dL_law_624 (by decide) (fun _ => g_weak (L' := L0 sc m o out outD i) ⟨rfl, rfl, rfl, rfl, rfl, rfl, True.intro⟩ (Nat.le_refl _) (Nat.le_refl _) (K h7 V1 F1 p7 I7)) (fun z => absurd rfl z)
set_option maxRecDepth 100000 in
theorem lq_5 (H : gDi Γ) (hnc : gPnc Γ) (hsa : gPa Γ .int sc L (fun j => .int (xs j))) (hL : L ≤ 2048) (hi : i + 3 < L) (I : LI Γ de h m o ad out outD V F B) {W B' : Nat} {τ : Int32} {x : Int32} {P : gHp → Prop} {Ph : (Nat → Int32) → (Nat → Nat → Int32) → Prop} {fs : List Value} (hm : h m = some (gJ 12 fs)) (C : fC Γ M_X9_place [.ref m, .int (xs (i + 1)), .int (xs (i + 2))] h W τ (.int x) (nmOf xNS xIO xIS) P) (hP : ∀ h1, P h1 → (∀ V1 F1, Ph V1 F1 → gMO Γ de h1 m V1 F1 B') ∧ gFr (kC Γ) h h1) (R : mE Γ o ad M_X10_place [.int (xs (i + 1)), .int (xs (i + 2))] V F 7 (fun v V1 F1 => v = some (.int x) ∧ Ph V1 F1)) (ht9 : τ = 0 ∨ τ = nI 1 ∨ τ = nI 2 ∨ τ = nI 3) (h13 : ∀ V1 F1, Ph V1 F1 → V1 13 = τ) (K : ∀ h' V1 F1, Ph V1 F1 → LI Γ de h' m o ad out outD V1 F1 B' → G Γ M_L_law 32 mc ms Z ZX rc rs 3368 (L0 sc m o out outD i) [] h') : G Γ M_L_law 32 mc ms Z ZX (rc + 1000) (rs + W) 629 (L0 sc m o out outD i) [] h := by
  refine g_aload_n dL_law_629 rfl ?_
  refine la_arg (j := 1) ⟨dL_law_630, dL_law_631, dL_law_633, dL_law_634, dL_law_635, True.intro⟩ rfl hsa hL (by omega) rfl rfl ?_
  refine la_arg (j := 2) ⟨dL_law_636, dL_law_637, dL_law_639, dL_law_640, dL_law_641, True.intro⟩ rfl hsa hL (by omega) rfl rfl ?_
  refine g_aload_n dL_law_642 rfl ?_
  obtain ⟨f, hf⟩ := I.lo
  refine g_callSH (av := [.ref m, .int (xs (i + 1)), .int (xs (i + 2)), .ref out]) (rc' := rc) (rs' := rs) kL_203 (lw_place hnc _ _ hm C ht9 (fun h1 p => (hP h1 p).2 _ _ hf nC_lo)) dL_law_643 rfl rfl (Nat.le_of_ble_eq_true rfl) (Nat.le_of_ble_eq_true rfl) (Nat.le_of_ble_eq_true rfl) (by omega) (by omega) rfl (fun _ _ z => z.elim) (fun v9 h5 hz => ?_)
  obtain ⟨rfl, J, ho, hod⟩ := I.wr H hf hP hz
  simp only [Option.toList_some, List.cons_append, List.nil_append]
  refine g_istore dL_law_646 (Nat.le_of_ble_eq_true rfl) rfl ?_
  refine g_aload_n dL_law_648 rfl ?_
  refine la_arg (j := 1) ⟨dL_law_649, dL_law_650, dL_law_652, dL_law_653, dL_law_654, True.intro⟩ rfl hsa hL (by omega) rfl rfl ?_
  refine la_arg (j := 2) ⟨dL_law_655, dL_law_656, dL_law_658, dL_law_659, dL_law_660, True.intro⟩ rfl hsa hL (by omega) rfl rfl ?_
  refine g_callV (av := [.ref o, .int (xs (i + 1)), .int (xs (i + 2))]) (rc' := rc) (rs' := rs) kL_205 (R h5 J.2) dL_law_661 rfl rfl J.2.1 rfl (Nat.le_of_ble_eq_true rfl) (Nat.le_of_ble_eq_true rfl) (Nat.le_of_ble_eq_true rfl) (by omega) (by omega) rfl (fun _ _ z => z.elim) (fun v9 h7 hz => ?_)
  obtain ⟨V1, F1, ⟨rfl, p⟩, hM, hk⟩ := hz
  obtain ⟨gm, -, fr⟩ := J.md H hM hk p
  have ho7 := ho.tr fr (fun _ => nM_lo)
  have hod7 := hod.tr fr (fun _ => nM_do)
  have I7 : LI Γ de h7 m o ad out outD V1 F1 B' := ⟨gm, hM, ho7.any, hod7.any⟩
  simp only [Option.toList_some, List.cons_append, List.nil_append]
  exact lt_i H ⟨dL_law_664, dL_law_666, dL_law_667, dL_law_670, dL_law_672, dL_law_675, dL_law_676, dL_law_677, dL_law_679, dL_law_682, dL_law_683, dL_law_684, dL_law_685, dL_law_687, dL_law_688, dL_law_689, dL_law_692, dL_law_693, dL_law_694, True.intro⟩ (by decide) I7 ho7 (h13 V1 F1 p) (fun _ => rfl) (fun h' I' => K h' V1 F1 p I')
set_option maxRecDepth 100000 in
theorem lq_6 (H : gDi Γ) (hnc : gPnc Γ) (hsa : gPa Γ .int sc L (fun j => .int (xs j))) (hL : L ≤ 2048) (hi : i + 3 < L) (I : LI Γ de h m o ad out outD V F B) {W B' : Nat} {τ : Int32} {x : Int32} {P : gHp → Prop} {Ph : (Nat → Int32) → (Nat → Nat → Int32) → Prop} {fs : List Value} (hm : h m = some (gJ 12 fs)) (C : fC Γ M_X9_pull [.ref m, .int (xs (i + 1))] h W τ (.int x) (nmOf xNS xIS xIS) P) (hP : ∀ h1, P h1 → (∀ V1 F1, Ph V1 F1 → gMO Γ de h1 m V1 F1 B') ∧ gFr (kC Γ) h h1) (R : mE Γ o ad M_X10_pull [.int (xs (i + 1))] V F 5 (fun v V1 F1 => v = some (.int x) ∧ Ph V1 F1)) (ht9 : τ = 0 ∨ τ = nI 1 ∨ τ = nI 2) (h13 : ∀ V1 F1, Ph V1 F1 → V1 13 = τ) (K : ∀ h' V1 F1, Ph V1 F1 → LI Γ de h' m o ad out outD V1 F1 B' → G Γ M_L_law 32 mc ms Z ZX rc rs 3368 (L0 sc m o out outD i) [] h') : G Γ M_L_law 32 mc ms Z ZX (rc + 1000) (rs + W) 697 (L0 sc m o out outD i) [] h := by
  refine g_aload_n dL_law_697 rfl ?_
  refine la_arg (j := 1) ⟨dL_law_698, dL_law_699, dL_law_701, dL_law_702, dL_law_703, True.intro⟩ rfl hsa hL (by omega) rfl rfl ?_
  refine g_aload_n dL_law_704 rfl ?_
  obtain ⟨f, hf⟩ := I.lo
  refine g_callSH (av := [.ref m, .int (xs (i + 1)), .ref out]) (rc' := rc) (rs' := rs) kL_206 (lw_pull hnc _ hm C ht9 (fun h1 p => (hP h1 p).2 _ _ hf nC_lo)) dL_law_705 rfl rfl (Nat.le_of_ble_eq_true rfl) (Nat.le_of_ble_eq_true rfl) (Nat.le_of_ble_eq_true rfl) (by omega) (by omega) rfl (fun _ _ z => z.elim) (fun v9 h5 hz => ?_)
  obtain ⟨rfl, J, ho, hod⟩ := I.wr H hf hP hz
  simp only [Option.toList_some, List.cons_append, List.nil_append]
  refine g_istore dL_law_708 (Nat.le_of_ble_eq_true rfl) rfl ?_
  refine g_aload_n dL_law_710 rfl ?_
  refine la_arg (j := 1) ⟨dL_law_711, dL_law_712, dL_law_714, dL_law_715, dL_law_716, True.intro⟩ rfl hsa hL (by omega) rfl rfl ?_
  refine g_callV (av := [.ref o, .int (xs (i + 1))]) (rc' := rc) (rs' := rs) kL_208 (R h5 J.2) dL_law_717 rfl rfl J.2.1 rfl (Nat.le_of_ble_eq_true rfl) (Nat.le_of_ble_eq_true rfl) (Nat.le_of_ble_eq_true rfl) (by omega) (by omega) rfl (fun _ _ z => z.elim) (fun v9 h7 hz => ?_)
  obtain ⟨V1, F1, ⟨rfl, p⟩, hM, hk⟩ := hz
  obtain ⟨gm, -, fr⟩ := J.md H hM hk p
  have ho7 := ho.tr fr (fun _ => nM_lo)
  have hod7 := hod.tr fr (fun _ => nM_do)
  have I7 : LI Γ de h7 m o ad out outD V1 F1 B' := ⟨gm, hM, ho7.any, hod7.any⟩
  simp only [Option.toList_some, List.cons_append, List.nil_append]
  exact lt_i H ⟨dL_law_720, dL_law_722, dL_law_723, dL_law_726, dL_law_728, dL_law_731, dL_law_732, dL_law_733, dL_law_735, dL_law_738, dL_law_739, dL_law_740, dL_law_741, dL_law_743, dL_law_744, dL_law_745, dL_law_748, dL_law_749, dL_law_750, True.intro⟩ (by decide) I7 ho7 (h13 V1 F1 p) (fun _ => rfl) (fun h' I' => K h' V1 F1 p I')
set_option maxRecDepth 100000 in
theorem lq_7 (H : gDi Γ) (hnc : gPnc Γ) (hsa : gPa Γ .int sc L (fun j => .int (xs j))) (hL : L ≤ 2048) (hi : i + 3 < L) (I : LI Γ de h m o ad out outD V F B) {W B' : Nat} {τ : Int32} {x : Int32} {P : gHp → Prop} {Ph : (Nat → Int32) → (Nat → Nat → Int32) → Prop} {fs : List Value} (hm : h m = some (gJ 12 fs)) (C : fC Γ M_X9_setCutoff [.ref m, .int (xs (i + 1)), .int (xs (i + 2))] h W τ (.int x) (nmOf xIO xIA xIA) P) (hP : ∀ h1, P h1 → (∀ V1 F1, Ph V1 F1 → gMO Γ de h1 m V1 F1 B') ∧ gFr (kC Γ) h h1) (R : mE Γ o ad M_X10_setCutoff [.int (xs (i + 1)), .int (xs (i + 2))] V F 5 (fun v V1 F1 => v = some (.int x) ∧ Ph V1 F1)) (ht9 : τ = 0 ∨ τ = nI 1 ∨ τ = nI 2) (h13 : ∀ V1 F1, Ph V1 F1 → V1 13 = τ) (K : ∀ h' V1 F1, Ph V1 F1 → LI Γ de h' m o ad out outD V1 F1 B' → G Γ M_L_law 32 mc ms Z ZX rc rs 3368 (L0 sc m o out outD i) [] h') : G Γ M_L_law 32 mc ms Z ZX (rc + 1000) (rs + W) 753 (L0 sc m o out outD i) [] h := by
  refine g_aload_n dL_law_753 rfl ?_
  refine la_arg (j := 1) ⟨dL_law_754, dL_law_755, dL_law_757, dL_law_758, dL_law_759, True.intro⟩ rfl hsa hL (by omega) rfl rfl ?_
  refine la_arg (j := 2) ⟨dL_law_760, dL_law_761, dL_law_763, dL_law_764, dL_law_765, True.intro⟩ rfl hsa hL (by omega) rfl rfl ?_
  refine g_aload_n dL_law_766 rfl ?_
  obtain ⟨f, hf⟩ := I.lo
  refine g_callSH (av := [.ref m, .int (xs (i + 1)), .int (xs (i + 2)), .ref out]) (rc' := rc) (rs' := rs) kL_209 (lw_setCutoff hnc _ _ hm C ht9 (fun h1 p => (hP h1 p).2 _ _ hf nC_lo)) dL_law_767 rfl rfl (Nat.le_of_ble_eq_true rfl) (Nat.le_of_ble_eq_true rfl) (Nat.le_of_ble_eq_true rfl) (by omega) (by omega) rfl (fun _ _ z => z.elim) (fun v9 h5 hz => ?_)
  obtain ⟨rfl, J, ho, hod⟩ := I.wr H hf hP hz
  simp only [Option.toList_some, List.cons_append, List.nil_append]
  refine g_istore dL_law_770 (Nat.le_of_ble_eq_true rfl) rfl ?_
  refine g_aload_n dL_law_772 rfl ?_
  refine la_arg (j := 1) ⟨dL_law_773, dL_law_774, dL_law_776, dL_law_777, dL_law_778, True.intro⟩ rfl hsa hL (by omega) rfl rfl ?_
  refine la_arg (j := 2) ⟨dL_law_779, dL_law_780, dL_law_782, dL_law_783, dL_law_784, True.intro⟩ rfl hsa hL (by omega) rfl rfl ?_
  refine g_callV (av := [.ref o, .int (xs (i + 1)), .int (xs (i + 2))]) (rc' := rc) (rs' := rs) kL_211 (R h5 J.2) dL_law_785 rfl rfl J.2.1 rfl (Nat.le_of_ble_eq_true rfl) (Nat.le_of_ble_eq_true rfl) (Nat.le_of_ble_eq_true rfl) (by omega) (by omega) rfl (fun _ _ z => z.elim) (fun v9 h7 hz => ?_)
  obtain ⟨V1, F1, ⟨rfl, p⟩, hM, hk⟩ := hz
  obtain ⟨gm, -, fr⟩ := J.md H hM hk p
  have ho7 := ho.tr fr (fun _ => nM_lo)
  have hod7 := hod.tr fr (fun _ => nM_do)
  have I7 : LI Γ de h7 m o ad out outD V1 F1 B' := ⟨gm, hM, ho7.any, hod7.any⟩
  simp only [Option.toList_some, List.cons_append, List.nil_append]
  exact lt_i H ⟨dL_law_788, dL_law_790, dL_law_791, dL_law_794, dL_law_796, dL_law_799, dL_law_800, dL_law_801, dL_law_803, dL_law_806, dL_law_807, dL_law_808, dL_law_809, dL_law_811, dL_law_812, dL_law_813, dL_law_816, dL_law_817, dL_law_818, True.intro⟩ (by decide) I7 ho7 (h13 V1 F1 p) (fun _ => rfl) (fun h' I' => K h' V1 F1 p I')
set_option maxRecDepth 100000 in
theorem lq_8 (H : gDi Γ) (hnc : gPnc Γ) (hsa : gPa Γ .int sc L (fun j => .int (xs j))) (hL : L ≤ 2048) (hi : i + 3 < L) (I : LI Γ de h m o ad out outD V F B) {W B' : Nat} {τ : Int32} {x : Int32} {P : gHp → Prop} {Ph : (Nat → Int32) → (Nat → Nat → Int32) → Prop} {fs : List Value} (hm : h m = some (gJ 12 fs)) (C : fC Γ M_X9_setDeparture [.ref m, .int (xs (i + 1)), .int (xs (i + 2))] h W τ (.int x) (nmOf xIO xIA xIA) P) (hP : ∀ h1, P h1 → (∀ V1 F1, Ph V1 F1 → gMO Γ de h1 m V1 F1 B') ∧ gFr (kC Γ) h h1) (R : mE Γ o ad M_X10_setDeparture [.int (xs (i + 1)), .int (xs (i + 2))] V F 5 (fun v V1 F1 => v = some (.int x) ∧ Ph V1 F1)) (ht9 : τ = 0 ∨ τ = nI 1 ∨ τ = nI 2) (h13 : ∀ V1 F1, Ph V1 F1 → V1 13 = τ) (K : ∀ h' V1 F1, Ph V1 F1 → LI Γ de h' m o ad out outD V1 F1 B' → G Γ M_L_law 32 mc ms Z ZX rc rs 3368 (L0 sc m o out outD i) [] h') : G Γ M_L_law 32 mc ms Z ZX (rc + 1000) (rs + W) 821 (L0 sc m o out outD i) [] h := by
  refine g_aload_n dL_law_821 rfl ?_
  refine la_arg (j := 1) ⟨dL_law_822, dL_law_823, dL_law_825, dL_law_826, dL_law_827, True.intro⟩ rfl hsa hL (by omega) rfl rfl ?_
  refine la_arg (j := 2) ⟨dL_law_828, dL_law_829, dL_law_831, dL_law_832, dL_law_833, True.intro⟩ rfl hsa hL (by omega) rfl rfl ?_
  refine g_aload_n dL_law_834 rfl ?_
  obtain ⟨f, hf⟩ := I.lo
  refine g_callSH (av := [.ref m, .int (xs (i + 1)), .int (xs (i + 2)), .ref out]) (rc' := rc) (rs' := rs) kL_212 (lw_setDeparture hnc _ _ hm C ht9 (fun h1 p => (hP h1 p).2 _ _ hf nC_lo)) dL_law_835 rfl rfl (Nat.le_of_ble_eq_true rfl) (Nat.le_of_ble_eq_true rfl) (Nat.le_of_ble_eq_true rfl) (by omega) (by omega) rfl (fun _ _ z => z.elim) (fun v9 h5 hz => ?_)
  obtain ⟨rfl, J, ho, hod⟩ := I.wr H hf hP hz
  simp only [Option.toList_some, List.cons_append, List.nil_append]
  refine g_istore dL_law_838 (Nat.le_of_ble_eq_true rfl) rfl ?_
  refine g_aload_n dL_law_840 rfl ?_
  refine la_arg (j := 1) ⟨dL_law_841, dL_law_842, dL_law_844, dL_law_845, dL_law_846, True.intro⟩ rfl hsa hL (by omega) rfl rfl ?_
  refine la_arg (j := 2) ⟨dL_law_847, dL_law_848, dL_law_850, dL_law_851, dL_law_852, True.intro⟩ rfl hsa hL (by omega) rfl rfl ?_
  refine g_callV (av := [.ref o, .int (xs (i + 1)), .int (xs (i + 2))]) (rc' := rc) (rs' := rs) kL_214 (R h5 J.2) dL_law_853 rfl rfl J.2.1 rfl (Nat.le_of_ble_eq_true rfl) (Nat.le_of_ble_eq_true rfl) (Nat.le_of_ble_eq_true rfl) (by omega) (by omega) rfl (fun _ _ z => z.elim) (fun v9 h7 hz => ?_)
  obtain ⟨V1, F1, ⟨rfl, p⟩, hM, hk⟩ := hz
  obtain ⟨gm, -, fr⟩ := J.md H hM hk p
  have ho7 := ho.tr fr (fun _ => nM_lo)
  have hod7 := hod.tr fr (fun _ => nM_do)
  have I7 : LI Γ de h7 m o ad out outD V1 F1 B' := ⟨gm, hM, ho7.any, hod7.any⟩
  simp only [Option.toList_some, List.cons_append, List.nil_append]
  exact lt_i H ⟨dL_law_856, dL_law_858, dL_law_859, dL_law_862, dL_law_864, dL_law_867, dL_law_868, dL_law_869, dL_law_871, dL_law_874, dL_law_875, dL_law_876, dL_law_877, dL_law_879, dL_law_880, dL_law_881, dL_law_884, dL_law_885, dL_law_886, True.intro⟩ (by decide) I7 ho7 (h13 V1 F1 p) (fun _ => rfl) (fun h' I' => K h' V1 F1 p I')
set_option maxRecDepth 100000 in
theorem lq_9 (H : gDi Γ) (hnc : gPnc Γ) (hsa : gPa Γ .int sc L (fun j => .int (xs j))) (hL : L ≤ 2048) (hi : i + 3 < L) (I : LI Γ de h m o ad out outD V F B) {W B' : Nat} {τ : Int32} {x : Int32} {P : gHp → Prop} {Ph : (Nat → Int32) → (Nat → Nat → Int32) → Prop} {fs : List Value} (hm : h m = some (gJ 12 fs)) (C : fC Γ M_X9_pass [.ref m, .int (xs (i + 1))] h W τ (.int x) (nmOf xIA xIA xIA) P) (hP : ∀ h1, P h1 → (∀ V1 F1, Ph V1 F1 → gMO Γ de h1 m V1 F1 B') ∧ gFr (kC Γ) h h1) (R : mE Γ o ad M_X10_pass [.int (xs (i + 1))] V F 6 (fun v V1 F1 => v = some (.int x) ∧ Ph V1 F1)) (ht9 : τ = 0 ∨ τ = nI 1) (h13 : ∀ V1 F1, Ph V1 F1 → V1 13 = τ) (K : ∀ h' V1 F1, Ph V1 F1 → LI Γ de h' m o ad out outD V1 F1 B' → G Γ M_L_law 32 mc ms Z ZX rc rs 3368 (L0 sc m o out outD i) [] h') : G Γ M_L_law 32 mc ms Z ZX (rc + 1000) (rs + W) 889 (L0 sc m o out outD i) [] h := by
  refine g_aload_n dL_law_889 rfl ?_
  refine la_arg (j := 1) ⟨dL_law_890, dL_law_891, dL_law_893, dL_law_894, dL_law_895, True.intro⟩ rfl hsa hL (by omega) rfl rfl ?_
  refine g_aload_n dL_law_896 rfl ?_
  obtain ⟨f, hf⟩ := I.lo
  refine g_callSH (av := [.ref m, .int (xs (i + 1)), .ref out]) (rc' := rc) (rs' := rs) kL_215 (lw_pass hnc _ hm C ht9 (fun h1 p => (hP h1 p).2 _ _ hf nC_lo)) dL_law_897 rfl rfl (Nat.le_of_ble_eq_true rfl) (Nat.le_of_ble_eq_true rfl) (Nat.le_of_ble_eq_true rfl) (by omega) (by omega) rfl (fun _ _ z => z.elim) (fun v9 h5 hz => ?_)
  obtain ⟨rfl, J, ho, hod⟩ := I.wr H hf hP hz
  simp only [Option.toList_some, List.cons_append, List.nil_append]
  refine g_istore dL_law_900 (Nat.le_of_ble_eq_true rfl) rfl ?_
  refine g_aload_n dL_law_902 rfl ?_
  refine la_arg (j := 1) ⟨dL_law_903, dL_law_904, dL_law_906, dL_law_907, dL_law_908, True.intro⟩ rfl hsa hL (by omega) rfl rfl ?_
  refine g_callV (av := [.ref o, .int (xs (i + 1))]) (rc' := rc) (rs' := rs) kL_217 (R h5 J.2) dL_law_909 rfl rfl J.2.1 rfl (Nat.le_of_ble_eq_true rfl) (Nat.le_of_ble_eq_true rfl) (Nat.le_of_ble_eq_true rfl) (by omega) (by omega) rfl (fun _ _ z => z.elim) (fun v9 h7 hz => ?_)
  obtain ⟨V1, F1, ⟨rfl, p⟩, hM, hk⟩ := hz
  obtain ⟨gm, -, fr⟩ := J.md H hM hk p
  have ho7 := ho.tr fr (fun _ => nM_lo)
  have hod7 := hod.tr fr (fun _ => nM_do)
  have I7 : LI Γ de h7 m o ad out outD V1 F1 B' := ⟨gm, hM, ho7.any, hod7.any⟩
  simp only [Option.toList_some, List.cons_append, List.nil_append]
  exact lt_i H ⟨dL_law_912, dL_law_914, dL_law_915, dL_law_918, dL_law_920, dL_law_923, dL_law_924, dL_law_925, dL_law_927, dL_law_930, dL_law_931, dL_law_932, dL_law_933, dL_law_935, dL_law_936, dL_law_937, dL_law_940, dL_law_941, dL_law_942, True.intro⟩ (by decide) I7 ho7 (h13 V1 F1 p) (fun _ => rfl) (fun h' I' => K h' V1 F1 p I')
set_option maxRecDepth 100000 in
theorem lq_10 (H : gDi Γ) (hnc : gPnc Γ) (hsa : gPa Γ .int sc L (fun j => .int (xs j))) (hL : L ≤ 2048) (hi : i + 3 < L) (I : LI Γ de h m o ad out outD V F B) {W B' : Nat} {x : Int32} {P : gHp → Prop} {Ph : (Nat → Int32) → (Nat → Nat → Int32) → Prop} {fs : List Value} (hm : h m = some (gJ 12 fs)) (C : fN Γ M_X9_hour [.ref m] h W (.int x) P) (hP : ∀ h1, P h1 → (∀ V1 F1, Ph V1 F1 → gMO Γ de h1 m V1 F1 B') ∧ gFr (kC Γ) h h1) (R : mE Γ o ad M_X10_hour [] V F 0 (fun v V1 F1 => v = some (.int x) ∧ Ph V1 F1)) (K : ∀ h' V1 F1, Ph V1 F1 → LI Γ de h' m o ad out outD V1 F1 B' → G Γ M_L_law 32 mc ms Z ZX rc rs 3368 (L0 sc m o out outD i) [] h') : G Γ M_L_law 32 mc ms Z ZX (rc + 1000) (rs + W) 945 (L0 sc m o out outD i) [] h := by
  refine g_aload_n dL_law_945 rfl ?_
  refine g_callV (av := [.ref m]) (rc' := rc) (rs' := rs) kL_218 C dL_law_946 rfl rfl hm rfl (Nat.le_of_ble_eq_true rfl) (Nat.le_of_ble_eq_true rfl) (Nat.le_of_ble_eq_true rfl) (by omega) (by omega) rfl (fun _ _ z => z.elim) (fun v9 h5 hz => ?_)
  obtain ⟨rfl, p⟩ := hz
  obtain ⟨g, k⟩ := hP h5 p
  have J := I.cl g k
  obtain ⟨f, hf⟩ := I.lo
  obtain ⟨fd, hfd⟩ := I.do_
  have ho := k _ _ hf nC_lo
  have hod := k _ _ hfd nC_do
  simp only [Option.toList_some, List.cons_append, List.nil_append]
  refine g_aload_n dL_law_949 rfl ?_
  refine g_callV (av := [.ref o]) (rc' := rc) (rs' := rs) kL_221 (R h5 J.2) dL_law_950 rfl rfl J.2.1 rfl (Nat.le_of_ble_eq_true rfl) (Nat.le_of_ble_eq_true rfl) (Nat.le_of_ble_eq_true rfl) (by omega) (by omega) rfl (fun _ _ z => z.elim) (fun v9 h7 hz => ?_)
  obtain ⟨V1, F1, ⟨rfl, p7⟩, hM, hk⟩ := hz
  obtain ⟨gm, -, fr⟩ := J.md H hM hk p7
  have I7 : LI Γ de h7 m o ad out outD V1 F1 B' := ⟨gm, hM, ⟨f, fr _ _ ho nM_lo⟩, ⟨fd, fr _ _ hod nM_do⟩⟩
  simp only [Option.toList_some, List.cons_append, List.nil_append]
  exact g_icmp_eq (tgt := 3368) dL_law_953 (by decide) (fun _ => g_weak (L' := L0 sc m o out outD i) ⟨rfl, rfl, rfl, rfl, rfl, rfl, True.intro⟩ (Nat.le_refl _) (Nat.le_refl _) (K h7 V1 F1 p7 I7)) (fun z => absurd rfl z)
set_option maxRecDepth 100000 in
theorem lq_11 (H : gDi Γ) (hnc : gPnc Γ) (hsa : gPa Γ .int sc L (fun j => .int (xs j))) (hL : L ≤ 2048) (hi : i + 3 < L) (I : LI Γ de h m o ad out outD V F B) {W B' : Nat} {x : Int32} {P : gHp → Prop} {Ph : (Nat → Int32) → (Nat → Nat → Int32) → Prop} {fs : List Value} (hm : h m = some (gJ 12 fs)) (C : fN Γ M_X9_day [.ref m] h W (.int x) P) (hP : ∀ h1, P h1 → (∀ V1 F1, Ph V1 F1 → gMO Γ de h1 m V1 F1 B') ∧ gFr (kC Γ) h h1) (R : mE Γ o ad M_X10_day [] V F 0 (fun v V1 F1 => v = some (.int x) ∧ Ph V1 F1)) (K : ∀ h' V1 F1, Ph V1 F1 → LI Γ de h' m o ad out outD V1 F1 B' → G Γ M_L_law 32 mc ms Z ZX rc rs 3368 (L0 sc m o out outD i) [] h') : G Γ M_L_law 32 mc ms Z ZX (rc + 1000) (rs + W) 958 (L0 sc m o out outD i) [] h := by
  refine g_aload_n dL_law_958 rfl ?_
  refine g_callV (av := [.ref m]) (rc' := rc) (rs' := rs) kL_222 C dL_law_959 rfl rfl hm rfl (Nat.le_of_ble_eq_true rfl) (Nat.le_of_ble_eq_true rfl) (Nat.le_of_ble_eq_true rfl) (by omega) (by omega) rfl (fun _ _ z => z.elim) (fun v9 h5 hz => ?_)
  obtain ⟨rfl, p⟩ := hz
  obtain ⟨g, k⟩ := hP h5 p
  have J := I.cl g k
  obtain ⟨f, hf⟩ := I.lo
  obtain ⟨fd, hfd⟩ := I.do_
  have ho := k _ _ hf nC_lo
  have hod := k _ _ hfd nC_do
  simp only [Option.toList_some, List.cons_append, List.nil_append]
  refine g_aload_n dL_law_962 rfl ?_
  refine g_callV (av := [.ref o]) (rc' := rc) (rs' := rs) kL_225 (R h5 J.2) dL_law_963 rfl rfl J.2.1 rfl (Nat.le_of_ble_eq_true rfl) (Nat.le_of_ble_eq_true rfl) (Nat.le_of_ble_eq_true rfl) (by omega) (by omega) rfl (fun _ _ z => z.elim) (fun v9 h7 hz => ?_)
  obtain ⟨V1, F1, ⟨rfl, p7⟩, hM, hk⟩ := hz
  obtain ⟨gm, -, fr⟩ := J.md H hM hk p7
  have I7 : LI Γ de h7 m o ad out outD V1 F1 B' := ⟨gm, hM, ⟨f, fr _ _ ho nM_lo⟩, ⟨fd, fr _ _ hod nM_do⟩⟩
  simp only [Option.toList_some, List.cons_append, List.nil_append]
  exact g_icmp_eq (tgt := 3368) dL_law_966 (by decide) (fun _ => g_weak (L' := L0 sc m o out outD i) ⟨rfl, rfl, rfl, rfl, rfl, rfl, True.intro⟩ (Nat.le_refl _) (Nat.le_refl _) (K h7 V1 F1 p7 I7)) (fun z => absurd rfl z)
set_option maxRecDepth 100000 in
theorem lq_12 (H : gDi Γ) (hnc : gPnc Γ) (hsa : gPa Γ .int sc L (fun j => .int (xs j))) (hL : L ≤ 2048) (hi : i + 3 < L) (I : LI Γ de h m o ad out outD V F B) {W B' : Nat} {x : Int32} {P : gHp → Prop} {Ph : (Nat → Int32) → (Nat → Nat → Int32) → Prop} {fs : List Value} (hm : h m = some (gJ 12 fs)) (C : fN Γ M_X9_letterCount [.ref m] h W (.int x) P) (hP : ∀ h1, P h1 → (∀ V1 F1, Ph V1 F1 → gMO Γ de h1 m V1 F1 B') ∧ gFr (kC Γ) h h1) (R : mE Γ o ad M_X10_letterCount [] V F 0 (fun v V1 F1 => v = some (.int x) ∧ Ph V1 F1)) (K : ∀ h' V1 F1, Ph V1 F1 → LI Γ de h' m o ad out outD V1 F1 B' → G Γ M_L_law 32 mc ms Z ZX rc rs 3368 (L0 sc m o out outD i) [] h') : G Γ M_L_law 32 mc ms Z ZX (rc + 1000) (rs + W) 971 (L0 sc m o out outD i) [] h := by
  refine g_aload_n dL_law_971 rfl ?_
  refine g_callV (av := [.ref m]) (rc' := rc) (rs' := rs) kL_226 C dL_law_972 rfl rfl hm rfl (Nat.le_of_ble_eq_true rfl) (Nat.le_of_ble_eq_true rfl) (Nat.le_of_ble_eq_true rfl) (by omega) (by omega) rfl (fun _ _ z => z.elim) (fun v9 h5 hz => ?_)
  obtain ⟨rfl, p⟩ := hz
  obtain ⟨g, k⟩ := hP h5 p
  have J := I.cl g k
  obtain ⟨f, hf⟩ := I.lo
  obtain ⟨fd, hfd⟩ := I.do_
  have ho := k _ _ hf nC_lo
  have hod := k _ _ hfd nC_do
  simp only [Option.toList_some, List.cons_append, List.nil_append]
  refine g_aload_n dL_law_975 rfl ?_
  refine g_callV (av := [.ref o]) (rc' := rc) (rs' := rs) kL_229 (R h5 J.2) dL_law_976 rfl rfl J.2.1 rfl (Nat.le_of_ble_eq_true rfl) (Nat.le_of_ble_eq_true rfl) (Nat.le_of_ble_eq_true rfl) (by omega) (by omega) rfl (fun _ _ z => z.elim) (fun v9 h7 hz => ?_)
  obtain ⟨V1, F1, ⟨rfl, p7⟩, hM, hk⟩ := hz
  obtain ⟨gm, -, fr⟩ := J.md H hM hk p7
  have I7 : LI Γ de h7 m o ad out outD V1 F1 B' := ⟨gm, hM, ⟨f, fr _ _ ho nM_lo⟩, ⟨fd, fr _ _ hod nM_do⟩⟩
  simp only [Option.toList_some, List.cons_append, List.nil_append]
  exact g_icmp_eq (tgt := 3368) dL_law_979 (by decide) (fun _ => g_weak (L' := L0 sc m o out outD i) ⟨rfl, rfl, rfl, rfl, rfl, rfl, True.intro⟩ (Nat.le_refl _) (Nat.le_refl _) (K h7 V1 F1 p7 I7)) (fun z => absurd rfl z)
set_option maxRecDepth 100000 in
theorem lq_13 (H : gDi Γ) (hnc : gPnc Γ) (hsa : gPa Γ .int sc L (fun j => .int (xs j))) (hL : L ≤ 2048) (hi : i + 3 < L) (I : LI Γ de h m o ad out outD V F B) {W B' : Nat} {x : Int32} {P : gHp → Prop} {Ph : (Nat → Int32) → (Nat → Nat → Int32) → Prop} {fs : List Value} (hm : h m = some (gJ 12 fs)) (C : fN Γ M_X9_isPresent [.ref m, .int (xs (i + 1))] h W (.int x) P) (hP : ∀ h1, P h1 → (∀ V1 F1, Ph V1 F1 → gMO Γ de h1 m V1 F1 B') ∧ gFr (kC Γ) h h1) (R : mE Γ o ad M_X10_isPresent [.int (xs (i + 1))] V F 3 (fun v V1 F1 => v = some (.int x) ∧ Ph V1 F1)) (K : ∀ h' V1 F1, Ph V1 F1 → LI Γ de h' m o ad out outD V1 F1 B' → G Γ M_L_law 32 mc ms Z ZX rc rs 3368 (L0 sc m o out outD i) [] h') : G Γ M_L_law 32 mc ms Z ZX (rc + 1000) (rs + W) 984 (L0 sc m o out outD i) [] h := by
  refine g_aload_n dL_law_984 rfl ?_
  refine la_arg (j := 1) ⟨dL_law_985, dL_law_986, dL_law_988, dL_law_989, dL_law_990, True.intro⟩ rfl hsa hL (by omega) rfl rfl ?_
  refine g_callV (av := [.ref m, .int (xs (i + 1))]) (rc' := rc) (rs' := rs) kL_230 C dL_law_991 rfl rfl hm rfl (Nat.le_of_ble_eq_true rfl) (Nat.le_of_ble_eq_true rfl) (Nat.le_of_ble_eq_true rfl) (by omega) (by omega) rfl (fun _ _ z => z.elim) (fun v9 h5 hz => ?_)
  obtain ⟨rfl, p⟩ := hz
  obtain ⟨g, k⟩ := hP h5 p
  have J := I.cl g k
  obtain ⟨f, hf⟩ := I.lo
  obtain ⟨fd, hfd⟩ := I.do_
  have ho := k _ _ hf nC_lo
  have hod := k _ _ hfd nC_do
  simp only [Option.toList_some, List.cons_append, List.nil_append]
  refine g_aload_n dL_law_994 rfl ?_
  refine la_arg (j := 1) ⟨dL_law_995, dL_law_996, dL_law_998, dL_law_999, dL_law_1000, True.intro⟩ rfl hsa hL (by omega) rfl rfl ?_
  refine g_callV (av := [.ref o, .int (xs (i + 1))]) (rc' := rc) (rs' := rs) kL_233 (R h5 J.2) dL_law_1001 rfl rfl J.2.1 rfl (Nat.le_of_ble_eq_true rfl) (Nat.le_of_ble_eq_true rfl) (Nat.le_of_ble_eq_true rfl) (by omega) (by omega) rfl (fun _ _ z => z.elim) (fun v9 h7 hz => ?_)
  obtain ⟨V1, F1, ⟨rfl, p7⟩, hM, hk⟩ := hz
  obtain ⟨gm, -, fr⟩ := J.md H hM hk p7
  have I7 : LI Γ de h7 m o ad out outD V1 F1 B' := ⟨gm, hM, ⟨f, fr _ _ ho nM_lo⟩, ⟨fd, fr _ _ hod nM_do⟩⟩
  simp only [Option.toList_some, List.cons_append, List.nil_append]
  exact g_icmp_eq (tgt := 3368) dL_law_1004 (by decide) (fun _ => g_weak (L' := L0 sc m o out outD i) ⟨rfl, rfl, rfl, rfl, rfl, rfl, True.intro⟩ (Nat.le_refl _) (Nat.le_refl _) (K h7 V1 F1 p7 I7)) (fun z => absurd rfl z)
set_option maxRecDepth 100000 in
theorem lq_14 (H : gDi Γ) (hnc : gPnc Γ) (hsa : gPa Γ .int sc L (fun j => .int (xs j))) (hL : L ≤ 2048) (hi : i + 3 < L) (I : LI Γ de h m o ad out outD V F B) {W B' : Nat} {τ : Int32} {x : Int32} {P : gHp → Prop} {Ph : (Nat → Int32) → (Nat → Nat → Int32) → Prop} {fs : List Value} (hm : h m = some (gJ 12 fs)) (C : fC Γ M_X9_idAt [.ref m, .int (xs (i + 1))] h W τ (.int x) (nmOf xIO xIO xIO) P) (hP : ∀ h1, P h1 → (∀ V1 F1, Ph V1 F1 → gMO Γ de h1 m V1 F1 B') ∧ gFr (kC Γ) h h1) (R : mE Γ o ad M_X10_idAt [.int (xs (i + 1))] V F 2 (fun v V1 F1 => v = some (.int x) ∧ Ph V1 F1)) (ht9 : τ = 0 ∨ τ = nI 1) (h13 : ∀ V1 F1, Ph V1 F1 → V1 13 = τ) (K : ∀ h' V1 F1, Ph V1 F1 → LI Γ de h' m o ad out outD V1 F1 B' → G Γ M_L_law 32 mc ms Z ZX rc rs 3368 (L0 sc m o out outD i) [] h') : G Γ M_L_law 32 mc ms Z ZX (rc + 1000) (rs + W) 1009 (L0 sc m o out outD i) [] h := by
  refine g_aload_n dL_law_1009 rfl ?_
  refine la_arg (j := 1) ⟨dL_law_1010, dL_law_1011, dL_law_1013, dL_law_1014, dL_law_1015, True.intro⟩ rfl hsa hL (by omega) rfl rfl ?_
  refine g_aload_n dL_law_1016 rfl ?_
  obtain ⟨f, hf⟩ := I.lo
  refine g_callSH (av := [.ref m, .int (xs (i + 1)), .ref out]) (rc' := rc) (rs' := rs) kL_234 (lw_idAt hnc _ hm C ht9 (fun h1 p => (hP h1 p).2 _ _ hf nC_lo)) dL_law_1017 rfl rfl (Nat.le_of_ble_eq_true rfl) (Nat.le_of_ble_eq_true rfl) (Nat.le_of_ble_eq_true rfl) (by omega) (by omega) rfl (fun _ _ z => z.elim) (fun v9 h5 hz => ?_)
  obtain ⟨rfl, J, ho, hod⟩ := I.wr H hf hP hz
  simp only [Option.toList_some, List.cons_append, List.nil_append]
  refine g_istore dL_law_1020 (Nat.le_of_ble_eq_true rfl) rfl ?_
  refine g_aload_n dL_law_1022 rfl ?_
  refine la_arg (j := 1) ⟨dL_law_1023, dL_law_1024, dL_law_1026, dL_law_1027, dL_law_1028, True.intro⟩ rfl hsa hL (by omega) rfl rfl ?_
  refine g_callV (av := [.ref o, .int (xs (i + 1))]) (rc' := rc) (rs' := rs) kL_236 (R h5 J.2) dL_law_1029 rfl rfl J.2.1 rfl (Nat.le_of_ble_eq_true rfl) (Nat.le_of_ble_eq_true rfl) (Nat.le_of_ble_eq_true rfl) (by omega) (by omega) rfl (fun _ _ z => z.elim) (fun v9 h7 hz => ?_)
  obtain ⟨V1, F1, ⟨rfl, p⟩, hM, hk⟩ := hz
  obtain ⟨gm, -, fr⟩ := J.md H hM hk p
  have ho7 := ho.tr fr (fun _ => nM_lo)
  have hod7 := hod.tr fr (fun _ => nM_do)
  have I7 : LI Γ de h7 m o ad out outD V1 F1 B' := ⟨gm, hM, ho7.any, hod7.any⟩
  simp only [Option.toList_some, List.cons_append, List.nil_append]
  exact lt_i H ⟨dL_law_1032, dL_law_1034, dL_law_1035, dL_law_1038, dL_law_1040, dL_law_1043, dL_law_1044, dL_law_1045, dL_law_1047, dL_law_1050, dL_law_1051, dL_law_1052, dL_law_1053, dL_law_1055, dL_law_1056, dL_law_1057, dL_law_1060, dL_law_1061, dL_law_1062, True.intro⟩ (by decide) I7 ho7 (h13 V1 F1 p) (fun _ => rfl) (fun h' I' => K h' V1 F1 p I')
set_option maxRecDepth 100000 in
theorem lq_15 (H : gDi Γ) (hnc : gPnc Γ) (hsa : gPa Γ .int sc L (fun j => .int (xs j))) (hL : L ≤ 2048) (hi : i + 3 < L) (I : LI Γ de h m o ad out outD V F B) {W B' : Nat} {τ : Int32} {x : Int32} {P : gHp → Prop} {Ph : (Nat → Int32) → (Nat → Nat → Int32) → Prop} {fs : List Value} (hm : h m = some (gJ 12 fs)) (C : fC Γ M_X9_codeOf [.ref m, .int (xs (i + 1))] h W τ (.int x) (nmOf xNS xNS xNS) P) (hP : ∀ h1, P h1 → (∀ V1 F1, Ph V1 F1 → gMO Γ de h1 m V1 F1 B') ∧ gFr (kC Γ) h h1) (R : mE Γ o ad M_X10_codeOf [.int (xs (i + 1))] V F 4 (fun v V1 F1 => v = some (.int x) ∧ Ph V1 F1)) (ht9 : τ = 0 ∨ τ = nI 1) (h13 : ∀ V1 F1, Ph V1 F1 → V1 13 = τ) (K : ∀ h' V1 F1, Ph V1 F1 → LI Γ de h' m o ad out outD V1 F1 B' → G Γ M_L_law 32 mc ms Z ZX rc rs 3368 (L0 sc m o out outD i) [] h') : G Γ M_L_law 32 mc ms Z ZX (rc + 1000) (rs + W) 1065 (L0 sc m o out outD i) [] h := by
  refine g_aload_n dL_law_1065 rfl ?_
  refine la_arg (j := 1) ⟨dL_law_1066, dL_law_1067, dL_law_1069, dL_law_1070, dL_law_1071, True.intro⟩ rfl hsa hL (by omega) rfl rfl ?_
  refine g_aload_n dL_law_1072 rfl ?_
  obtain ⟨f, hf⟩ := I.lo
  refine g_callSH (av := [.ref m, .int (xs (i + 1)), .ref out]) (rc' := rc) (rs' := rs) kL_237 (lw_codeOf hnc _ hm C ht9 (fun h1 p => (hP h1 p).2 _ _ hf nC_lo)) dL_law_1073 rfl rfl (Nat.le_of_ble_eq_true rfl) (Nat.le_of_ble_eq_true rfl) (Nat.le_of_ble_eq_true rfl) (by omega) (by omega) rfl (fun _ _ z => z.elim) (fun v9 h5 hz => ?_)
  obtain ⟨rfl, J, ho, hod⟩ := I.wr H hf hP hz
  simp only [Option.toList_some, List.cons_append, List.nil_append]
  refine g_istore dL_law_1076 (Nat.le_of_ble_eq_true rfl) rfl ?_
  refine g_aload_n dL_law_1078 rfl ?_
  refine la_arg (j := 1) ⟨dL_law_1079, dL_law_1080, dL_law_1082, dL_law_1083, dL_law_1084, True.intro⟩ rfl hsa hL (by omega) rfl rfl ?_
  refine g_callV (av := [.ref o, .int (xs (i + 1))]) (rc' := rc) (rs' := rs) kL_239 (R h5 J.2) dL_law_1085 rfl rfl J.2.1 rfl (Nat.le_of_ble_eq_true rfl) (Nat.le_of_ble_eq_true rfl) (Nat.le_of_ble_eq_true rfl) (by omega) (by omega) rfl (fun _ _ z => z.elim) (fun v9 h7 hz => ?_)
  obtain ⟨V1, F1, ⟨rfl, p⟩, hM, hk⟩ := hz
  obtain ⟨gm, -, fr⟩ := J.md H hM hk p
  have ho7 := ho.tr fr (fun _ => nM_lo)
  have hod7 := hod.tr fr (fun _ => nM_do)
  have I7 : LI Γ de h7 m o ad out outD V1 F1 B' := ⟨gm, hM, ho7.any, hod7.any⟩
  simp only [Option.toList_some, List.cons_append, List.nil_append]
  exact lt_i H ⟨dL_law_1088, dL_law_1090, dL_law_1091, dL_law_1094, dL_law_1096, dL_law_1099, dL_law_1100, dL_law_1101, dL_law_1103, dL_law_1106, dL_law_1107, dL_law_1108, dL_law_1109, dL_law_1111, dL_law_1112, dL_law_1113, dL_law_1116, dL_law_1117, dL_law_1118, True.intro⟩ (by decide) I7 ho7 (h13 V1 F1 p) (fun _ => rfl) (fun h' I' => K h' V1 F1 p I')
set_option maxRecDepth 100000 in
theorem lq_16 (H : gDi Γ) (hnc : gPnc Γ) (hsa : gPa Γ .int sc L (fun j => .int (xs j))) (hL : L ≤ 2048) (hi : i + 3 < L) (I : LI Γ de h m o ad out outD V F B) {W B' : Nat} {τ : Int32} {x : Int32} {P : gHp → Prop} {Ph : (Nat → Int32) → (Nat → Nat → Int32) → Prop} {fs : List Value} (hm : h m = some (gJ 12 fs)) (C : fC Γ M_X9_weightOf [.ref m, .int (xs (i + 1))] h W τ (.int x) (nmOf xNS xNS xNS) P) (hP : ∀ h1, P h1 → (∀ V1 F1, Ph V1 F1 → gMO Γ de h1 m V1 F1 B') ∧ gFr (kC Γ) h h1) (R : mE Γ o ad M_X10_weightOf [.int (xs (i + 1))] V F 4 (fun v V1 F1 => v = some (.int x) ∧ Ph V1 F1)) (ht9 : τ = 0 ∨ τ = nI 1) (h13 : ∀ V1 F1, Ph V1 F1 → V1 13 = τ) (K : ∀ h' V1 F1, Ph V1 F1 → LI Γ de h' m o ad out outD V1 F1 B' → G Γ M_L_law 32 mc ms Z ZX rc rs 3368 (L0 sc m o out outD i) [] h') : G Γ M_L_law 32 mc ms Z ZX (rc + 1000) (rs + W) 1121 (L0 sc m o out outD i) [] h := by
  refine g_aload_n dL_law_1121 rfl ?_
  refine la_arg (j := 1) ⟨dL_law_1122, dL_law_1123, dL_law_1125, dL_law_1126, dL_law_1127, True.intro⟩ rfl hsa hL (by omega) rfl rfl ?_
  refine g_aload_n dL_law_1128 rfl ?_
  obtain ⟨f, hf⟩ := I.lo
  refine g_callSH (av := [.ref m, .int (xs (i + 1)), .ref out]) (rc' := rc) (rs' := rs) kL_240 (lw_weightOf hnc _ hm C ht9 (fun h1 p => (hP h1 p).2 _ _ hf nC_lo)) dL_law_1129 rfl rfl (Nat.le_of_ble_eq_true rfl) (Nat.le_of_ble_eq_true rfl) (Nat.le_of_ble_eq_true rfl) (by omega) (by omega) rfl (fun _ _ z => z.elim) (fun v9 h5 hz => ?_)
  obtain ⟨rfl, J, ho, hod⟩ := I.wr H hf hP hz
  simp only [Option.toList_some, List.cons_append, List.nil_append]
  refine g_istore dL_law_1132 (Nat.le_of_ble_eq_true rfl) rfl ?_
  refine g_aload_n dL_law_1134 rfl ?_
  refine la_arg (j := 1) ⟨dL_law_1135, dL_law_1136, dL_law_1138, dL_law_1139, dL_law_1140, True.intro⟩ rfl hsa hL (by omega) rfl rfl ?_
  refine g_callV (av := [.ref o, .int (xs (i + 1))]) (rc' := rc) (rs' := rs) kL_242 (R h5 J.2) dL_law_1141 rfl rfl J.2.1 rfl (Nat.le_of_ble_eq_true rfl) (Nat.le_of_ble_eq_true rfl) (Nat.le_of_ble_eq_true rfl) (by omega) (by omega) rfl (fun _ _ z => z.elim) (fun v9 h7 hz => ?_)
  obtain ⟨V1, F1, ⟨rfl, p⟩, hM, hk⟩ := hz
  obtain ⟨gm, -, fr⟩ := J.md H hM hk p
  have ho7 := ho.tr fr (fun _ => nM_lo)
  have hod7 := hod.tr fr (fun _ => nM_do)
  have I7 : LI Γ de h7 m o ad out outD V1 F1 B' := ⟨gm, hM, ho7.any, hod7.any⟩
  simp only [Option.toList_some, List.cons_append, List.nil_append]
  exact lt_i H ⟨dL_law_1144, dL_law_1146, dL_law_1147, dL_law_1150, dL_law_1152, dL_law_1155, dL_law_1156, dL_law_1157, dL_law_1159, dL_law_1162, dL_law_1163, dL_law_1164, dL_law_1165, dL_law_1167, dL_law_1168, dL_law_1169, dL_law_1172, dL_law_1173, dL_law_1174, True.intro⟩ (by decide) I7 ho7 (h13 V1 F1 p) (fun _ => rfl) (fun h' I' => K h' V1 F1 p I')
set_option maxRecDepth 100000 in
theorem lq_17 (H : gDi Γ) (hnc : gPnc Γ) (hsa : gPa Γ .int sc L (fun j => .int (xs j))) (hL : L ≤ 2048) (hi : i + 3 < L) (I : LI Γ de h m o ad out outD V F B) {W B' : Nat} {τ : Int32} {x : Int32} {P : gHp → Prop} {Ph : (Nat → Int32) → (Nat → Nat → Int32) → Prop} {fs : List Value} (hm : h m = some (gJ 12 fs)) (C : fC Γ M_X9_isPriority [.ref m, .int (xs (i + 1))] h W τ (.int x) (nmOf xNS xNS xNS) P) (hP : ∀ h1, P h1 → (∀ V1 F1, Ph V1 F1 → gMO Γ de h1 m V1 F1 B') ∧ gFr (kC Γ) h h1) (R : mE Γ o ad M_X10_isPriority [.int (xs (i + 1))] V F 4 (fun v V1 F1 => v = some (.int x) ∧ Ph V1 F1)) (ht9 : τ = 0 ∨ τ = nI 1) (h13 : ∀ V1 F1, Ph V1 F1 → V1 13 = τ) (K : ∀ h' V1 F1, Ph V1 F1 → LI Γ de h' m o ad out outD V1 F1 B' → G Γ M_L_law 32 mc ms Z ZX rc rs 3368 (L0 sc m o out outD i) [] h') : G Γ M_L_law 32 mc ms Z ZX (rc + 1000) (rs + W) 1177 (L0 sc m o out outD i) [] h := by
  refine g_aload_n dL_law_1177 rfl ?_
  refine la_arg (j := 1) ⟨dL_law_1178, dL_law_1179, dL_law_1181, dL_law_1182, dL_law_1183, True.intro⟩ rfl hsa hL (by omega) rfl rfl ?_
  refine g_aload_n dL_law_1184 rfl ?_
  obtain ⟨f, hf⟩ := I.lo
  refine g_callSH (av := [.ref m, .int (xs (i + 1)), .ref out]) (rc' := rc) (rs' := rs) kL_243 (lw_isPriority hnc _ hm C ht9 (fun h1 p => (hP h1 p).2 _ _ hf nC_lo)) dL_law_1185 rfl rfl (Nat.le_of_ble_eq_true rfl) (Nat.le_of_ble_eq_true rfl) (Nat.le_of_ble_eq_true rfl) (by omega) (by omega) rfl (fun _ _ z => z.elim) (fun v9 h5 hz => ?_)
  obtain ⟨rfl, J, ho, hod⟩ := I.wr H hf hP hz
  simp only [Option.toList_some, List.cons_append, List.nil_append]
  refine g_istore dL_law_1188 (Nat.le_of_ble_eq_true rfl) rfl ?_
  refine g_aload_n dL_law_1190 rfl ?_
  refine la_arg (j := 1) ⟨dL_law_1191, dL_law_1192, dL_law_1194, dL_law_1195, dL_law_1196, True.intro⟩ rfl hsa hL (by omega) rfl rfl ?_
  refine g_callV (av := [.ref o, .int (xs (i + 1))]) (rc' := rc) (rs' := rs) kL_245 (R h5 J.2) dL_law_1197 rfl rfl J.2.1 rfl (Nat.le_of_ble_eq_true rfl) (Nat.le_of_ble_eq_true rfl) (Nat.le_of_ble_eq_true rfl) (by omega) (by omega) rfl (fun _ _ z => z.elim) (fun v9 h7 hz => ?_)
  obtain ⟨V1, F1, ⟨rfl, p⟩, hM, hk⟩ := hz
  obtain ⟨gm, -, fr⟩ := J.md H hM hk p
  have ho7 := ho.tr fr (fun _ => nM_lo)
  have hod7 := hod.tr fr (fun _ => nM_do)
  have I7 : LI Γ de h7 m o ad out outD V1 F1 B' := ⟨gm, hM, ho7.any, hod7.any⟩
  simp only [Option.toList_some, List.cons_append, List.nil_append]
  exact lt_z H ⟨dL_law_1200, dL_law_1202, dL_law_1203, dL_law_1206, dL_law_1208, dL_law_1211, dL_law_1212, dL_law_1213, dL_law_1215, dL_law_1218, dL_law_1219, dL_law_1220, dL_law_1221, dL_law_1223, dL_law_1226, dL_law_1227, dL_law_1230, dL_law_1231, dL_law_1232, dL_law_1235, dL_law_1236, dL_law_1237, True.intro⟩ (by decide) I7 ho7 (fun _ => rfl) (h13 V1 F1 p) (fun h' I' => K h' V1 F1 p I')
set_option maxRecDepth 100000 in
theorem lq_18 (H : gDi Γ) (hnc : gPnc Γ) (hsa : gPa Γ .int sc L (fun j => .int (xs j))) (hL : L ≤ 2048) (hi : i + 3 < L) (I : LI Γ de h m o ad out outD V F B) {W B' : Nat} {τ : Int32} {x : Int32} {P : gHp → Prop} {Ph : (Nat → Int32) → (Nat → Nat → Int32) → Prop} {fs : List Value} (hm : h m = some (gJ 12 fs)) (C : fC Γ M_X9_returnsOf [.ref m, .int (xs (i + 1))] h W τ (.int x) (nmOf xNS xNS xNS) P) (hP : ∀ h1, P h1 → (∀ V1 F1, Ph V1 F1 → gMO Γ de h1 m V1 F1 B') ∧ gFr (kC Γ) h h1) (R : mE Γ o ad M_X10_returnsOf [.int (xs (i + 1))] V F 4 (fun v V1 F1 => v = some (.int x) ∧ Ph V1 F1)) (ht9 : τ = 0 ∨ τ = nI 1) (h13 : ∀ V1 F1, Ph V1 F1 → V1 13 = τ) (K : ∀ h' V1 F1, Ph V1 F1 → LI Γ de h' m o ad out outD V1 F1 B' → G Γ M_L_law 32 mc ms Z ZX rc rs 3368 (L0 sc m o out outD i) [] h') : G Γ M_L_law 32 mc ms Z ZX (rc + 1000) (rs + W) 1240 (L0 sc m o out outD i) [] h := by
  refine g_aload_n dL_law_1240 rfl ?_
  refine la_arg (j := 1) ⟨dL_law_1241, dL_law_1242, dL_law_1244, dL_law_1245, dL_law_1246, True.intro⟩ rfl hsa hL (by omega) rfl rfl ?_
  refine g_aload_n dL_law_1247 rfl ?_
  obtain ⟨f, hf⟩ := I.lo
  refine g_callSH (av := [.ref m, .int (xs (i + 1)), .ref out]) (rc' := rc) (rs' := rs) kL_246 (lw_returnsOf hnc _ hm C ht9 (fun h1 p => (hP h1 p).2 _ _ hf nC_lo)) dL_law_1248 rfl rfl (Nat.le_of_ble_eq_true rfl) (Nat.le_of_ble_eq_true rfl) (Nat.le_of_ble_eq_true rfl) (by omega) (by omega) rfl (fun _ _ z => z.elim) (fun v9 h5 hz => ?_)
  obtain ⟨rfl, J, ho, hod⟩ := I.wr H hf hP hz
  simp only [Option.toList_some, List.cons_append, List.nil_append]
  refine g_istore dL_law_1251 (Nat.le_of_ble_eq_true rfl) rfl ?_
  refine g_aload_n dL_law_1253 rfl ?_
  refine la_arg (j := 1) ⟨dL_law_1254, dL_law_1255, dL_law_1257, dL_law_1258, dL_law_1259, True.intro⟩ rfl hsa hL (by omega) rfl rfl ?_
  refine g_callV (av := [.ref o, .int (xs (i + 1))]) (rc' := rc) (rs' := rs) kL_248 (R h5 J.2) dL_law_1260 rfl rfl J.2.1 rfl (Nat.le_of_ble_eq_true rfl) (Nat.le_of_ble_eq_true rfl) (Nat.le_of_ble_eq_true rfl) (by omega) (by omega) rfl (fun _ _ z => z.elim) (fun v9 h7 hz => ?_)
  obtain ⟨V1, F1, ⟨rfl, p⟩, hM, hk⟩ := hz
  obtain ⟨gm, -, fr⟩ := J.md H hM hk p
  have ho7 := ho.tr fr (fun _ => nM_lo)
  have hod7 := hod.tr fr (fun _ => nM_do)
  have I7 : LI Γ de h7 m o ad out outD V1 F1 B' := ⟨gm, hM, ho7.any, hod7.any⟩
  simp only [Option.toList_some, List.cons_append, List.nil_append]
  exact lt_i H ⟨dL_law_1263, dL_law_1265, dL_law_1266, dL_law_1269, dL_law_1271, dL_law_1274, dL_law_1275, dL_law_1276, dL_law_1278, dL_law_1281, dL_law_1282, dL_law_1283, dL_law_1284, dL_law_1286, dL_law_1287, dL_law_1288, dL_law_1291, dL_law_1292, dL_law_1293, True.intro⟩ (by decide) I7 ho7 (h13 V1 F1 p) (fun _ => rfl) (fun h' I' => K h' V1 F1 p I')
set_option maxRecDepth 100000 in
theorem lq_19 (H : gDi Γ) (hnc : gPnc Γ) (hsa : gPa Γ .int sc L (fun j => .int (xs j))) (hL : L ≤ 2048) (hi : i + 3 < L) (I : LI Γ de h m o ad out outD V F B) {W B' : Nat} {τ : Int32} {x : Int32} {P : gHp → Prop} {Ph : (Nat → Int32) → (Nat → Nat → Int32) → Prop} {fs : List Value} (hm : h m = some (gJ 12 fs)) (C : fC Γ M_X9_isInTray [.ref m, .int (xs (i + 1))] h W τ (.int x) (nmOf xNS xNS xNS) P) (hP : ∀ h1, P h1 → (∀ V1 F1, Ph V1 F1 → gMO Γ de h1 m V1 F1 B') ∧ gFr (kC Γ) h h1) (R : mE Γ o ad M_X10_isInTray [.int (xs (i + 1))] V F 4 (fun v V1 F1 => v = some (.int x) ∧ Ph V1 F1)) (ht9 : τ = 0 ∨ τ = nI 1) (h13 : ∀ V1 F1, Ph V1 F1 → V1 13 = τ) (K : ∀ h' V1 F1, Ph V1 F1 → LI Γ de h' m o ad out outD V1 F1 B' → G Γ M_L_law 32 mc ms Z ZX rc rs 3368 (L0 sc m o out outD i) [] h') : G Γ M_L_law 32 mc ms Z ZX (rc + 1000) (rs + W) 1296 (L0 sc m o out outD i) [] h := by
  refine g_aload_n dL_law_1296 rfl ?_
  refine la_arg (j := 1) ⟨dL_law_1297, dL_law_1298, dL_law_1300, dL_law_1301, dL_law_1302, True.intro⟩ rfl hsa hL (by omega) rfl rfl ?_
  refine g_aload_n dL_law_1303 rfl ?_
  obtain ⟨f, hf⟩ := I.lo
  refine g_callSH (av := [.ref m, .int (xs (i + 1)), .ref out]) (rc' := rc) (rs' := rs) kL_249 (lw_isInTray hnc _ hm C ht9 (fun h1 p => (hP h1 p).2 _ _ hf nC_lo)) dL_law_1304 rfl rfl (Nat.le_of_ble_eq_true rfl) (Nat.le_of_ble_eq_true rfl) (Nat.le_of_ble_eq_true rfl) (by omega) (by omega) rfl (fun _ _ z => z.elim) (fun v9 h5 hz => ?_)
  obtain ⟨rfl, J, ho, hod⟩ := I.wr H hf hP hz
  simp only [Option.toList_some, List.cons_append, List.nil_append]
  refine g_istore dL_law_1307 (Nat.le_of_ble_eq_true rfl) rfl ?_
  refine g_aload_n dL_law_1309 rfl ?_
  refine la_arg (j := 1) ⟨dL_law_1310, dL_law_1311, dL_law_1313, dL_law_1314, dL_law_1315, True.intro⟩ rfl hsa hL (by omega) rfl rfl ?_
  refine g_callV (av := [.ref o, .int (xs (i + 1))]) (rc' := rc) (rs' := rs) kL_251 (R h5 J.2) dL_law_1316 rfl rfl J.2.1 rfl (Nat.le_of_ble_eq_true rfl) (Nat.le_of_ble_eq_true rfl) (Nat.le_of_ble_eq_true rfl) (by omega) (by omega) rfl (fun _ _ z => z.elim) (fun v9 h7 hz => ?_)
  obtain ⟨V1, F1, ⟨rfl, p⟩, hM, hk⟩ := hz
  obtain ⟨gm, -, fr⟩ := J.md H hM hk p
  have ho7 := ho.tr fr (fun _ => nM_lo)
  have hod7 := hod.tr fr (fun _ => nM_do)
  have I7 : LI Γ de h7 m o ad out outD V1 F1 B' := ⟨gm, hM, ho7.any, hod7.any⟩
  simp only [Option.toList_some, List.cons_append, List.nil_append]
  exact lt_z H ⟨dL_law_1319, dL_law_1321, dL_law_1322, dL_law_1325, dL_law_1327, dL_law_1330, dL_law_1331, dL_law_1332, dL_law_1334, dL_law_1337, dL_law_1338, dL_law_1339, dL_law_1340, dL_law_1342, dL_law_1345, dL_law_1346, dL_law_1349, dL_law_1350, dL_law_1351, dL_law_1354, dL_law_1355, dL_law_1356, True.intro⟩ (by decide) I7 ho7 (fun _ => rfl) (h13 V1 F1 p) (fun h' I' => K h' V1 F1 p I')
set_option maxRecDepth 100000 in
theorem lq_20 (H : gDi Γ) (hnc : gPnc Γ) (hsa : gPa Γ .int sc L (fun j => .int (xs j))) (hL : L ≤ 2048) (hi : i + 3 < L) (I : LI Γ de h m o ad out outD V F B) {W B' : Nat} {τ : Int32} {x : Int32} {P : gHp → Prop} {Ph : (Nat → Int32) → (Nat → Nat → Int32) → Prop} {fs : List Value} (hm : h m = some (gJ 12 fs)) (C : fC Γ M_X9_routeOfBag [.ref m, .int (xs (i + 1))] h W τ (.int x) (nmOf xNS xIS xIS) P) (hP : ∀ h1, P h1 → (∀ V1 F1, Ph V1 F1 → gMO Γ de h1 m V1 F1 B') ∧ gFr (kC Γ) h h1) (R : mE Γ o ad M_X10_routeOfBag [.int (xs (i + 1))] V F 3 (fun v V1 F1 => v = some (.int x) ∧ Ph V1 F1)) (ht9 : τ = 0 ∨ τ = nI 1 ∨ τ = nI 2) (h13 : ∀ V1 F1, Ph V1 F1 → V1 13 = τ) (K : ∀ h' V1 F1, Ph V1 F1 → LI Γ de h' m o ad out outD V1 F1 B' → G Γ M_L_law 32 mc ms Z ZX rc rs 3368 (L0 sc m o out outD i) [] h') : G Γ M_L_law 32 mc ms Z ZX (rc + 1000) (rs + W) 1359 (L0 sc m o out outD i) [] h := by
  refine g_aload_n dL_law_1359 rfl ?_
  refine la_arg (j := 1) ⟨dL_law_1360, dL_law_1361, dL_law_1363, dL_law_1364, dL_law_1365, True.intro⟩ rfl hsa hL (by omega) rfl rfl ?_
  refine g_aload_n dL_law_1366 rfl ?_
  obtain ⟨f, hf⟩ := I.lo
  refine g_callSH (av := [.ref m, .int (xs (i + 1)), .ref out]) (rc' := rc) (rs' := rs) kL_252 (lw_routeOfBag hnc _ hm C ht9 (fun h1 p => (hP h1 p).2 _ _ hf nC_lo)) dL_law_1367 rfl rfl (Nat.le_of_ble_eq_true rfl) (Nat.le_of_ble_eq_true rfl) (Nat.le_of_ble_eq_true rfl) (by omega) (by omega) rfl (fun _ _ z => z.elim) (fun v9 h5 hz => ?_)
  obtain ⟨rfl, J, ho, hod⟩ := I.wr H hf hP hz
  simp only [Option.toList_some, List.cons_append, List.nil_append]
  refine g_istore dL_law_1370 (Nat.le_of_ble_eq_true rfl) rfl ?_
  refine g_aload_n dL_law_1372 rfl ?_
  refine la_arg (j := 1) ⟨dL_law_1373, dL_law_1374, dL_law_1376, dL_law_1377, dL_law_1378, True.intro⟩ rfl hsa hL (by omega) rfl rfl ?_
  refine g_callV (av := [.ref o, .int (xs (i + 1))]) (rc' := rc) (rs' := rs) kL_254 (R h5 J.2) dL_law_1379 rfl rfl J.2.1 rfl (Nat.le_of_ble_eq_true rfl) (Nat.le_of_ble_eq_true rfl) (Nat.le_of_ble_eq_true rfl) (by omega) (by omega) rfl (fun _ _ z => z.elim) (fun v9 h7 hz => ?_)
  obtain ⟨V1, F1, ⟨rfl, p⟩, hM, hk⟩ := hz
  obtain ⟨gm, -, fr⟩ := J.md H hM hk p
  have ho7 := ho.tr fr (fun _ => nM_lo)
  have hod7 := hod.tr fr (fun _ => nM_do)
  have I7 : LI Γ de h7 m o ad out outD V1 F1 B' := ⟨gm, hM, ho7.any, hod7.any⟩
  simp only [Option.toList_some, List.cons_append, List.nil_append]
  exact lt_i H ⟨dL_law_1382, dL_law_1384, dL_law_1385, dL_law_1388, dL_law_1390, dL_law_1393, dL_law_1394, dL_law_1395, dL_law_1397, dL_law_1400, dL_law_1401, dL_law_1402, dL_law_1403, dL_law_1405, dL_law_1406, dL_law_1407, dL_law_1410, dL_law_1411, dL_law_1412, True.intro⟩ (by decide) I7 ho7 (h13 V1 F1 p) (fun _ => rfl) (fun h' I' => K h' V1 F1 p I')
set_option maxRecDepth 100000 in
theorem lq_21 (H : gDi Γ) (hnc : gPnc Γ) (hsa : gPa Γ .int sc L (fun j => .int (xs j))) (hL : L ≤ 2048) (hi : i + 3 < L) (I : LI Γ de h m o ad out outD V F B) {W B' : Nat} {τ : Int32} {x : Int32} {P : gHp → Prop} {Ph : (Nat → Int32) → (Nat → Nat → Int32) → Prop} {fs : List Value} (hm : h m = some (gJ 12 fs)) (C : fC Γ M_X9_bagOf [.ref m, .int (xs (i + 1))] h W τ (.int x) (nmOf xNS xIS xIS) P) (hP : ∀ h1, P h1 → (∀ V1 F1, Ph V1 F1 → gMO Γ de h1 m V1 F1 B') ∧ gFr (kC Γ) h h1) (R : mE Γ o ad M_X10_bagOf [.int (xs (i + 1))] V F 3 (fun v V1 F1 => v = some (.int x) ∧ Ph V1 F1)) (ht9 : τ = 0 ∨ τ = nI 1 ∨ τ = nI 2) (h13 : ∀ V1 F1, Ph V1 F1 → V1 13 = τ) (K : ∀ h' V1 F1, Ph V1 F1 → LI Γ de h' m o ad out outD V1 F1 B' → G Γ M_L_law 32 mc ms Z ZX rc rs 3368 (L0 sc m o out outD i) [] h') : G Γ M_L_law 32 mc ms Z ZX (rc + 1000) (rs + W) 1415 (L0 sc m o out outD i) [] h := by
  refine g_aload_n dL_law_1415 rfl ?_
  refine la_arg (j := 1) ⟨dL_law_1416, dL_law_1417, dL_law_1419, dL_law_1420, dL_law_1421, True.intro⟩ rfl hsa hL (by omega) rfl rfl ?_
  refine g_aload_n dL_law_1422 rfl ?_
  obtain ⟨f, hf⟩ := I.lo
  refine g_callSH (av := [.ref m, .int (xs (i + 1)), .ref out]) (rc' := rc) (rs' := rs) kL_255 (lw_bagOf hnc _ hm C ht9 (fun h1 p => (hP h1 p).2 _ _ hf nC_lo)) dL_law_1423 rfl rfl (Nat.le_of_ble_eq_true rfl) (Nat.le_of_ble_eq_true rfl) (Nat.le_of_ble_eq_true rfl) (by omega) (by omega) rfl (fun _ _ z => z.elim) (fun v9 h5 hz => ?_)
  obtain ⟨rfl, J, ho, hod⟩ := I.wr H hf hP hz
  simp only [Option.toList_some, List.cons_append, List.nil_append]
  refine g_istore dL_law_1426 (Nat.le_of_ble_eq_true rfl) rfl ?_
  refine g_aload_n dL_law_1428 rfl ?_
  refine la_arg (j := 1) ⟨dL_law_1429, dL_law_1430, dL_law_1432, dL_law_1433, dL_law_1434, True.intro⟩ rfl hsa hL (by omega) rfl rfl ?_
  refine g_callV (av := [.ref o, .int (xs (i + 1))]) (rc' := rc) (rs' := rs) kL_257 (R h5 J.2) dL_law_1435 rfl rfl J.2.1 rfl (Nat.le_of_ble_eq_true rfl) (Nat.le_of_ble_eq_true rfl) (Nat.le_of_ble_eq_true rfl) (by omega) (by omega) rfl (fun _ _ z => z.elim) (fun v9 h7 hz => ?_)
  obtain ⟨V1, F1, ⟨rfl, p⟩, hM, hk⟩ := hz
  obtain ⟨gm, -, fr⟩ := J.md H hM hk p
  have ho7 := ho.tr fr (fun _ => nM_lo)
  have hod7 := hod.tr fr (fun _ => nM_do)
  have I7 : LI Γ de h7 m o ad out outD V1 F1 B' := ⟨gm, hM, ho7.any, hod7.any⟩
  simp only [Option.toList_some, List.cons_append, List.nil_append]
  exact lt_i H ⟨dL_law_1438, dL_law_1440, dL_law_1441, dL_law_1444, dL_law_1446, dL_law_1449, dL_law_1450, dL_law_1451, dL_law_1453, dL_law_1456, dL_law_1457, dL_law_1458, dL_law_1459, dL_law_1461, dL_law_1462, dL_law_1463, dL_law_1466, dL_law_1467, dL_law_1468, True.intro⟩ (by decide) I7 ho7 (h13 V1 F1 p) (fun _ => rfl) (fun h' I' => K h' V1 F1 p I')
set_option maxRecDepth 100000 in
theorem lq_22 (H : gDi Γ) (hnc : gPnc Γ) (hsa : gPa Γ .int sc L (fun j => .int (xs j))) (hL : L ≤ 2048) (hi : i + 3 < L) (I : LI Γ de h m o ad out outD V F B) {W B' : Nat} {τ : Int32} {x : Int32} {P : gHp → Prop} {Ph : (Nat → Int32) → (Nat → Nat → Int32) → Prop} {fs : List Value} (hm : h m = some (gJ 12 fs)) (C : fC Γ M_X9_isMissorted [.ref m, .int (xs (i + 1))] h W τ (.int x) (nmOf xNS xNS xNS) P) (hP : ∀ h1, P h1 → (∀ V1 F1, Ph V1 F1 → gMO Γ de h1 m V1 F1 B') ∧ gFr (kC Γ) h h1) (R : mE Γ o ad M_X10_isMissorted [.int (xs (i + 1))] V F 4 (fun v V1 F1 => v = some (.int x) ∧ Ph V1 F1)) (ht9 : τ = 0 ∨ τ = nI 1) (h13 : ∀ V1 F1, Ph V1 F1 → V1 13 = τ) (K : ∀ h' V1 F1, Ph V1 F1 → LI Γ de h' m o ad out outD V1 F1 B' → G Γ M_L_law 32 mc ms Z ZX rc rs 3368 (L0 sc m o out outD i) [] h') : G Γ M_L_law 32 mc ms Z ZX (rc + 1000) (rs + W) 1471 (L0 sc m o out outD i) [] h := by
  refine g_aload_n dL_law_1471 rfl ?_
  refine la_arg (j := 1) ⟨dL_law_1472, dL_law_1473, dL_law_1475, dL_law_1476, dL_law_1477, True.intro⟩ rfl hsa hL (by omega) rfl rfl ?_
  refine g_aload_n dL_law_1478 rfl ?_
  obtain ⟨f, hf⟩ := I.lo
  refine g_callSH (av := [.ref m, .int (xs (i + 1)), .ref out]) (rc' := rc) (rs' := rs) kL_258 (lw_isMissorted hnc _ hm C ht9 (fun h1 p => (hP h1 p).2 _ _ hf nC_lo)) dL_law_1479 rfl rfl (Nat.le_of_ble_eq_true rfl) (Nat.le_of_ble_eq_true rfl) (Nat.le_of_ble_eq_true rfl) (by omega) (by omega) rfl (fun _ _ z => z.elim) (fun v9 h5 hz => ?_)
  obtain ⟨rfl, J, ho, hod⟩ := I.wr H hf hP hz
  simp only [Option.toList_some, List.cons_append, List.nil_append]
  refine g_istore dL_law_1482 (Nat.le_of_ble_eq_true rfl) rfl ?_
  refine g_aload_n dL_law_1484 rfl ?_
  refine la_arg (j := 1) ⟨dL_law_1485, dL_law_1486, dL_law_1488, dL_law_1489, dL_law_1490, True.intro⟩ rfl hsa hL (by omega) rfl rfl ?_
  refine g_callV (av := [.ref o, .int (xs (i + 1))]) (rc' := rc) (rs' := rs) kL_260 (R h5 J.2) dL_law_1491 rfl rfl J.2.1 rfl (Nat.le_of_ble_eq_true rfl) (Nat.le_of_ble_eq_true rfl) (Nat.le_of_ble_eq_true rfl) (by omega) (by omega) rfl (fun _ _ z => z.elim) (fun v9 h7 hz => ?_)
  obtain ⟨V1, F1, ⟨rfl, p⟩, hM, hk⟩ := hz
  obtain ⟨gm, -, fr⟩ := J.md H hM hk p
  have ho7 := ho.tr fr (fun _ => nM_lo)
  have hod7 := hod.tr fr (fun _ => nM_do)
  have I7 : LI Γ de h7 m o ad out outD V1 F1 B' := ⟨gm, hM, ho7.any, hod7.any⟩
  simp only [Option.toList_some, List.cons_append, List.nil_append]
  exact lt_z H ⟨dL_law_1494, dL_law_1496, dL_law_1497, dL_law_1500, dL_law_1502, dL_law_1505, dL_law_1506, dL_law_1507, dL_law_1509, dL_law_1512, dL_law_1513, dL_law_1514, dL_law_1515, dL_law_1517, dL_law_1520, dL_law_1521, dL_law_1524, dL_law_1525, dL_law_1526, dL_law_1529, dL_law_1530, dL_law_1531, True.intro⟩ (by decide) I7 ho7 (fun _ => rfl) (h13 V1 F1 p) (fun h' I' => K h' V1 F1 p I')
set_option maxRecDepth 100000 in
theorem lq_23 (H : gDi Γ) (hnc : gPnc Γ) (hsa : gPa Γ .int sc L (fun j => .int (xs j))) (hL : L ≤ 2048) (hi : i + 3 < L) (I : LI Γ de h m o ad out outD V F B) {W B' : Nat} {τ : Int32} {x : Int32} {P : gHp → Prop} {Ph : (Nat → Int32) → (Nat → Nat → Int32) → Prop} {fs : List Value} (hm : h m = some (gJ 12 fs)) (C : fC Γ M_X9_canSort [.ref m, .int (xs (i + 1))] h W τ (.int x) (nmOf xNS xNS xNS) P) (hP : ∀ h1, P h1 → (∀ V1 F1, Ph V1 F1 → gMO Γ de h1 m V1 F1 B') ∧ gFr (kC Γ) h h1) (R : mE Γ o ad M_X10_canSort [.int (xs (i + 1))] V F 5 (fun v V1 F1 => v = some (.int x) ∧ Ph V1 F1)) (ht9 : τ = 0 ∨ τ = nI 1) (h13 : ∀ V1 F1, Ph V1 F1 → V1 13 = τ) (K : ∀ h' V1 F1, Ph V1 F1 → LI Γ de h' m o ad out outD V1 F1 B' → G Γ M_L_law 32 mc ms Z ZX rc rs 3368 (L0 sc m o out outD i) [] h') : G Γ M_L_law 32 mc ms Z ZX (rc + 1000) (rs + W) 1534 (L0 sc m o out outD i) [] h := by
  refine g_aload_n dL_law_1534 rfl ?_
  refine la_arg (j := 1) ⟨dL_law_1535, dL_law_1536, dL_law_1538, dL_law_1539, dL_law_1540, True.intro⟩ rfl hsa hL (by omega) rfl rfl ?_
  refine g_aload_n dL_law_1541 rfl ?_
  obtain ⟨f, hf⟩ := I.lo
  refine g_callSH (av := [.ref m, .int (xs (i + 1)), .ref out]) (rc' := rc) (rs' := rs) kL_261 (lw_canSort hnc _ hm C ht9 (fun h1 p => (hP h1 p).2 _ _ hf nC_lo)) dL_law_1542 rfl rfl (Nat.le_of_ble_eq_true rfl) (Nat.le_of_ble_eq_true rfl) (Nat.le_of_ble_eq_true rfl) (by omega) (by omega) rfl (fun _ _ z => z.elim) (fun v9 h5 hz => ?_)
  obtain ⟨rfl, J, ho, hod⟩ := I.wr H hf hP hz
  simp only [Option.toList_some, List.cons_append, List.nil_append]
  refine g_istore dL_law_1545 (Nat.le_of_ble_eq_true rfl) rfl ?_
  refine g_aload_n dL_law_1547 rfl ?_
  refine la_arg (j := 1) ⟨dL_law_1548, dL_law_1549, dL_law_1551, dL_law_1552, dL_law_1553, True.intro⟩ rfl hsa hL (by omega) rfl rfl ?_
  refine g_callV (av := [.ref o, .int (xs (i + 1))]) (rc' := rc) (rs' := rs) kL_263 (R h5 J.2) dL_law_1554 rfl rfl J.2.1 rfl (Nat.le_of_ble_eq_true rfl) (Nat.le_of_ble_eq_true rfl) (Nat.le_of_ble_eq_true rfl) (by omega) (by omega) rfl (fun _ _ z => z.elim) (fun v9 h7 hz => ?_)
  obtain ⟨V1, F1, ⟨rfl, p⟩, hM, hk⟩ := hz
  obtain ⟨gm, -, fr⟩ := J.md H hM hk p
  have ho7 := ho.tr fr (fun _ => nM_lo)
  have hod7 := hod.tr fr (fun _ => nM_do)
  have I7 : LI Γ de h7 m o ad out outD V1 F1 B' := ⟨gm, hM, ho7.any, hod7.any⟩
  simp only [Option.toList_some, List.cons_append, List.nil_append]
  exact lt_z H ⟨dL_law_1557, dL_law_1559, dL_law_1560, dL_law_1563, dL_law_1565, dL_law_1568, dL_law_1569, dL_law_1570, dL_law_1572, dL_law_1575, dL_law_1576, dL_law_1577, dL_law_1578, dL_law_1580, dL_law_1583, dL_law_1584, dL_law_1587, dL_law_1588, dL_law_1589, dL_law_1592, dL_law_1593, dL_law_1594, True.intro⟩ (by decide) I7 ho7 (fun _ => rfl) (h13 V1 F1 p) (fun h' I' => K h' V1 F1 p I')
set_option maxRecDepth 100000 in
theorem lq_24 (H : gDi Γ) (hnc : gPnc Γ) (hsa : gPa Γ .int sc L (fun j => .int (xs j))) (hL : L ≤ 2048) (hi : i + 3 < L) (I : LI Γ de h m o ad out outD V F B) {W B' : Nat} {x : Int32} {P : gHp → Prop} {Ph : (Nat → Int32) → (Nat → Nat → Int32) → Prop} {fs : List Value} (hm : h m = some (gJ 12 fs)) (C : fN Γ M_X9_sortableCount [.ref m] h W (.int x) P) (hP : ∀ h1, P h1 → (∀ V1 F1, Ph V1 F1 → gMO Γ de h1 m V1 F1 B') ∧ gFr (kC Γ) h h1) (R : mE Γ o ad M_X10_sortableCount [] V F 7 (fun v V1 F1 => v = some (.int x) ∧ Ph V1 F1)) (K : ∀ h' V1 F1, Ph V1 F1 → LI Γ de h' m o ad out outD V1 F1 B' → G Γ M_L_law 32 mc ms Z ZX rc rs 3368 (L0 sc m o out outD i) [] h') : G Γ M_L_law 32 mc ms Z ZX (rc + 1000) (rs + W) 1597 (L0 sc m o out outD i) [] h := by
  refine g_aload_n dL_law_1597 rfl ?_
  refine g_callV (av := [.ref m]) (rc' := rc) (rs' := rs) kL_264 C dL_law_1598 rfl rfl hm rfl (Nat.le_of_ble_eq_true rfl) (Nat.le_of_ble_eq_true rfl) (Nat.le_of_ble_eq_true rfl) (by omega) (by omega) rfl (fun _ _ z => z.elim) (fun v9 h5 hz => ?_)
  obtain ⟨rfl, p⟩ := hz
  obtain ⟨g, k⟩ := hP h5 p
  have J := I.cl g k
  obtain ⟨f, hf⟩ := I.lo
  obtain ⟨fd, hfd⟩ := I.do_
  have ho := k _ _ hf nC_lo
  have hod := k _ _ hfd nC_do
  simp only [Option.toList_some, List.cons_append, List.nil_append]
  refine g_aload_n dL_law_1601 rfl ?_
  refine g_callV (av := [.ref o]) (rc' := rc) (rs' := rs) kL_267 (R h5 J.2) dL_law_1602 rfl rfl J.2.1 rfl (Nat.le_of_ble_eq_true rfl) (Nat.le_of_ble_eq_true rfl) (Nat.le_of_ble_eq_true rfl) (by omega) (by omega) rfl (fun _ _ z => z.elim) (fun v9 h7 hz => ?_)
  obtain ⟨V1, F1, ⟨rfl, p7⟩, hM, hk⟩ := hz
  obtain ⟨gm, -, fr⟩ := J.md H hM hk p7
  have I7 : LI Γ de h7 m o ad out outD V1 F1 B' := ⟨gm, hM, ⟨f, fr _ _ ho nM_lo⟩, ⟨fd, fr _ _ hod nM_do⟩⟩
  simp only [Option.toList_some, List.cons_append, List.nil_append]
  exact g_icmp_eq (tgt := 3368) dL_law_1605 (by decide) (fun _ => g_weak (L' := L0 sc m o out outD i) ⟨rfl, rfl, rfl, rfl, rfl, rfl, True.intro⟩ (Nat.le_refl _) (Nat.le_refl _) (K h7 V1 F1 p7 I7)) (fun z => absurd rfl z)
set_option maxRecDepth 100000 in
theorem lq_25 (H : gDi Γ) (hnc : gPnc Γ) (hsa : gPa Γ .int sc L (fun j => .int (xs j))) (hL : L ≤ 2048) (hi : i + 3 < L) (I : LI Γ de h m o ad out outD V F B) {W B' : Nat} {x : Int32} {P : gHp → Prop} {Ph : (Nat → Int32) → (Nat → Nat → Int32) → Prop} {fs : List Value} (hm : h m = some (gJ 12 fs)) (C : fN Γ M_X9_lateCount [.ref m] h W (.int x) P) (hP : ∀ h1, P h1 → (∀ V1 F1, Ph V1 F1 → gMO Γ de h1 m V1 F1 B') ∧ gFr (kC Γ) h h1) (R : mE Γ o ad M_X10_lateCount [] V F 3 (fun v V1 F1 => v = some (.int x) ∧ Ph V1 F1)) (K : ∀ h' V1 F1, Ph V1 F1 → LI Γ de h' m o ad out outD V1 F1 B' → G Γ M_L_law 32 mc ms Z ZX rc rs 3368 (L0 sc m o out outD i) [] h') : G Γ M_L_law 32 mc ms Z ZX (rc + 1000) (rs + W) 1610 (L0 sc m o out outD i) [] h := by
  refine g_aload_n dL_law_1610 rfl ?_
  refine g_callV (av := [.ref m]) (rc' := rc) (rs' := rs) kL_268 C dL_law_1611 rfl rfl hm rfl (Nat.le_of_ble_eq_true rfl) (Nat.le_of_ble_eq_true rfl) (Nat.le_of_ble_eq_true rfl) (by omega) (by omega) rfl (fun _ _ z => z.elim) (fun v9 h5 hz => ?_)
  obtain ⟨rfl, p⟩ := hz
  obtain ⟨g, k⟩ := hP h5 p
  have J := I.cl g k
  obtain ⟨f, hf⟩ := I.lo
  obtain ⟨fd, hfd⟩ := I.do_
  have ho := k _ _ hf nC_lo
  have hod := k _ _ hfd nC_do
  simp only [Option.toList_some, List.cons_append, List.nil_append]
  refine g_aload_n dL_law_1614 rfl ?_
  refine g_callV (av := [.ref o]) (rc' := rc) (rs' := rs) kL_271 (R h5 J.2) dL_law_1615 rfl rfl J.2.1 rfl (Nat.le_of_ble_eq_true rfl) (Nat.le_of_ble_eq_true rfl) (Nat.le_of_ble_eq_true rfl) (by omega) (by omega) rfl (fun _ _ z => z.elim) (fun v9 h7 hz => ?_)
  obtain ⟨V1, F1, ⟨rfl, p7⟩, hM, hk⟩ := hz
  obtain ⟨gm, -, fr⟩ := J.md H hM hk p7
  have I7 : LI Γ de h7 m o ad out outD V1 F1 B' := ⟨gm, hM, ⟨f, fr _ _ ho nM_lo⟩, ⟨fd, fr _ _ hod nM_do⟩⟩
  simp only [Option.toList_some, List.cons_append, List.nil_append]
  exact g_icmp_eq (tgt := 3368) dL_law_1618 (by decide) (fun _ => g_weak (L' := L0 sc m o out outD i) ⟨rfl, rfl, rfl, rfl, rfl, rfl, True.intro⟩ (Nat.le_refl _) (Nat.le_refl _) (K h7 V1 F1 p7 I7)) (fun z => absurd rfl z)
set_option maxRecDepth 100000 in
theorem lq_26 (H : gDi Γ) (hnc : gPnc Γ) (hsa : gPa Γ .int sc L (fun j => .int (xs j))) (hL : L ≤ 2048) (hi : i + 3 < L) (I : LI Γ de h m o ad out outD V F B) {W B' : Nat} {x : Int32} {P : gHp → Prop} {Ph : (Nat → Int32) → (Nat → Nat → Int32) → Prop} {fs : List Value} (hm : h m = some (gJ 12 fs)) (C : fN Γ M_X9_traySize [.ref m] h W (.int x) P) (hP : ∀ h1, P h1 → (∀ V1 F1, Ph V1 F1 → gMO Γ de h1 m V1 F1 B') ∧ gFr (kC Γ) h h1) (R : mE Γ o ad M_X10_traySize [] V F 2 (fun v V1 F1 => v = some (.int x) ∧ Ph V1 F1)) (K : ∀ h' V1 F1, Ph V1 F1 → LI Γ de h' m o ad out outD V1 F1 B' → G Γ M_L_law 32 mc ms Z ZX rc rs 3368 (L0 sc m o out outD i) [] h') : G Γ M_L_law 32 mc ms Z ZX (rc + 1000) (rs + W) 1623 (L0 sc m o out outD i) [] h := by
  refine g_aload_n dL_law_1623 rfl ?_
  refine g_callV (av := [.ref m]) (rc' := rc) (rs' := rs) kL_272 C dL_law_1624 rfl rfl hm rfl (Nat.le_of_ble_eq_true rfl) (Nat.le_of_ble_eq_true rfl) (Nat.le_of_ble_eq_true rfl) (by omega) (by omega) rfl (fun _ _ z => z.elim) (fun v9 h5 hz => ?_)
  obtain ⟨rfl, p⟩ := hz
  obtain ⟨g, k⟩ := hP h5 p
  have J := I.cl g k
  obtain ⟨f, hf⟩ := I.lo
  obtain ⟨fd, hfd⟩ := I.do_
  have ho := k _ _ hf nC_lo
  have hod := k _ _ hfd nC_do
  simp only [Option.toList_some, List.cons_append, List.nil_append]
  refine g_aload_n dL_law_1627 rfl ?_
  refine g_callV (av := [.ref o]) (rc' := rc) (rs' := rs) kL_275 (R h5 J.2) dL_law_1628 rfl rfl J.2.1 rfl (Nat.le_of_ble_eq_true rfl) (Nat.le_of_ble_eq_true rfl) (Nat.le_of_ble_eq_true rfl) (by omega) (by omega) rfl (fun _ _ z => z.elim) (fun v9 h7 hz => ?_)
  obtain ⟨V1, F1, ⟨rfl, p7⟩, hM, hk⟩ := hz
  obtain ⟨gm, -, fr⟩ := J.md H hM hk p7
  have I7 : LI Γ de h7 m o ad out outD V1 F1 B' := ⟨gm, hM, ⟨f, fr _ _ ho nM_lo⟩, ⟨fd, fr _ _ hod nM_do⟩⟩
  simp only [Option.toList_some, List.cons_append, List.nil_append]
  exact g_icmp_eq (tgt := 3368) dL_law_1631 (by decide) (fun _ => g_weak (L' := L0 sc m o out outD i) ⟨rfl, rfl, rfl, rfl, rfl, rfl, True.intro⟩ (Nat.le_refl _) (Nat.le_refl _) (K h7 V1 F1 p7 I7)) (fun z => absurd rfl z)
set_option maxRecDepth 100000 in
theorem lq_27 (H : gDi Γ) (hnc : gPnc Γ) (hsa : gPa Γ .int sc L (fun j => .int (xs j))) (hL : L ≤ 2048) (hi : i + 3 < L) (I : LI Γ de h m o ad out outD V F B) {W B' : Nat} {τ : Int32} {x : Int32} {P : gHp → Prop} {Ph : (Nat → Int32) → (Nat → Nat → Int32) → Prop} {fs : List Value} (hm : h m = some (gJ 12 fs)) (C : fC Γ M_X9_trayAt [.ref m, .int (xs (i + 1))] h W τ (.int x) (nmOf xNS xNS xNS) P) (hP : ∀ h1, P h1 → (∀ V1 F1, Ph V1 F1 → gMO Γ de h1 m V1 F1 B') ∧ gFr (kC Γ) h h1) (R : mE Γ o ad M_X10_trayAt [.int (xs (i + 1))] V F 2 (fun v V1 F1 => v = some (.int x) ∧ Ph V1 F1)) (ht9 : τ = 0 ∨ τ = nI 1) (h13 : ∀ V1 F1, Ph V1 F1 → V1 13 = τ) (K : ∀ h' V1 F1, Ph V1 F1 → LI Γ de h' m o ad out outD V1 F1 B' → G Γ M_L_law 32 mc ms Z ZX rc rs 3368 (L0 sc m o out outD i) [] h') : G Γ M_L_law 32 mc ms Z ZX (rc + 1000) (rs + W) 1636 (L0 sc m o out outD i) [] h := by
  refine g_aload_n dL_law_1636 rfl ?_
  refine la_arg (j := 1) ⟨dL_law_1637, dL_law_1638, dL_law_1640, dL_law_1641, dL_law_1642, True.intro⟩ rfl hsa hL (by omega) rfl rfl ?_
  refine g_aload_n dL_law_1643 rfl ?_
  obtain ⟨f, hf⟩ := I.lo
  refine g_callSH (av := [.ref m, .int (xs (i + 1)), .ref out]) (rc' := rc) (rs' := rs) kL_276 (lw_trayAt hnc _ hm C ht9 (fun h1 p => (hP h1 p).2 _ _ hf nC_lo)) dL_law_1644 rfl rfl (Nat.le_of_ble_eq_true rfl) (Nat.le_of_ble_eq_true rfl) (Nat.le_of_ble_eq_true rfl) (by omega) (by omega) rfl (fun _ _ z => z.elim) (fun v9 h5 hz => ?_)
  obtain ⟨rfl, J, ho, hod⟩ := I.wr H hf hP hz
  simp only [Option.toList_some, List.cons_append, List.nil_append]
  refine g_istore dL_law_1647 (Nat.le_of_ble_eq_true rfl) rfl ?_
  refine g_aload_n dL_law_1649 rfl ?_
  refine la_arg (j := 1) ⟨dL_law_1650, dL_law_1651, dL_law_1653, dL_law_1654, dL_law_1655, True.intro⟩ rfl hsa hL (by omega) rfl rfl ?_
  refine g_callV (av := [.ref o, .int (xs (i + 1))]) (rc' := rc) (rs' := rs) kL_278 (R h5 J.2) dL_law_1656 rfl rfl J.2.1 rfl (Nat.le_of_ble_eq_true rfl) (Nat.le_of_ble_eq_true rfl) (Nat.le_of_ble_eq_true rfl) (by omega) (by omega) rfl (fun _ _ z => z.elim) (fun v9 h7 hz => ?_)
  obtain ⟨V1, F1, ⟨rfl, p⟩, hM, hk⟩ := hz
  obtain ⟨gm, -, fr⟩ := J.md H hM hk p
  have ho7 := ho.tr fr (fun _ => nM_lo)
  have hod7 := hod.tr fr (fun _ => nM_do)
  have I7 : LI Γ de h7 m o ad out outD V1 F1 B' := ⟨gm, hM, ho7.any, hod7.any⟩
  simp only [Option.toList_some, List.cons_append, List.nil_append]
  exact lt_i H ⟨dL_law_1659, dL_law_1661, dL_law_1662, dL_law_1665, dL_law_1667, dL_law_1670, dL_law_1671, dL_law_1672, dL_law_1674, dL_law_1677, dL_law_1678, dL_law_1679, dL_law_1680, dL_law_1682, dL_law_1683, dL_law_1684, dL_law_1687, dL_law_1688, dL_law_1689, True.intro⟩ (by decide) I7 ho7 (h13 V1 F1 p) (fun _ => rfl) (fun h' I' => K h' V1 F1 p I')
set_option maxRecDepth 100000 in
theorem lq_28 (H : gDi Γ) (hnc : gPnc Γ) (hsa : gPa Γ .int sc L (fun j => .int (xs j))) (hL : L ≤ 2048) (hi : i + 3 < L) (I : LI Γ de h m o ad out outD V F B) {W B' : Nat} {x : Int32} {P : gHp → Prop} {Ph : (Nat → Int32) → (Nat → Nat → Int32) → Prop} {fs : List Value} (hm : h m = some (gJ 12 fs)) (C : fN Γ M_X9_prefixCount [.ref m] h W (.int x) P) (hP : ∀ h1, P h1 → (∀ V1 F1, Ph V1 F1 → gMO Γ de h1 m V1 F1 B') ∧ gFr (kC Γ) h h1) (R : mE Γ o ad M_X10_prefixCount [] V F 0 (fun v V1 F1 => v = some (.int x) ∧ Ph V1 F1)) (K : ∀ h' V1 F1, Ph V1 F1 → LI Γ de h' m o ad out outD V1 F1 B' → G Γ M_L_law 32 mc ms Z ZX rc rs 3368 (L0 sc m o out outD i) [] h') : G Γ M_L_law 32 mc ms Z ZX (rc + 1000) (rs + W) 1692 (L0 sc m o out outD i) [] h := by
  refine g_aload_n dL_law_1692 rfl ?_
  refine g_callV (av := [.ref m]) (rc' := rc) (rs' := rs) kL_279 C dL_law_1693 rfl rfl hm rfl (Nat.le_of_ble_eq_true rfl) (Nat.le_of_ble_eq_true rfl) (Nat.le_of_ble_eq_true rfl) (by omega) (by omega) rfl (fun _ _ z => z.elim) (fun v9 h5 hz => ?_)
  obtain ⟨rfl, p⟩ := hz
  obtain ⟨g, k⟩ := hP h5 p
  have J := I.cl g k
  obtain ⟨f, hf⟩ := I.lo
  obtain ⟨fd, hfd⟩ := I.do_
  have ho := k _ _ hf nC_lo
  have hod := k _ _ hfd nC_do
  simp only [Option.toList_some, List.cons_append, List.nil_append]
  refine g_aload_n dL_law_1696 rfl ?_
  refine g_callV (av := [.ref o]) (rc' := rc) (rs' := rs) kL_282 (R h5 J.2) dL_law_1697 rfl rfl J.2.1 rfl (Nat.le_of_ble_eq_true rfl) (Nat.le_of_ble_eq_true rfl) (Nat.le_of_ble_eq_true rfl) (by omega) (by omega) rfl (fun _ _ z => z.elim) (fun v9 h7 hz => ?_)
  obtain ⟨V1, F1, ⟨rfl, p7⟩, hM, hk⟩ := hz
  obtain ⟨gm, -, fr⟩ := J.md H hM hk p7
  have I7 : LI Γ de h7 m o ad out outD V1 F1 B' := ⟨gm, hM, ⟨f, fr _ _ ho nM_lo⟩, ⟨fd, fr _ _ hod nM_do⟩⟩
  simp only [Option.toList_some, List.cons_append, List.nil_append]
  exact g_icmp_eq (tgt := 3368) dL_law_1700 (by decide) (fun _ => g_weak (L' := L0 sc m o out outD i) ⟨rfl, rfl, rfl, rfl, rfl, rfl, True.intro⟩ (Nat.le_refl _) (Nat.le_refl _) (K h7 V1 F1 p7 I7)) (fun z => absurd rfl z)
set_option maxRecDepth 100000 in
theorem lq_29 (H : gDi Γ) (hnc : gPnc Γ) (hsa : gPa Γ .int sc L (fun j => .int (xs j))) (hL : L ≤ 2048) (hi : i + 3 < L) (I : LI Γ de h m o ad out outD V F B) {W B' : Nat} {τ : Int32} {x : Int32} {P : gHp → Prop} {Ph : (Nat → Int32) → (Nat → Nat → Int32) → Prop} {fs : List Value} (hm : h m = some (gJ 12 fs)) (C : fC Γ M_X9_hasPrefix [.ref m, .int (xs (i + 1)), .int (xs (i + 2))] h W τ (.int x) (nmOf xIA xIA xIA) P) (hP : ∀ h1, P h1 → (∀ V1 F1, Ph V1 F1 → gMO Γ de h1 m V1 F1 B') ∧ gFr (kC Γ) h h1) (R : mE Γ o ad M_X10_hasPrefix [.int (xs (i + 1)), .int (xs (i + 2))] V F 3 (fun v V1 F1 => v = some (.int x) ∧ Ph V1 F1)) (ht9 : τ = 0 ∨ τ = nI 1) (h13 : ∀ V1 F1, Ph V1 F1 → V1 13 = τ) (K : ∀ h' V1 F1, Ph V1 F1 → LI Γ de h' m o ad out outD V1 F1 B' → G Γ M_L_law 32 mc ms Z ZX rc rs 3368 (L0 sc m o out outD i) [] h') : G Γ M_L_law 32 mc ms Z ZX (rc + 1000) (rs + W) 1705 (L0 sc m o out outD i) [] h := by
  refine g_aload_n dL_law_1705 rfl ?_
  refine la_arg (j := 1) ⟨dL_law_1706, dL_law_1707, dL_law_1709, dL_law_1710, dL_law_1711, True.intro⟩ rfl hsa hL (by omega) rfl rfl ?_
  refine la_arg (j := 2) ⟨dL_law_1712, dL_law_1713, dL_law_1715, dL_law_1716, dL_law_1717, True.intro⟩ rfl hsa hL (by omega) rfl rfl ?_
  refine g_aload_n dL_law_1718 rfl ?_
  obtain ⟨f, hf⟩ := I.lo
  refine g_callSH (av := [.ref m, .int (xs (i + 1)), .int (xs (i + 2)), .ref out]) (rc' := rc) (rs' := rs) kL_283 (lw_hasPrefix hnc _ _ hm C ht9 (fun h1 p => (hP h1 p).2 _ _ hf nC_lo)) dL_law_1719 rfl rfl (Nat.le_of_ble_eq_true rfl) (Nat.le_of_ble_eq_true rfl) (Nat.le_of_ble_eq_true rfl) (by omega) (by omega) rfl (fun _ _ z => z.elim) (fun v9 h5 hz => ?_)
  obtain ⟨rfl, J, ho, hod⟩ := I.wr H hf hP hz
  simp only [Option.toList_some, List.cons_append, List.nil_append]
  refine g_istore dL_law_1722 (Nat.le_of_ble_eq_true rfl) rfl ?_
  refine g_aload_n dL_law_1724 rfl ?_
  refine la_arg (j := 1) ⟨dL_law_1725, dL_law_1726, dL_law_1728, dL_law_1729, dL_law_1730, True.intro⟩ rfl hsa hL (by omega) rfl rfl ?_
  refine la_arg (j := 2) ⟨dL_law_1731, dL_law_1732, dL_law_1734, dL_law_1735, dL_law_1736, True.intro⟩ rfl hsa hL (by omega) rfl rfl ?_
  refine g_callV (av := [.ref o, .int (xs (i + 1)), .int (xs (i + 2))]) (rc' := rc) (rs' := rs) kL_285 (R h5 J.2) dL_law_1737 rfl rfl J.2.1 rfl (Nat.le_of_ble_eq_true rfl) (Nat.le_of_ble_eq_true rfl) (Nat.le_of_ble_eq_true rfl) (by omega) (by omega) rfl (fun _ _ z => z.elim) (fun v9 h7 hz => ?_)
  obtain ⟨V1, F1, ⟨rfl, p⟩, hM, hk⟩ := hz
  obtain ⟨gm, -, fr⟩ := J.md H hM hk p
  have ho7 := ho.tr fr (fun _ => nM_lo)
  have hod7 := hod.tr fr (fun _ => nM_do)
  have I7 : LI Γ de h7 m o ad out outD V1 F1 B' := ⟨gm, hM, ho7.any, hod7.any⟩
  simp only [Option.toList_some, List.cons_append, List.nil_append]
  exact lt_z H ⟨dL_law_1740, dL_law_1742, dL_law_1743, dL_law_1746, dL_law_1748, dL_law_1751, dL_law_1752, dL_law_1753, dL_law_1755, dL_law_1758, dL_law_1759, dL_law_1760, dL_law_1761, dL_law_1763, dL_law_1766, dL_law_1767, dL_law_1770, dL_law_1771, dL_law_1772, dL_law_1775, dL_law_1776, dL_law_1777, True.intro⟩ (by decide) I7 ho7 (fun _ => rfl) (h13 V1 F1 p) (fun h' I' => K h' V1 F1 p I')
set_option maxRecDepth 100000 in
theorem lq_30 (H : gDi Γ) (hnc : gPnc Γ) (hsa : gPa Γ .int sc L (fun j => .int (xs j))) (hL : L ≤ 2048) (hi : i + 3 < L) (I : LI Γ de h m o ad out outD V F B) {W B' : Nat} {τ : Int32} {x : Int32} {P : gHp → Prop} {Ph : (Nat → Int32) → (Nat → Nat → Int32) → Prop} {fs : List Value} (hm : h m = some (gJ 12 fs)) (C : fC Γ M_X9_routeFor [.ref m, .int (xs (i + 1))] h W τ (.int x) (nmOf xIA xNS xNS) P) (hP : ∀ h1, P h1 → (∀ V1 F1, Ph V1 F1 → gMO Γ de h1 m V1 F1 B') ∧ gFr (kC Γ) h h1) (R : mE Γ o ad M_X10_routeFor [.int (xs (i + 1))] V F 4 (fun v V1 F1 => v = some (.int x) ∧ Ph V1 F1)) (ht9 : τ = 0 ∨ τ = nI 1 ∨ τ = nI 2) (h13 : ∀ V1 F1, Ph V1 F1 → V1 13 = τ) (K : ∀ h' V1 F1, Ph V1 F1 → LI Γ de h' m o ad out outD V1 F1 B' → G Γ M_L_law 32 mc ms Z ZX rc rs 3368 (L0 sc m o out outD i) [] h') : G Γ M_L_law 32 mc ms Z ZX (rc + 1000) (rs + W) 1780 (L0 sc m o out outD i) [] h := by
  refine g_aload_n dL_law_1780 rfl ?_
  refine la_arg (j := 1) ⟨dL_law_1781, dL_law_1782, dL_law_1784, dL_law_1785, dL_law_1786, True.intro⟩ rfl hsa hL (by omega) rfl rfl ?_
  refine g_aload_n dL_law_1787 rfl ?_
  obtain ⟨f, hf⟩ := I.lo
  refine g_callSH (av := [.ref m, .int (xs (i + 1)), .ref out]) (rc' := rc) (rs' := rs) kL_286 (lw_routeFor hnc _ hm C ht9 (fun h1 p => (hP h1 p).2 _ _ hf nC_lo)) dL_law_1788 rfl rfl (Nat.le_of_ble_eq_true rfl) (Nat.le_of_ble_eq_true rfl) (Nat.le_of_ble_eq_true rfl) (by omega) (by omega) rfl (fun _ _ z => z.elim) (fun v9 h5 hz => ?_)
  obtain ⟨rfl, J, ho, hod⟩ := I.wr H hf hP hz
  simp only [Option.toList_some, List.cons_append, List.nil_append]
  refine g_istore dL_law_1791 (Nat.le_of_ble_eq_true rfl) rfl ?_
  refine g_aload_n dL_law_1793 rfl ?_
  refine la_arg (j := 1) ⟨dL_law_1794, dL_law_1795, dL_law_1797, dL_law_1798, dL_law_1799, True.intro⟩ rfl hsa hL (by omega) rfl rfl ?_
  refine g_callV (av := [.ref o, .int (xs (i + 1))]) (rc' := rc) (rs' := rs) kL_288 (R h5 J.2) dL_law_1800 rfl rfl J.2.1 rfl (Nat.le_of_ble_eq_true rfl) (Nat.le_of_ble_eq_true rfl) (Nat.le_of_ble_eq_true rfl) (by omega) (by omega) rfl (fun _ _ z => z.elim) (fun v9 h7 hz => ?_)
  obtain ⟨V1, F1, ⟨rfl, p⟩, hM, hk⟩ := hz
  obtain ⟨gm, -, fr⟩ := J.md H hM hk p
  have ho7 := ho.tr fr (fun _ => nM_lo)
  have hod7 := hod.tr fr (fun _ => nM_do)
  have I7 : LI Γ de h7 m o ad out outD V1 F1 B' := ⟨gm, hM, ho7.any, hod7.any⟩
  simp only [Option.toList_some, List.cons_append, List.nil_append]
  exact lt_i H ⟨dL_law_1803, dL_law_1805, dL_law_1806, dL_law_1809, dL_law_1811, dL_law_1814, dL_law_1815, dL_law_1816, dL_law_1818, dL_law_1821, dL_law_1822, dL_law_1823, dL_law_1824, dL_law_1826, dL_law_1827, dL_law_1828, dL_law_1831, dL_law_1832, dL_law_1833, True.intro⟩ (by decide) I7 ho7 (h13 V1 F1 p) (fun _ => rfl) (fun h' I' => K h' V1 F1 p I')
set_option maxRecDepth 100000 in
theorem lq_31 (H : gDi Γ) (hnc : gPnc Γ) (hsa : gPa Γ .int sc L (fun j => .int (xs j))) (hL : L ≤ 2048) (hi : i + 3 < L) (I : LI Γ de h m o ad out outD V F B) {W B' : Nat} {τ : Int32} {x : Int32} {P : gHp → Prop} {Ph : (Nat → Int32) → (Nat → Nat → Int32) → Prop} {fs : List Value} (hm : h m = some (gJ 12 fs)) (C : fC Γ M_X9_routeForByTree [.ref m, .int (xs (i + 1))] h W τ (.int x) (nmOf xIA xNS xNS) P) (hP : ∀ h1, P h1 → (∀ V1 F1, Ph V1 F1 → gMO Γ de h1 m V1 F1 B') ∧ gFr (kC Γ) h h1) (R : mE Γ o ad M_X10_routeForByTree [.int (xs (i + 1))] V F 4 (fun v V1 F1 => v = some (.int x) ∧ Ph V1 F1)) (ht9 : τ = 0 ∨ τ = nI 1 ∨ τ = nI 2) (h13 : ∀ V1 F1, Ph V1 F1 → V1 13 = τ) (K : ∀ h' V1 F1, Ph V1 F1 → LI Γ de h' m o ad out outD V1 F1 B' → G Γ M_L_law 32 mc ms Z ZX rc rs 3368 (L0 sc m o out outD i) [] h') : G Γ M_L_law 32 mc ms Z ZX (rc + 1000) (rs + W) 1836 (L0 sc m o out outD i) [] h := by
  refine g_aload_n dL_law_1836 rfl ?_
  refine la_arg (j := 1) ⟨dL_law_1837, dL_law_1838, dL_law_1840, dL_law_1841, dL_law_1842, True.intro⟩ rfl hsa hL (by omega) rfl rfl ?_
  refine g_aload_n dL_law_1843 rfl ?_
  obtain ⟨f, hf⟩ := I.lo
  refine g_callSH (av := [.ref m, .int (xs (i + 1)), .ref out]) (rc' := rc) (rs' := rs) kL_289 (lw_routeForByTree hnc _ hm C ht9 (fun h1 p => (hP h1 p).2 _ _ hf nC_lo)) dL_law_1844 rfl rfl (Nat.le_of_ble_eq_true rfl) (Nat.le_of_ble_eq_true rfl) (Nat.le_of_ble_eq_true rfl) (by omega) (by omega) rfl (fun _ _ z => z.elim) (fun v9 h5 hz => ?_)
  obtain ⟨rfl, J, ho, hod⟩ := I.wr H hf hP hz
  simp only [Option.toList_some, List.cons_append, List.nil_append]
  refine g_istore dL_law_1847 (Nat.le_of_ble_eq_true rfl) rfl ?_
  refine g_aload_n dL_law_1849 rfl ?_
  refine la_arg (j := 1) ⟨dL_law_1850, dL_law_1851, dL_law_1853, dL_law_1854, dL_law_1855, True.intro⟩ rfl hsa hL (by omega) rfl rfl ?_
  refine g_callV (av := [.ref o, .int (xs (i + 1))]) (rc' := rc) (rs' := rs) kL_291 (R h5 J.2) dL_law_1856 rfl rfl J.2.1 rfl (Nat.le_of_ble_eq_true rfl) (Nat.le_of_ble_eq_true rfl) (Nat.le_of_ble_eq_true rfl) (by omega) (by omega) rfl (fun _ _ z => z.elim) (fun v9 h7 hz => ?_)
  obtain ⟨V1, F1, ⟨rfl, p⟩, hM, hk⟩ := hz
  obtain ⟨gm, -, fr⟩ := J.md H hM hk p
  have ho7 := ho.tr fr (fun _ => nM_lo)
  have hod7 := hod.tr fr (fun _ => nM_do)
  have I7 : LI Γ de h7 m o ad out outD V1 F1 B' := ⟨gm, hM, ho7.any, hod7.any⟩
  simp only [Option.toList_some, List.cons_append, List.nil_append]
  exact lt_i H ⟨dL_law_1859, dL_law_1861, dL_law_1862, dL_law_1865, dL_law_1867, dL_law_1870, dL_law_1871, dL_law_1872, dL_law_1874, dL_law_1877, dL_law_1878, dL_law_1879, dL_law_1880, dL_law_1882, dL_law_1883, dL_law_1884, dL_law_1887, dL_law_1888, dL_law_1889, True.intro⟩ (by decide) I7 ho7 (h13 V1 F1 p) (fun _ => rfl) (fun h' I' => K h' V1 F1 p I')
set_option maxRecDepth 100000 in
theorem lq_32 (H : gDi Γ) (hnc : gPnc Γ) (hsa : gPa Γ .int sc L (fun j => .int (xs j))) (hL : L ≤ 2048) (hi : i + 3 < L) (I : LI Γ de h m o ad out outD V F B) {W B' : Nat} {τ : Int32} {x : Int32} {P : gHp → Prop} {Ph : (Nat → Int32) → (Nat → Nat → Int32) → Prop} {fs : List Value} (hm : h m = some (gJ 12 fs)) (C : fC Γ M_X9_matchLength [.ref m, .int (xs (i + 1))] h W τ (.int x) (nmOf xIA xIA xIA) P) (hP : ∀ h1, P h1 → (∀ V1 F1, Ph V1 F1 → gMO Γ de h1 m V1 F1 B') ∧ gFr (kC Γ) h h1) (R : mE Γ o ad M_X10_matchLength [.int (xs (i + 1))] V F 3 (fun v V1 F1 => v = some (.int x) ∧ Ph V1 F1)) (ht9 : τ = 0 ∨ τ = nI 1) (h13 : ∀ V1 F1, Ph V1 F1 → V1 13 = τ) (K : ∀ h' V1 F1, Ph V1 F1 → LI Γ de h' m o ad out outD V1 F1 B' → G Γ M_L_law 32 mc ms Z ZX rc rs 3368 (L0 sc m o out outD i) [] h') : G Γ M_L_law 32 mc ms Z ZX (rc + 1000) (rs + W) 1892 (L0 sc m o out outD i) [] h := by
  refine g_aload_n dL_law_1892 rfl ?_
  refine la_arg (j := 1) ⟨dL_law_1893, dL_law_1894, dL_law_1896, dL_law_1897, dL_law_1898, True.intro⟩ rfl hsa hL (by omega) rfl rfl ?_
  refine g_aload_n dL_law_1899 rfl ?_
  obtain ⟨f, hf⟩ := I.lo
  refine g_callSH (av := [.ref m, .int (xs (i + 1)), .ref out]) (rc' := rc) (rs' := rs) kL_292 (lw_matchLength hnc _ hm C ht9 (fun h1 p => (hP h1 p).2 _ _ hf nC_lo)) dL_law_1900 rfl rfl (Nat.le_of_ble_eq_true rfl) (Nat.le_of_ble_eq_true rfl) (Nat.le_of_ble_eq_true rfl) (by omega) (by omega) rfl (fun _ _ z => z.elim) (fun v9 h5 hz => ?_)
  obtain ⟨rfl, J, ho, hod⟩ := I.wr H hf hP hz
  simp only [Option.toList_some, List.cons_append, List.nil_append]
  refine g_istore dL_law_1903 (Nat.le_of_ble_eq_true rfl) rfl ?_
  refine g_aload_n dL_law_1905 rfl ?_
  refine la_arg (j := 1) ⟨dL_law_1906, dL_law_1907, dL_law_1909, dL_law_1910, dL_law_1911, True.intro⟩ rfl hsa hL (by omega) rfl rfl ?_
  refine g_callV (av := [.ref o, .int (xs (i + 1))]) (rc' := rc) (rs' := rs) kL_294 (R h5 J.2) dL_law_1912 rfl rfl J.2.1 rfl (Nat.le_of_ble_eq_true rfl) (Nat.le_of_ble_eq_true rfl) (Nat.le_of_ble_eq_true rfl) (by omega) (by omega) rfl (fun _ _ z => z.elim) (fun v9 h7 hz => ?_)
  obtain ⟨V1, F1, ⟨rfl, p⟩, hM, hk⟩ := hz
  obtain ⟨gm, -, fr⟩ := J.md H hM hk p
  have ho7 := ho.tr fr (fun _ => nM_lo)
  have hod7 := hod.tr fr (fun _ => nM_do)
  have I7 : LI Γ de h7 m o ad out outD V1 F1 B' := ⟨gm, hM, ho7.any, hod7.any⟩
  simp only [Option.toList_some, List.cons_append, List.nil_append]
  exact lt_i H ⟨dL_law_1915, dL_law_1917, dL_law_1918, dL_law_1921, dL_law_1923, dL_law_1926, dL_law_1927, dL_law_1928, dL_law_1930, dL_law_1933, dL_law_1934, dL_law_1935, dL_law_1936, dL_law_1938, dL_law_1939, dL_law_1940, dL_law_1943, dL_law_1944, dL_law_1945, True.intro⟩ (by decide) I7 ho7 (h13 V1 F1 p) (fun _ => rfl) (fun h' I' => K h' V1 F1 p I')
set_option maxRecDepth 100000 in
theorem lq_33 (H : gDi Γ) (hnc : gPnc Γ) (hsa : gPa Γ .int sc L (fun j => .int (xs j))) (hL : L ≤ 2048) (hi : i + 3 < L) (I : LI Γ de h m o ad out outD V F B) {W B' : Nat} {τ : Int32} {x : Int32} {P : gHp → Prop} {Ph : (Nat → Int32) → (Nat → Nat → Int32) → Prop} {fs : List Value} (hm : h m = some (gJ 12 fs)) (C : fC Γ M_X9_codesOf [.ref m, .int (xs (i + 1))] h W τ (.int x) (nmOf xIO xIO xIO) P) (hP : ∀ h1, P h1 → (∀ V1 F1, Ph V1 F1 → gMO Γ de h1 m V1 F1 B') ∧ gFr (kC Γ) h h1) (R : mE Γ o ad M_X10_codesOf [.int (xs (i + 1))] V F 3 (fun v V1 F1 => v = some (.int x) ∧ Ph V1 F1)) (ht9 : τ = 0 ∨ τ = nI 1) (h13 : ∀ V1 F1, Ph V1 F1 → V1 13 = τ) (K : ∀ h' V1 F1, Ph V1 F1 → LI Γ de h' m o ad out outD V1 F1 B' → G Γ M_L_law 32 mc ms Z ZX rc rs 3368 (L0 sc m o out outD i) [] h') : G Γ M_L_law 32 mc ms Z ZX (rc + 1000) (rs + W) 1948 (L0 sc m o out outD i) [] h := by
  refine g_aload_n dL_law_1948 rfl ?_
  refine la_arg (j := 1) ⟨dL_law_1949, dL_law_1950, dL_law_1952, dL_law_1953, dL_law_1954, True.intro⟩ rfl hsa hL (by omega) rfl rfl ?_
  refine g_aload_n dL_law_1955 rfl ?_
  obtain ⟨f, hf⟩ := I.lo
  refine g_callSH (av := [.ref m, .int (xs (i + 1)), .ref out]) (rc' := rc) (rs' := rs) kL_295 (lw_codesOf hnc _ hm C ht9 (fun h1 p => (hP h1 p).2 _ _ hf nC_lo)) dL_law_1956 rfl rfl (Nat.le_of_ble_eq_true rfl) (Nat.le_of_ble_eq_true rfl) (Nat.le_of_ble_eq_true rfl) (by omega) (by omega) rfl (fun _ _ z => z.elim) (fun v9 h5 hz => ?_)
  obtain ⟨rfl, J, ho, hod⟩ := I.wr H hf hP hz
  simp only [Option.toList_some, List.cons_append, List.nil_append]
  refine g_istore dL_law_1959 (Nat.le_of_ble_eq_true rfl) rfl ?_
  refine g_aload_n dL_law_1961 rfl ?_
  refine la_arg (j := 1) ⟨dL_law_1962, dL_law_1963, dL_law_1965, dL_law_1966, dL_law_1967, True.intro⟩ rfl hsa hL (by omega) rfl rfl ?_
  refine g_callV (av := [.ref o, .int (xs (i + 1))]) (rc' := rc) (rs' := rs) kL_297 (R h5 J.2) dL_law_1968 rfl rfl J.2.1 rfl (Nat.le_of_ble_eq_true rfl) (Nat.le_of_ble_eq_true rfl) (Nat.le_of_ble_eq_true rfl) (by omega) (by omega) rfl (fun _ _ z => z.elim) (fun v9 h7 hz => ?_)
  obtain ⟨V1, F1, ⟨rfl, p⟩, hM, hk⟩ := hz
  obtain ⟨gm, -, fr⟩ := J.md H hM hk p
  have ho7 := ho.tr fr (fun _ => nM_lo)
  have hod7 := hod.tr fr (fun _ => nM_do)
  have I7 : LI Γ de h7 m o ad out outD V1 F1 B' := ⟨gm, hM, ho7.any, hod7.any⟩
  simp only [Option.toList_some, List.cons_append, List.nil_append]
  exact lt_i H ⟨dL_law_1971, dL_law_1973, dL_law_1974, dL_law_1977, dL_law_1979, dL_law_1982, dL_law_1983, dL_law_1984, dL_law_1986, dL_law_1989, dL_law_1990, dL_law_1991, dL_law_1992, dL_law_1994, dL_law_1995, dL_law_1996, dL_law_1999, dL_law_2000, dL_law_2001, True.intro⟩ (by decide) I7 ho7 (h13 V1 F1 p) (fun _ => rfl) (fun h' I' => K h' V1 F1 p I')
set_option maxRecDepth 100000 in
theorem lq_34 (H : gDi Γ) (hnc : gPnc Γ) (hsa : gPa Γ .int sc L (fun j => .int (xs j))) (hL : L ≤ 2048) (hi : i + 3 < L) (I : LI Γ de h m o ad out outD V F B) {W B' : Nat} {τ : Int32} {x : Int32} {P : gHp → Prop} {Ph : (Nat → Int32) → (Nat → Nat → Int32) → Prop} {fs : List Value} (hm : h m = some (gJ 12 fs)) (C : fC Γ M_X9_bagCount [.ref m, .int (xs (i + 1))] h W τ (.int x) (nmOf xIO xIO xIO) P) (hP : ∀ h1, P h1 → (∀ V1 F1, Ph V1 F1 → gMO Γ de h1 m V1 F1 B') ∧ gFr (kC Γ) h h1) (R : mE Γ o ad M_X10_bagCount [.int (xs (i + 1))] V F 3 (fun v V1 F1 => v = some (.int x) ∧ Ph V1 F1)) (ht9 : τ = 0 ∨ τ = nI 1) (h13 : ∀ V1 F1, Ph V1 F1 → V1 13 = τ) (K : ∀ h' V1 F1, Ph V1 F1 → LI Γ de h' m o ad out outD V1 F1 B' → G Γ M_L_law 32 mc ms Z ZX rc rs 3368 (L0 sc m o out outD i) [] h') : G Γ M_L_law 32 mc ms Z ZX (rc + 1000) (rs + W) 2004 (L0 sc m o out outD i) [] h := by
  refine g_aload_n dL_law_2004 rfl ?_
  refine la_arg (j := 1) ⟨dL_law_2005, dL_law_2006, dL_law_2008, dL_law_2009, dL_law_2010, True.intro⟩ rfl hsa hL (by omega) rfl rfl ?_
  refine g_aload_n dL_law_2011 rfl ?_
  obtain ⟨f, hf⟩ := I.lo
  refine g_callSH (av := [.ref m, .int (xs (i + 1)), .ref out]) (rc' := rc) (rs' := rs) kL_298 (lw_bagCount hnc _ hm C ht9 (fun h1 p => (hP h1 p).2 _ _ hf nC_lo)) dL_law_2012 rfl rfl (Nat.le_of_ble_eq_true rfl) (Nat.le_of_ble_eq_true rfl) (Nat.le_of_ble_eq_true rfl) (by omega) (by omega) rfl (fun _ _ z => z.elim) (fun v9 h5 hz => ?_)
  obtain ⟨rfl, J, ho, hod⟩ := I.wr H hf hP hz
  simp only [Option.toList_some, List.cons_append, List.nil_append]
  refine g_istore dL_law_2015 (Nat.le_of_ble_eq_true rfl) rfl ?_
  refine g_aload_n dL_law_2017 rfl ?_
  refine la_arg (j := 1) ⟨dL_law_2018, dL_law_2019, dL_law_2021, dL_law_2022, dL_law_2023, True.intro⟩ rfl hsa hL (by omega) rfl rfl ?_
  refine g_callV (av := [.ref o, .int (xs (i + 1))]) (rc' := rc) (rs' := rs) kL_300 (R h5 J.2) dL_law_2024 rfl rfl J.2.1 rfl (Nat.le_of_ble_eq_true rfl) (Nat.le_of_ble_eq_true rfl) (Nat.le_of_ble_eq_true rfl) (by omega) (by omega) rfl (fun _ _ z => z.elim) (fun v9 h7 hz => ?_)
  obtain ⟨V1, F1, ⟨rfl, p⟩, hM, hk⟩ := hz
  obtain ⟨gm, -, fr⟩ := J.md H hM hk p
  have ho7 := ho.tr fr (fun _ => nM_lo)
  have hod7 := hod.tr fr (fun _ => nM_do)
  have I7 : LI Γ de h7 m o ad out outD V1 F1 B' := ⟨gm, hM, ho7.any, hod7.any⟩
  simp only [Option.toList_some, List.cons_append, List.nil_append]
  exact lt_i H ⟨dL_law_2027, dL_law_2029, dL_law_2030, dL_law_2033, dL_law_2035, dL_law_2038, dL_law_2039, dL_law_2040, dL_law_2042, dL_law_2045, dL_law_2046, dL_law_2047, dL_law_2048, dL_law_2050, dL_law_2051, dL_law_2052, dL_law_2055, dL_law_2056, dL_law_2057, True.intro⟩ (by decide) I7 ho7 (h13 V1 F1 p) (fun _ => rfl) (fun h' I' => K h' V1 F1 p I')
set_option maxRecDepth 100000 in
theorem lq_35 (H : gDi Γ) (hnc : gPnc Γ) (hsa : gPa Γ .int sc L (fun j => .int (xs j))) (hL : L ≤ 2048) (hi : i + 3 < L) (I : LI Γ de h m o ad out outD V F B) {W B' : Nat} {τ : Int32} {x : Int32} {P : gHp → Prop} {Ph : (Nat → Int32) → (Nat → Nat → Int32) → Prop} {fs : List Value} (hm : h m = some (gJ 12 fs)) (C : fC Γ M_X9_bagWeight [.ref m, .int (xs (i + 1)), .int (xs (i + 2))] h W τ (.int x) (nmOf xIO xNS xNS) P) (hP : ∀ h1, P h1 → (∀ V1 F1, Ph V1 F1 → gMO Γ de h1 m V1 F1 B') ∧ gFr (kC Γ) h h1) (R : mE Γ o ad M_X10_bagWeight [.int (xs (i + 1)), .int (xs (i + 2))] V F 4 (fun v V1 F1 => v = some (.int x) ∧ Ph V1 F1)) (ht9 : τ = 0 ∨ τ = nI 1 ∨ τ = nI 2) (h13 : ∀ V1 F1, Ph V1 F1 → V1 13 = τ) (K : ∀ h' V1 F1, Ph V1 F1 → LI Γ de h' m o ad out outD V1 F1 B' → G Γ M_L_law 32 mc ms Z ZX rc rs 3368 (L0 sc m o out outD i) [] h') : G Γ M_L_law 32 mc ms Z ZX (rc + 1000) (rs + W) 2060 (L0 sc m o out outD i) [] h := by
  refine g_aload_n dL_law_2060 rfl ?_
  refine la_arg (j := 1) ⟨dL_law_2061, dL_law_2062, dL_law_2064, dL_law_2065, dL_law_2066, True.intro⟩ rfl hsa hL (by omega) rfl rfl ?_
  refine la_arg (j := 2) ⟨dL_law_2067, dL_law_2068, dL_law_2070, dL_law_2071, dL_law_2072, True.intro⟩ rfl hsa hL (by omega) rfl rfl ?_
  refine g_aload_n dL_law_2073 rfl ?_
  obtain ⟨f, hf⟩ := I.lo
  refine g_callSH (av := [.ref m, .int (xs (i + 1)), .int (xs (i + 2)), .ref out]) (rc' := rc) (rs' := rs) kL_301 (lw_bagWeight hnc _ _ hm C ht9 (fun h1 p => (hP h1 p).2 _ _ hf nC_lo)) dL_law_2074 rfl rfl (Nat.le_of_ble_eq_true rfl) (Nat.le_of_ble_eq_true rfl) (Nat.le_of_ble_eq_true rfl) (by omega) (by omega) rfl (fun _ _ z => z.elim) (fun v9 h5 hz => ?_)
  obtain ⟨rfl, J, ho, hod⟩ := I.wr H hf hP hz
  simp only [Option.toList_some, List.cons_append, List.nil_append]
  refine g_istore dL_law_2077 (Nat.le_of_ble_eq_true rfl) rfl ?_
  refine g_aload_n dL_law_2079 rfl ?_
  refine la_arg (j := 1) ⟨dL_law_2080, dL_law_2081, dL_law_2083, dL_law_2084, dL_law_2085, True.intro⟩ rfl hsa hL (by omega) rfl rfl ?_
  refine la_arg (j := 2) ⟨dL_law_2086, dL_law_2087, dL_law_2089, dL_law_2090, dL_law_2091, True.intro⟩ rfl hsa hL (by omega) rfl rfl ?_
  refine g_callV (av := [.ref o, .int (xs (i + 1)), .int (xs (i + 2))]) (rc' := rc) (rs' := rs) kL_303 (R h5 J.2) dL_law_2092 rfl rfl J.2.1 rfl (Nat.le_of_ble_eq_true rfl) (Nat.le_of_ble_eq_true rfl) (Nat.le_of_ble_eq_true rfl) (by omega) (by omega) rfl (fun _ _ z => z.elim) (fun v9 h7 hz => ?_)
  obtain ⟨V1, F1, ⟨rfl, p⟩, hM, hk⟩ := hz
  obtain ⟨gm, -, fr⟩ := J.md H hM hk p
  have ho7 := ho.tr fr (fun _ => nM_lo)
  have hod7 := hod.tr fr (fun _ => nM_do)
  have I7 : LI Γ de h7 m o ad out outD V1 F1 B' := ⟨gm, hM, ho7.any, hod7.any⟩
  simp only [Option.toList_some, List.cons_append, List.nil_append]
  exact lt_i H ⟨dL_law_2095, dL_law_2097, dL_law_2098, dL_law_2101, dL_law_2103, dL_law_2106, dL_law_2107, dL_law_2108, dL_law_2110, dL_law_2113, dL_law_2114, dL_law_2115, dL_law_2116, dL_law_2118, dL_law_2119, dL_law_2120, dL_law_2123, dL_law_2124, dL_law_2125, True.intro⟩ (by decide) I7 ho7 (h13 V1 F1 p) (fun _ => rfl) (fun h' I' => K h' V1 F1 p I')
set_option maxRecDepth 100000 in
theorem lq_36 (H : gDi Γ) (hnc : gPnc Γ) (hsa : gPa Γ .int sc L (fun j => .int (xs j))) (hL : L ≤ 2048) (hi : i + 3 < L) (I : LI Γ de h m o ad out outD V F B) {W B' : Nat} {τ : Int32} {x : Int32} {P : gHp → Prop} {Ph : (Nat → Int32) → (Nat → Nat → Int32) → Prop} {fs : List Value} (hm : h m = some (gJ 12 fs)) (C : fC Γ M_X9_lettersInBag [.ref m, .int (xs (i + 1)), .int (xs (i + 2))] h W τ (.int x) (nmOf xIO xNS xNS) P) (hP : ∀ h1, P h1 → (∀ V1 F1, Ph V1 F1 → gMO Γ de h1 m V1 F1 B') ∧ gFr (kC Γ) h h1) (R : mE Γ o ad M_X10_lettersInBag [.int (xs (i + 1)), .int (xs (i + 2))] V F 4 (fun v V1 F1 => v = some (.int x) ∧ Ph V1 F1)) (ht9 : τ = 0 ∨ τ = nI 1 ∨ τ = nI 2) (h13 : ∀ V1 F1, Ph V1 F1 → V1 13 = τ) (K : ∀ h' V1 F1, Ph V1 F1 → LI Γ de h' m o ad out outD V1 F1 B' → G Γ M_L_law 32 mc ms Z ZX rc rs 3368 (L0 sc m o out outD i) [] h') : G Γ M_L_law 32 mc ms Z ZX (rc + 1000) (rs + W) 2128 (L0 sc m o out outD i) [] h := by
  refine g_aload_n dL_law_2128 rfl ?_
  refine la_arg (j := 1) ⟨dL_law_2129, dL_law_2130, dL_law_2132, dL_law_2133, dL_law_2134, True.intro⟩ rfl hsa hL (by omega) rfl rfl ?_
  refine la_arg (j := 2) ⟨dL_law_2135, dL_law_2136, dL_law_2138, dL_law_2139, dL_law_2140, True.intro⟩ rfl hsa hL (by omega) rfl rfl ?_
  refine g_aload_n dL_law_2141 rfl ?_
  obtain ⟨f, hf⟩ := I.lo
  refine g_callSH (av := [.ref m, .int (xs (i + 1)), .int (xs (i + 2)), .ref out]) (rc' := rc) (rs' := rs) kL_304 (lw_lettersInBag hnc _ _ hm C ht9 (fun h1 p => (hP h1 p).2 _ _ hf nC_lo)) dL_law_2142 rfl rfl (Nat.le_of_ble_eq_true rfl) (Nat.le_of_ble_eq_true rfl) (Nat.le_of_ble_eq_true rfl) (by omega) (by omega) rfl (fun _ _ z => z.elim) (fun v9 h5 hz => ?_)
  obtain ⟨rfl, J, ho, hod⟩ := I.wr H hf hP hz
  simp only [Option.toList_some, List.cons_append, List.nil_append]
  refine g_istore dL_law_2145 (Nat.le_of_ble_eq_true rfl) rfl ?_
  refine g_aload_n dL_law_2147 rfl ?_
  refine la_arg (j := 1) ⟨dL_law_2148, dL_law_2149, dL_law_2151, dL_law_2152, dL_law_2153, True.intro⟩ rfl hsa hL (by omega) rfl rfl ?_
  refine la_arg (j := 2) ⟨dL_law_2154, dL_law_2155, dL_law_2157, dL_law_2158, dL_law_2159, True.intro⟩ rfl hsa hL (by omega) rfl rfl ?_
  refine g_callV (av := [.ref o, .int (xs (i + 1)), .int (xs (i + 2))]) (rc' := rc) (rs' := rs) kL_306 (R h5 J.2) dL_law_2160 rfl rfl J.2.1 rfl (Nat.le_of_ble_eq_true rfl) (Nat.le_of_ble_eq_true rfl) (Nat.le_of_ble_eq_true rfl) (by omega) (by omega) rfl (fun _ _ z => z.elim) (fun v9 h7 hz => ?_)
  obtain ⟨V1, F1, ⟨rfl, p⟩, hM, hk⟩ := hz
  obtain ⟨gm, -, fr⟩ := J.md H hM hk p
  have ho7 := ho.tr fr (fun _ => nM_lo)
  have hod7 := hod.tr fr (fun _ => nM_do)
  have I7 : LI Γ de h7 m o ad out outD V1 F1 B' := ⟨gm, hM, ho7.any, hod7.any⟩
  simp only [Option.toList_some, List.cons_append, List.nil_append]
  exact lt_i H ⟨dL_law_2163, dL_law_2165, dL_law_2166, dL_law_2169, dL_law_2171, dL_law_2174, dL_law_2175, dL_law_2176, dL_law_2178, dL_law_2181, dL_law_2182, dL_law_2183, dL_law_2184, dL_law_2186, dL_law_2187, dL_law_2188, dL_law_2191, dL_law_2192, dL_law_2193, True.intro⟩ (by decide) I7 ho7 (h13 V1 F1 p) (fun _ => rfl) (fun h' I' => K h' V1 F1 p I')
set_option maxRecDepth 100000 in
theorem lq_37 (H : gDi Γ) (hnc : gPnc Γ) (hsa : gPa Γ .int sc L (fun j => .int (xs j))) (hL : L ≤ 2048) (hi : i + 3 < L) (I : LI Γ de h m o ad out outD V F B) {W B' : Nat} {τ : Int32} {x : Int32} {P : gHp → Prop} {Ph : (Nat → Int32) → (Nat → Nat → Int32) → Prop} {fs : List Value} (hm : h m = some (gJ 12 fs)) (C : fC Γ M_X9_routeWeight [.ref m, .int (xs (i + 1))] h W τ (.int x) (nmOf xIO xIO xIO) P) (hP : ∀ h1, P h1 → (∀ V1 F1, Ph V1 F1 → gMO Γ de h1 m V1 F1 B') ∧ gFr (kC Γ) h h1) (R : mE Γ o ad M_X10_routeWeight [.int (xs (i + 1))] V F 3 (fun v V1 F1 => v = some (.int x) ∧ Ph V1 F1)) (ht9 : τ = 0 ∨ τ = nI 1) (h13 : ∀ V1 F1, Ph V1 F1 → V1 13 = τ) (K : ∀ h' V1 F1, Ph V1 F1 → LI Γ de h' m o ad out outD V1 F1 B' → G Γ M_L_law 32 mc ms Z ZX rc rs 3368 (L0 sc m o out outD i) [] h') : G Γ M_L_law 32 mc ms Z ZX (rc + 1000) (rs + W) 2196 (L0 sc m o out outD i) [] h := by
  refine g_aload_n dL_law_2196 rfl ?_
  refine la_arg (j := 1) ⟨dL_law_2197, dL_law_2198, dL_law_2200, dL_law_2201, dL_law_2202, True.intro⟩ rfl hsa hL (by omega) rfl rfl ?_
  refine g_aload_n dL_law_2203 rfl ?_
  obtain ⟨f, hf⟩ := I.lo
  refine g_callSH (av := [.ref m, .int (xs (i + 1)), .ref out]) (rc' := rc) (rs' := rs) kL_307 (lw_routeWeight hnc _ hm C ht9 (fun h1 p => (hP h1 p).2 _ _ hf nC_lo)) dL_law_2204 rfl rfl (Nat.le_of_ble_eq_true rfl) (Nat.le_of_ble_eq_true rfl) (Nat.le_of_ble_eq_true rfl) (by omega) (by omega) rfl (fun _ _ z => z.elim) (fun v9 h5 hz => ?_)
  obtain ⟨rfl, J, ho, hod⟩ := I.wr H hf hP hz
  simp only [Option.toList_some, List.cons_append, List.nil_append]
  refine g_istore dL_law_2207 (Nat.le_of_ble_eq_true rfl) rfl ?_
  refine g_aload_n dL_law_2209 rfl ?_
  refine la_arg (j := 1) ⟨dL_law_2210, dL_law_2211, dL_law_2213, dL_law_2214, dL_law_2215, True.intro⟩ rfl hsa hL (by omega) rfl rfl ?_
  refine g_callV (av := [.ref o, .int (xs (i + 1))]) (rc' := rc) (rs' := rs) kL_309 (R h5 J.2) dL_law_2216 rfl rfl J.2.1 rfl (Nat.le_of_ble_eq_true rfl) (Nat.le_of_ble_eq_true rfl) (Nat.le_of_ble_eq_true rfl) (by omega) (by omega) rfl (fun _ _ z => z.elim) (fun v9 h7 hz => ?_)
  obtain ⟨V1, F1, ⟨rfl, p⟩, hM, hk⟩ := hz
  obtain ⟨gm, -, fr⟩ := J.md H hM hk p
  have ho7 := ho.tr fr (fun _ => nM_lo)
  have hod7 := hod.tr fr (fun _ => nM_do)
  have I7 : LI Γ de h7 m o ad out outD V1 F1 B' := ⟨gm, hM, ho7.any, hod7.any⟩
  simp only [Option.toList_some, List.cons_append, List.nil_append]
  exact lt_i H ⟨dL_law_2219, dL_law_2221, dL_law_2222, dL_law_2225, dL_law_2227, dL_law_2230, dL_law_2231, dL_law_2232, dL_law_2234, dL_law_2237, dL_law_2238, dL_law_2239, dL_law_2240, dL_law_2242, dL_law_2243, dL_law_2244, dL_law_2247, dL_law_2248, dL_law_2249, True.intro⟩ (by decide) I7 ho7 (h13 V1 F1 p) (fun _ => rfl) (fun h' I' => K h' V1 F1 p I')
set_option maxRecDepth 100000 in
theorem lq_38 (H : gDi Γ) (hnc : gPnc Γ) (hsa : gPa Γ .int sc L (fun j => .int (xs j))) (hL : L ≤ 2048) (hi : i + 3 < L) (I : LI Γ de h m o ad out outD V F B) {W B' : Nat} {τ : Int32} {x : Int32} {P : gHp → Prop} {Ph : (Nat → Int32) → (Nat → Nat → Int32) → Prop} {fs : List Value} (hm : h m = some (gJ 12 fs)) (C : fC Γ M_X9_routeWeightByBags [.ref m, .int (xs (i + 1))] h W τ (.int x) (nmOf xIO xIO xIO) P) (hP : ∀ h1, P h1 → (∀ V1 F1, Ph V1 F1 → gMO Γ de h1 m V1 F1 B') ∧ gFr (kC Γ) h h1) (R : mE Γ o ad M_X10_routeWeightByBags [.int (xs (i + 1))] V F 3 (fun v V1 F1 => v = some (.int x) ∧ Ph V1 F1)) (ht9 : τ = 0 ∨ τ = nI 1) (h13 : ∀ V1 F1, Ph V1 F1 → V1 13 = τ) (K : ∀ h' V1 F1, Ph V1 F1 → LI Γ de h' m o ad out outD V1 F1 B' → G Γ M_L_law 32 mc ms Z ZX rc rs 3368 (L0 sc m o out outD i) [] h') : G Γ M_L_law 32 mc ms Z ZX (rc + 1000) (rs + W) 2252 (L0 sc m o out outD i) [] h := by
  refine g_aload_n dL_law_2252 rfl ?_
  refine la_arg (j := 1) ⟨dL_law_2253, dL_law_2254, dL_law_2256, dL_law_2257, dL_law_2258, True.intro⟩ rfl hsa hL (by omega) rfl rfl ?_
  refine g_aload_n dL_law_2259 rfl ?_
  obtain ⟨f, hf⟩ := I.lo
  refine g_callSH (av := [.ref m, .int (xs (i + 1)), .ref out]) (rc' := rc) (rs' := rs) kL_310 (lw_routeWeightByBags hnc _ hm C ht9 (fun h1 p => (hP h1 p).2 _ _ hf nC_lo)) dL_law_2260 rfl rfl (Nat.le_of_ble_eq_true rfl) (Nat.le_of_ble_eq_true rfl) (Nat.le_of_ble_eq_true rfl) (by omega) (by omega) rfl (fun _ _ z => z.elim) (fun v9 h5 hz => ?_)
  obtain ⟨rfl, J, ho, hod⟩ := I.wr H hf hP hz
  simp only [Option.toList_some, List.cons_append, List.nil_append]
  refine g_istore dL_law_2263 (Nat.le_of_ble_eq_true rfl) rfl ?_
  refine g_aload_n dL_law_2265 rfl ?_
  refine la_arg (j := 1) ⟨dL_law_2266, dL_law_2267, dL_law_2269, dL_law_2270, dL_law_2271, True.intro⟩ rfl hsa hL (by omega) rfl rfl ?_
  refine g_callV (av := [.ref o, .int (xs (i + 1))]) (rc' := rc) (rs' := rs) kL_312 (R h5 J.2) dL_law_2272 rfl rfl J.2.1 rfl (Nat.le_of_ble_eq_true rfl) (Nat.le_of_ble_eq_true rfl) (Nat.le_of_ble_eq_true rfl) (by omega) (by omega) rfl (fun _ _ z => z.elim) (fun v9 h7 hz => ?_)
  obtain ⟨V1, F1, ⟨rfl, p⟩, hM, hk⟩ := hz
  obtain ⟨gm, -, fr⟩ := J.md H hM hk p
  have ho7 := ho.tr fr (fun _ => nM_lo)
  have hod7 := hod.tr fr (fun _ => nM_do)
  have I7 : LI Γ de h7 m o ad out outD V1 F1 B' := ⟨gm, hM, ho7.any, hod7.any⟩
  simp only [Option.toList_some, List.cons_append, List.nil_append]
  exact lt_i H ⟨dL_law_2275, dL_law_2277, dL_law_2278, dL_law_2281, dL_law_2283, dL_law_2286, dL_law_2287, dL_law_2288, dL_law_2290, dL_law_2293, dL_law_2294, dL_law_2295, dL_law_2296, dL_law_2298, dL_law_2299, dL_law_2300, dL_law_2303, dL_law_2304, dL_law_2305, True.intro⟩ (by decide) I7 ho7 (h13 V1 F1 p) (fun _ => rfl) (fun h' I' => K h' V1 F1 p I')
set_option maxRecDepth 100000 in
theorem lq_39 (H : gDi Γ) (hnc : gPnc Γ) (hsa : gPa Γ .int sc L (fun j => .int (xs j))) (hL : L ≤ 2048) (hi : i + 3 < L) (I : LI Γ de h m o ad out outD V F B) {W B' : Nat} {τ : Int32} {x : Int32} {P : gHp → Prop} {Ph : (Nat → Int32) → (Nat → Nat → Int32) → Prop} {fs : List Value} (hm : h m = some (gJ 12 fs)) (C : fC Γ M_X9_cutoff [.ref m, .int (xs (i + 1))] h W τ (.int x) (nmOf xIO xIO xIO) P) (hP : ∀ h1, P h1 → (∀ V1 F1, Ph V1 F1 → gMO Γ de h1 m V1 F1 B') ∧ gFr (kC Γ) h h1) (R : mE Γ o ad M_X10_cutoff [.int (xs (i + 1))] V F 3 (fun v V1 F1 => v = some (.int x) ∧ Ph V1 F1)) (ht9 : τ = 0 ∨ τ = nI 1) (h13 : ∀ V1 F1, Ph V1 F1 → V1 13 = τ) (K : ∀ h' V1 F1, Ph V1 F1 → LI Γ de h' m o ad out outD V1 F1 B' → G Γ M_L_law 32 mc ms Z ZX rc rs 3368 (L0 sc m o out outD i) [] h') : G Γ M_L_law 32 mc ms Z ZX (rc + 1000) (rs + W) 2308 (L0 sc m o out outD i) [] h := by
  refine g_aload_n dL_law_2308 rfl ?_
  refine la_arg (j := 1) ⟨dL_law_2309, dL_law_2310, dL_law_2312, dL_law_2313, dL_law_2314, True.intro⟩ rfl hsa hL (by omega) rfl rfl ?_
  refine g_aload_n dL_law_2315 rfl ?_
  obtain ⟨f, hf⟩ := I.lo
  refine g_callSH (av := [.ref m, .int (xs (i + 1)), .ref out]) (rc' := rc) (rs' := rs) kL_313 (lw_cutoff hnc _ hm C ht9 (fun h1 p => (hP h1 p).2 _ _ hf nC_lo)) dL_law_2316 rfl rfl (Nat.le_of_ble_eq_true rfl) (Nat.le_of_ble_eq_true rfl) (Nat.le_of_ble_eq_true rfl) (by omega) (by omega) rfl (fun _ _ z => z.elim) (fun v9 h5 hz => ?_)
  obtain ⟨rfl, J, ho, hod⟩ := I.wr H hf hP hz
  simp only [Option.toList_some, List.cons_append, List.nil_append]
  refine g_istore dL_law_2319 (Nat.le_of_ble_eq_true rfl) rfl ?_
  refine g_aload_n dL_law_2321 rfl ?_
  refine la_arg (j := 1) ⟨dL_law_2322, dL_law_2323, dL_law_2325, dL_law_2326, dL_law_2327, True.intro⟩ rfl hsa hL (by omega) rfl rfl ?_
  refine g_callV (av := [.ref o, .int (xs (i + 1))]) (rc' := rc) (rs' := rs) kL_315 (R h5 J.2) dL_law_2328 rfl rfl J.2.1 rfl (Nat.le_of_ble_eq_true rfl) (Nat.le_of_ble_eq_true rfl) (Nat.le_of_ble_eq_true rfl) (by omega) (by omega) rfl (fun _ _ z => z.elim) (fun v9 h7 hz => ?_)
  obtain ⟨V1, F1, ⟨rfl, p⟩, hM, hk⟩ := hz
  obtain ⟨gm, -, fr⟩ := J.md H hM hk p
  have ho7 := ho.tr fr (fun _ => nM_lo)
  have hod7 := hod.tr fr (fun _ => nM_do)
  have I7 : LI Γ de h7 m o ad out outD V1 F1 B' := ⟨gm, hM, ho7.any, hod7.any⟩
  simp only [Option.toList_some, List.cons_append, List.nil_append]
  exact lt_i H ⟨dL_law_2331, dL_law_2333, dL_law_2334, dL_law_2337, dL_law_2339, dL_law_2342, dL_law_2343, dL_law_2344, dL_law_2346, dL_law_2349, dL_law_2350, dL_law_2351, dL_law_2352, dL_law_2354, dL_law_2355, dL_law_2356, dL_law_2359, dL_law_2360, dL_law_2361, True.intro⟩ (by decide) I7 ho7 (h13 V1 F1 p) (fun _ => rfl) (fun h' I' => K h' V1 F1 p I')
set_option maxRecDepth 100000 in
theorem lq_40 (H : gDi Γ) (hnc : gPnc Γ) (hsa : gPa Γ .int sc L (fun j => .int (xs j))) (hL : L ≤ 2048) (hi : i + 3 < L) (I : LI Γ de h m o ad out outD V F B) {W B' : Nat} {τ : Int32} {x : Int32} {P : gHp → Prop} {Ph : (Nat → Int32) → (Nat → Nat → Int32) → Prop} {fs : List Value} (hm : h m = some (gJ 12 fs)) (C : fC Γ M_X9_departure [.ref m, .int (xs (i + 1))] h W τ (.int x) (nmOf xIO xIO xIO) P) (hP : ∀ h1, P h1 → (∀ V1 F1, Ph V1 F1 → gMO Γ de h1 m V1 F1 B') ∧ gFr (kC Γ) h h1) (R : mE Γ o ad M_X10_departure [.int (xs (i + 1))] V F 3 (fun v V1 F1 => v = some (.int x) ∧ Ph V1 F1)) (ht9 : τ = 0 ∨ τ = nI 1) (h13 : ∀ V1 F1, Ph V1 F1 → V1 13 = τ) (K : ∀ h' V1 F1, Ph V1 F1 → LI Γ de h' m o ad out outD V1 F1 B' → G Γ M_L_law 32 mc ms Z ZX rc rs 3368 (L0 sc m o out outD i) [] h') : G Γ M_L_law 32 mc ms Z ZX (rc + 1000) (rs + W) 2364 (L0 sc m o out outD i) [] h := by
  refine g_aload_n dL_law_2364 rfl ?_
  refine la_arg (j := 1) ⟨dL_law_2365, dL_law_2366, dL_law_2368, dL_law_2369, dL_law_2370, True.intro⟩ rfl hsa hL (by omega) rfl rfl ?_
  refine g_aload_n dL_law_2371 rfl ?_
  obtain ⟨f, hf⟩ := I.lo
  refine g_callSH (av := [.ref m, .int (xs (i + 1)), .ref out]) (rc' := rc) (rs' := rs) kL_316 (lw_departure hnc _ hm C ht9 (fun h1 p => (hP h1 p).2 _ _ hf nC_lo)) dL_law_2372 rfl rfl (Nat.le_of_ble_eq_true rfl) (Nat.le_of_ble_eq_true rfl) (Nat.le_of_ble_eq_true rfl) (by omega) (by omega) rfl (fun _ _ z => z.elim) (fun v9 h5 hz => ?_)
  obtain ⟨rfl, J, ho, hod⟩ := I.wr H hf hP hz
  simp only [Option.toList_some, List.cons_append, List.nil_append]
  refine g_istore dL_law_2375 (Nat.le_of_ble_eq_true rfl) rfl ?_
  refine g_aload_n dL_law_2377 rfl ?_
  refine la_arg (j := 1) ⟨dL_law_2378, dL_law_2379, dL_law_2381, dL_law_2382, dL_law_2383, True.intro⟩ rfl hsa hL (by omega) rfl rfl ?_
  refine g_callV (av := [.ref o, .int (xs (i + 1))]) (rc' := rc) (rs' := rs) kL_318 (R h5 J.2) dL_law_2384 rfl rfl J.2.1 rfl (Nat.le_of_ble_eq_true rfl) (Nat.le_of_ble_eq_true rfl) (Nat.le_of_ble_eq_true rfl) (by omega) (by omega) rfl (fun _ _ z => z.elim) (fun v9 h7 hz => ?_)
  obtain ⟨V1, F1, ⟨rfl, p⟩, hM, hk⟩ := hz
  obtain ⟨gm, -, fr⟩ := J.md H hM hk p
  have ho7 := ho.tr fr (fun _ => nM_lo)
  have hod7 := hod.tr fr (fun _ => nM_do)
  have I7 : LI Γ de h7 m o ad out outD V1 F1 B' := ⟨gm, hM, ho7.any, hod7.any⟩
  simp only [Option.toList_some, List.cons_append, List.nil_append]
  exact lt_i H ⟨dL_law_2387, dL_law_2389, dL_law_2390, dL_law_2393, dL_law_2395, dL_law_2398, dL_law_2399, dL_law_2400, dL_law_2402, dL_law_2405, dL_law_2406, dL_law_2407, dL_law_2408, dL_law_2410, dL_law_2411, dL_law_2412, dL_law_2415, dL_law_2416, dL_law_2417, True.intro⟩ (by decide) I7 ho7 (h13 V1 F1 p) (fun _ => rfl) (fun h' I' => K h' V1 F1 p I')
set_option maxRecDepth 100000 in
theorem lq_41 (H : gDi Γ) (hnc : gPnc Γ) (hsa : gPa Γ .int sc L (fun j => .int (xs j))) (hL : L ≤ 2048) (hi : i + 3 < L) (I : LI Γ de h m o ad out outD V F B) {W B' : Nat} {τ : Int32} {x : Int32} {P : gHp → Prop} {Ph : (Nat → Int32) → (Nat → Nat → Int32) → Prop} {fs : List Value} (hm : h m = some (gJ 12 fs)) (C : fC Γ M_X9_hoursToDeparture [.ref m, .int (xs (i + 1))] h W τ (.int x) (nmOf xIO xIO xIO) P) (hP : ∀ h1, P h1 → (∀ V1 F1, Ph V1 F1 → gMO Γ de h1 m V1 F1 B') ∧ gFr (kC Γ) h h1) (R : mE Γ o ad M_X10_hoursToDeparture [.int (xs (i + 1))] V F 4 (fun v V1 F1 => v = some (.int x) ∧ Ph V1 F1)) (ht9 : τ = 0 ∨ τ = nI 1) (h13 : ∀ V1 F1, Ph V1 F1 → V1 13 = τ) (K : ∀ h' V1 F1, Ph V1 F1 → LI Γ de h' m o ad out outD V1 F1 B' → G Γ M_L_law 32 mc ms Z ZX rc rs 3368 (L0 sc m o out outD i) [] h') : G Γ M_L_law 32 mc ms Z ZX (rc + 1000) (rs + W) 2420 (L0 sc m o out outD i) [] h := by
  refine g_aload_n dL_law_2420 rfl ?_
  refine la_arg (j := 1) ⟨dL_law_2421, dL_law_2422, dL_law_2424, dL_law_2425, dL_law_2426, True.intro⟩ rfl hsa hL (by omega) rfl rfl ?_
  refine g_aload_n dL_law_2427 rfl ?_
  obtain ⟨f, hf⟩ := I.lo
  refine g_callSH (av := [.ref m, .int (xs (i + 1)), .ref out]) (rc' := rc) (rs' := rs) kL_319 (lw_hoursToDeparture hnc _ hm C ht9 (fun h1 p => (hP h1 p).2 _ _ hf nC_lo)) dL_law_2428 rfl rfl (Nat.le_of_ble_eq_true rfl) (Nat.le_of_ble_eq_true rfl) (Nat.le_of_ble_eq_true rfl) (by omega) (by omega) rfl (fun _ _ z => z.elim) (fun v9 h5 hz => ?_)
  obtain ⟨rfl, J, ho, hod⟩ := I.wr H hf hP hz
  simp only [Option.toList_some, List.cons_append, List.nil_append]
  refine g_istore dL_law_2431 (Nat.le_of_ble_eq_true rfl) rfl ?_
  refine g_aload_n dL_law_2433 rfl ?_
  refine la_arg (j := 1) ⟨dL_law_2434, dL_law_2435, dL_law_2437, dL_law_2438, dL_law_2439, True.intro⟩ rfl hsa hL (by omega) rfl rfl ?_
  refine g_callV (av := [.ref o, .int (xs (i + 1))]) (rc' := rc) (rs' := rs) kL_321 (R h5 J.2) dL_law_2440 rfl rfl J.2.1 rfl (Nat.le_of_ble_eq_true rfl) (Nat.le_of_ble_eq_true rfl) (Nat.le_of_ble_eq_true rfl) (by omega) (by omega) rfl (fun _ _ z => z.elim) (fun v9 h7 hz => ?_)
  obtain ⟨V1, F1, ⟨rfl, p⟩, hM, hk⟩ := hz
  obtain ⟨gm, -, fr⟩ := J.md H hM hk p
  have ho7 := ho.tr fr (fun _ => nM_lo)
  have hod7 := hod.tr fr (fun _ => nM_do)
  have I7 : LI Γ de h7 m o ad out outD V1 F1 B' := ⟨gm, hM, ho7.any, hod7.any⟩
  simp only [Option.toList_some, List.cons_append, List.nil_append]
  exact lt_i H ⟨dL_law_2443, dL_law_2445, dL_law_2446, dL_law_2449, dL_law_2451, dL_law_2454, dL_law_2455, dL_law_2456, dL_law_2458, dL_law_2461, dL_law_2462, dL_law_2463, dL_law_2464, dL_law_2466, dL_law_2467, dL_law_2468, dL_law_2471, dL_law_2472, dL_law_2473, True.intro⟩ (by decide) I7 ho7 (h13 V1 F1 p) (fun _ => rfl) (fun h' I' => K h' V1 F1 p I')
set_option maxRecDepth 100000 in
theorem lq_42 (H : gDi Γ) (hnc : gPnc Γ) (hsa : gPa Γ .int sc L (fun j => .int (xs j))) (hL : L ≤ 2048) (hi : i + 3 < L) (I : LI Γ de h m o ad out outD V F B) {W B' : Nat} {τ : Int32} {x : Int32} {P : gHp → Prop} {Ph : (Nat → Int32) → (Nat → Nat → Int32) → Prop} {fs : List Value} (hm : h m = some (gJ 12 fs)) (C : fC Γ M_X9_hoursToDelivery [.ref m, .int (xs (i + 1))] h W τ (.int x) (nmOf xNS xIS xIS) P) (hP : ∀ h1, P h1 → (∀ V1 F1, Ph V1 F1 → gMO Γ de h1 m V1 F1 B') ∧ gFr (kC Γ) h h1) (R : mE Γ o ad M_X10_hoursToDelivery [.int (xs (i + 1))] V F 5 (fun v V1 F1 => v = some (.int x) ∧ Ph V1 F1)) (ht9 : τ = 0 ∨ τ = nI 1 ∨ τ = nI 2) (h13 : ∀ V1 F1, Ph V1 F1 → V1 13 = τ) (K : ∀ h' V1 F1, Ph V1 F1 → LI Γ de h' m o ad out outD V1 F1 B' → G Γ M_L_law 32 mc ms Z ZX rc rs 3368 (L0 sc m o out outD i) [] h') : G Γ M_L_law 32 mc ms Z ZX (rc + 1000) (rs + W) 2476 (L0 sc m o out outD i) [] h := by
  refine g_aload_n dL_law_2476 rfl ?_
  refine la_arg (j := 1) ⟨dL_law_2477, dL_law_2478, dL_law_2480, dL_law_2481, dL_law_2482, True.intro⟩ rfl hsa hL (by omega) rfl rfl ?_
  refine g_aload_n dL_law_2483 rfl ?_
  obtain ⟨f, hf⟩ := I.lo
  refine g_callSH (av := [.ref m, .int (xs (i + 1)), .ref out]) (rc' := rc) (rs' := rs) kL_322 (lw_hoursToDelivery hnc _ hm C ht9 (fun h1 p => (hP h1 p).2 _ _ hf nC_lo)) dL_law_2484 rfl rfl (Nat.le_of_ble_eq_true rfl) (Nat.le_of_ble_eq_true rfl) (Nat.le_of_ble_eq_true rfl) (by omega) (by omega) rfl (fun _ _ z => z.elim) (fun v9 h5 hz => ?_)
  obtain ⟨rfl, J, ho, hod⟩ := I.wr H hf hP hz
  simp only [Option.toList_some, List.cons_append, List.nil_append]
  refine g_istore dL_law_2487 (Nat.le_of_ble_eq_true rfl) rfl ?_
  refine g_aload_n dL_law_2489 rfl ?_
  refine la_arg (j := 1) ⟨dL_law_2490, dL_law_2491, dL_law_2493, dL_law_2494, dL_law_2495, True.intro⟩ rfl hsa hL (by omega) rfl rfl ?_
  refine g_callV (av := [.ref o, .int (xs (i + 1))]) (rc' := rc) (rs' := rs) kL_324 (R h5 J.2) dL_law_2496 rfl rfl J.2.1 rfl (Nat.le_of_ble_eq_true rfl) (Nat.le_of_ble_eq_true rfl) (Nat.le_of_ble_eq_true rfl) (by omega) (by omega) rfl (fun _ _ z => z.elim) (fun v9 h7 hz => ?_)
  obtain ⟨V1, F1, ⟨rfl, p⟩, hM, hk⟩ := hz
  obtain ⟨gm, -, fr⟩ := J.md H hM hk p
  have ho7 := ho.tr fr (fun _ => nM_lo)
  have hod7 := hod.tr fr (fun _ => nM_do)
  have I7 : LI Γ de h7 m o ad out outD V1 F1 B' := ⟨gm, hM, ho7.any, hod7.any⟩
  simp only [Option.toList_some, List.cons_append, List.nil_append]
  exact lt_i H ⟨dL_law_2499, dL_law_2501, dL_law_2502, dL_law_2505, dL_law_2507, dL_law_2510, dL_law_2511, dL_law_2512, dL_law_2514, dL_law_2517, dL_law_2518, dL_law_2519, dL_law_2520, dL_law_2522, dL_law_2523, dL_law_2524, dL_law_2527, dL_law_2528, dL_law_2529, True.intro⟩ (by decide) I7 ho7 (h13 V1 F1 p) (fun _ => rfl) (fun h' I' => K h' V1 F1 p I')
set_option maxRecDepth 100000 in
theorem lq_43 (H : gDi Γ) (hnc : gPnc Γ) (hsa : gPa Γ .int sc L (fun j => .int (xs j))) (hL : L ≤ 2048) (hi : i + 3 < L) (I : LI Γ de h m o ad out outD V F B) {W B' : Nat} {τ : Int32} {x : Int32} {P : gHp → Prop} {Ph : (Nat → Int32) → (Nat → Nat → Int32) → Prop} {fs : List Value} (hm : h m = some (gJ 12 fs)) (C : fC Γ M_X9_hoursToDeliveryByHours [.ref m, .int (xs (i + 1))] h W τ (.int x) (nmOf xNS xIS xIS) P) (hP : ∀ h1, P h1 → (∀ V1 F1, Ph V1 F1 → gMO Γ de h1 m V1 F1 B') ∧ gFr (kC Γ) h h1) (R : mE Γ o ad M_X10_hoursToDeliveryByHours [.int (xs (i + 1))] V F 5 (fun v V1 F1 => v = some (.int x) ∧ Ph V1 F1)) (ht9 : τ = 0 ∨ τ = nI 1 ∨ τ = nI 2) (h13 : ∀ V1 F1, Ph V1 F1 → V1 13 = τ) (K : ∀ h' V1 F1, Ph V1 F1 → LI Γ de h' m o ad out outD V1 F1 B' → G Γ M_L_law 32 mc ms Z ZX rc rs 3368 (L0 sc m o out outD i) [] h') : G Γ M_L_law 32 mc ms Z ZX (rc + 1000) (rs + W) 2532 (L0 sc m o out outD i) [] h := by
  refine g_aload_n dL_law_2532 rfl ?_
  refine la_arg (j := 1) ⟨dL_law_2533, dL_law_2534, dL_law_2536, dL_law_2537, dL_law_2538, True.intro⟩ rfl hsa hL (by omega) rfl rfl ?_
  refine g_aload_n dL_law_2539 rfl ?_
  obtain ⟨f, hf⟩ := I.lo
  refine g_callSH (av := [.ref m, .int (xs (i + 1)), .ref out]) (rc' := rc) (rs' := rs) kL_325 (lw_hoursToDeliveryByHours hnc _ hm C ht9 (fun h1 p => (hP h1 p).2 _ _ hf nC_lo)) dL_law_2540 rfl rfl (Nat.le_of_ble_eq_true rfl) (Nat.le_of_ble_eq_true rfl) (Nat.le_of_ble_eq_true rfl) (by omega) (by omega) rfl (fun _ _ z => z.elim) (fun v9 h5 hz => ?_)
  obtain ⟨rfl, J, ho, hod⟩ := I.wr H hf hP hz
  simp only [Option.toList_some, List.cons_append, List.nil_append]
  refine g_istore dL_law_2543 (Nat.le_of_ble_eq_true rfl) rfl ?_
  refine g_aload_n dL_law_2545 rfl ?_
  refine la_arg (j := 1) ⟨dL_law_2546, dL_law_2547, dL_law_2549, dL_law_2550, dL_law_2551, True.intro⟩ rfl hsa hL (by omega) rfl rfl ?_
  refine g_callV (av := [.ref o, .int (xs (i + 1))]) (rc' := rc) (rs' := rs) kL_327 (R h5 J.2) dL_law_2552 rfl rfl J.2.1 rfl (Nat.le_of_ble_eq_true rfl) (Nat.le_of_ble_eq_true rfl) (Nat.le_of_ble_eq_true rfl) (by omega) (by omega) rfl (fun _ _ z => z.elim) (fun v9 h7 hz => ?_)
  obtain ⟨V1, F1, ⟨rfl, p⟩, hM, hk⟩ := hz
  obtain ⟨gm, -, fr⟩ := J.md H hM hk p
  have ho7 := ho.tr fr (fun _ => nM_lo)
  have hod7 := hod.tr fr (fun _ => nM_do)
  have I7 : LI Γ de h7 m o ad out outD V1 F1 B' := ⟨gm, hM, ho7.any, hod7.any⟩
  simp only [Option.toList_some, List.cons_append, List.nil_append]
  exact lt_i H ⟨dL_law_2555, dL_law_2557, dL_law_2558, dL_law_2561, dL_law_2563, dL_law_2566, dL_law_2567, dL_law_2568, dL_law_2570, dL_law_2573, dL_law_2574, dL_law_2575, dL_law_2576, dL_law_2578, dL_law_2579, dL_law_2580, dL_law_2583, dL_law_2584, dL_law_2585, True.intro⟩ (by decide) I7 ho7 (h13 V1 F1 p) (fun _ => rfl) (fun h' I' => K h' V1 F1 p I')
set_option maxRecDepth 100000 in
theorem lq_44 (H : gDi Γ) (hnc : gPnc Γ) (hsa : gPa Γ .int sc L (fun j => .int (xs j))) (hL : L ≤ 2048) (hi : i + 3 < L) (I : LI Γ de h m o ad out outD V F B) {W B' : Nat} {τ : Int32} {x : Int32} {P : gHp → Prop} {Ph : (Nat → Int32) → (Nat → Nat → Int32) → Prop} {fs : List Value} (hm : h m = some (gJ 12 fs)) (C : fC Γ M_X9_freeWeight [.ref m, .int (xs (i + 1))] h W τ (.int x) (nmOf xIO xIO xIO) P) (hP : ∀ h1, P h1 → (∀ V1 F1, Ph V1 F1 → gMO Γ de h1 m V1 F1 B') ∧ gFr (kC Γ) h h1) (R : mE Γ o ad M_X10_freeWeight [.int (xs (i + 1))] V F 3 (fun v V1 F1 => v = some (.int x) ∧ Ph V1 F1)) (ht9 : τ = 0 ∨ τ = nI 1) (h13 : ∀ V1 F1, Ph V1 F1 → V1 13 = τ) (K : ∀ h' V1 F1, Ph V1 F1 → LI Γ de h' m o ad out outD V1 F1 B' → G Γ M_L_law 32 mc ms Z ZX rc rs 3368 (L0 sc m o out outD i) [] h') : G Γ M_L_law 32 mc ms Z ZX (rc + 1000) (rs + W) 2588 (L0 sc m o out outD i) [] h := by
  refine g_aload_n dL_law_2588 rfl ?_
  refine la_arg (j := 1) ⟨dL_law_2589, dL_law_2590, dL_law_2592, dL_law_2593, dL_law_2594, True.intro⟩ rfl hsa hL (by omega) rfl rfl ?_
  refine g_aload_n dL_law_2595 rfl ?_
  obtain ⟨f, hf⟩ := I.lo
  refine g_callSH (av := [.ref m, .int (xs (i + 1)), .ref out]) (rc' := rc) (rs' := rs) kL_328 (lw_freeWeight hnc _ hm C ht9 (fun h1 p => (hP h1 p).2 _ _ hf nC_lo)) dL_law_2596 rfl rfl (Nat.le_of_ble_eq_true rfl) (Nat.le_of_ble_eq_true rfl) (Nat.le_of_ble_eq_true rfl) (by omega) (by omega) rfl (fun _ _ z => z.elim) (fun v9 h5 hz => ?_)
  obtain ⟨rfl, J, ho, hod⟩ := I.wr H hf hP hz
  simp only [Option.toList_some, List.cons_append, List.nil_append]
  refine g_istore dL_law_2599 (Nat.le_of_ble_eq_true rfl) rfl ?_
  refine g_aload_n dL_law_2601 rfl ?_
  refine la_arg (j := 1) ⟨dL_law_2602, dL_law_2603, dL_law_2605, dL_law_2606, dL_law_2607, True.intro⟩ rfl hsa hL (by omega) rfl rfl ?_
  refine g_callV (av := [.ref o, .int (xs (i + 1))]) (rc' := rc) (rs' := rs) kL_330 (R h5 J.2) dL_law_2608 rfl rfl J.2.1 rfl (Nat.le_of_ble_eq_true rfl) (Nat.le_of_ble_eq_true rfl) (Nat.le_of_ble_eq_true rfl) (by omega) (by omega) rfl (fun _ _ z => z.elim) (fun v9 h7 hz => ?_)
  obtain ⟨V1, F1, ⟨rfl, p⟩, hM, hk⟩ := hz
  obtain ⟨gm, -, fr⟩ := J.md H hM hk p
  have ho7 := ho.tr fr (fun _ => nM_lo)
  have hod7 := hod.tr fr (fun _ => nM_do)
  have I7 : LI Γ de h7 m o ad out outD V1 F1 B' := ⟨gm, hM, ho7.any, hod7.any⟩
  simp only [Option.toList_some, List.cons_append, List.nil_append]
  exact lt_i H ⟨dL_law_2611, dL_law_2613, dL_law_2614, dL_law_2617, dL_law_2619, dL_law_2622, dL_law_2623, dL_law_2624, dL_law_2626, dL_law_2629, dL_law_2630, dL_law_2631, dL_law_2632, dL_law_2634, dL_law_2635, dL_law_2636, dL_law_2639, dL_law_2640, dL_law_2641, True.intro⟩ (by decide) I7 ho7 (h13 V1 F1 p) (fun _ => rfl) (fun h' I' => K h' V1 F1 p I')
set_option maxRecDepth 100000 in
theorem lq_45 (H : gDi Γ) (hnc : gPnc Γ) (hsa : gPa Γ .int sc L (fun j => .int (xs j))) (hL : L ≤ 2048) (hi : i + 3 < L) (I : LI Γ de h m o ad out outD V F B) {W B' : Nat} {τ : Int32} {x : Int32} {P : gHp → Prop} {Ph : (Nat → Int32) → (Nat → Nat → Int32) → Prop} {fs : List Value} (hm : h m = some (gJ 12 fs)) (C : fC Γ M_X9_fullestBag [.ref m, .int (xs (i + 1))] h W τ (.int x) (nmOf xIO xNS xNS) P) (hP : ∀ h1, P h1 → (∀ V1 F1, Ph V1 F1 → gMO Γ de h1 m V1 F1 B') ∧ gFr (kC Γ) h h1) (R : mE Γ o ad M_X10_fullestBag [.int (xs (i + 1))] V F 3 (fun v V1 F1 => v = some (.int x) ∧ Ph V1 F1)) (ht9 : τ = 0 ∨ τ = nI 1 ∨ τ = nI 2) (h13 : ∀ V1 F1, Ph V1 F1 → V1 13 = τ) (K : ∀ h' V1 F1, Ph V1 F1 → LI Γ de h' m o ad out outD V1 F1 B' → G Γ M_L_law 32 mc ms Z ZX rc rs 3368 (L0 sc m o out outD i) [] h') : G Γ M_L_law 32 mc ms Z ZX (rc + 1000) (rs + W) 2644 (L0 sc m o out outD i) [] h := by
  refine g_aload_n dL_law_2644 rfl ?_
  refine la_arg (j := 1) ⟨dL_law_2645, dL_law_2646, dL_law_2648, dL_law_2649, dL_law_2650, True.intro⟩ rfl hsa hL (by omega) rfl rfl ?_
  refine g_aload_n dL_law_2651 rfl ?_
  obtain ⟨f, hf⟩ := I.lo
  refine g_callSH (av := [.ref m, .int (xs (i + 1)), .ref out]) (rc' := rc) (rs' := rs) kL_331 (lw_fullestBag hnc _ hm C ht9 (fun h1 p => (hP h1 p).2 _ _ hf nC_lo)) dL_law_2652 rfl rfl (Nat.le_of_ble_eq_true rfl) (Nat.le_of_ble_eq_true rfl) (Nat.le_of_ble_eq_true rfl) (by omega) (by omega) rfl (fun _ _ z => z.elim) (fun v9 h5 hz => ?_)
  obtain ⟨rfl, J, ho, hod⟩ := I.wr H hf hP hz
  simp only [Option.toList_some, List.cons_append, List.nil_append]
  refine g_istore dL_law_2655 (Nat.le_of_ble_eq_true rfl) rfl ?_
  refine g_aload_n dL_law_2657 rfl ?_
  refine la_arg (j := 1) ⟨dL_law_2658, dL_law_2659, dL_law_2661, dL_law_2662, dL_law_2663, True.intro⟩ rfl hsa hL (by omega) rfl rfl ?_
  refine g_callV (av := [.ref o, .int (xs (i + 1))]) (rc' := rc) (rs' := rs) kL_333 (R h5 J.2) dL_law_2664 rfl rfl J.2.1 rfl (Nat.le_of_ble_eq_true rfl) (Nat.le_of_ble_eq_true rfl) (Nat.le_of_ble_eq_true rfl) (by omega) (by omega) rfl (fun _ _ z => z.elim) (fun v9 h7 hz => ?_)
  obtain ⟨V1, F1, ⟨rfl, p⟩, hM, hk⟩ := hz
  obtain ⟨gm, -, fr⟩ := J.md H hM hk p
  have ho7 := ho.tr fr (fun _ => nM_lo)
  have hod7 := hod.tr fr (fun _ => nM_do)
  have I7 : LI Γ de h7 m o ad out outD V1 F1 B' := ⟨gm, hM, ho7.any, hod7.any⟩
  simp only [Option.toList_some, List.cons_append, List.nil_append]
  exact lt_i H ⟨dL_law_2667, dL_law_2669, dL_law_2670, dL_law_2673, dL_law_2675, dL_law_2678, dL_law_2679, dL_law_2680, dL_law_2682, dL_law_2685, dL_law_2686, dL_law_2687, dL_law_2688, dL_law_2690, dL_law_2691, dL_law_2692, dL_law_2695, dL_law_2696, dL_law_2697, True.intro⟩ (by decide) I7 ho7 (h13 V1 F1 p) (fun _ => rfl) (fun h' I' => K h' V1 F1 p I')
set_option maxRecDepth 100000 in
theorem lq_46 (H : gDi Γ) (hnc : gPnc Γ) (hsa : gPa Γ .int sc L (fun j => .int (xs j))) (hL : L ≤ 2048) (hi : i + 3 < L) (I : LI Γ de h m o ad out outD V F B) {W B' : Nat} {τ : Int32} {x : Int32} {P : gHp → Prop} {Ph : (Nat → Int32) → (Nat → Nat → Int32) → Prop} {fs : List Value} (hm : h m = some (gJ 12 fs)) (C : fC Γ M_X9_routeByWeight [.ref m, .int (xs (i + 1))] h W τ (.int x) (nmOf xNS xNS xNS) P) (hP : ∀ h1, P h1 → (∀ V1 F1, Ph V1 F1 → gMO Γ de h1 m V1 F1 B') ∧ gFr (kC Γ) h h1) (R : mE Γ o ad M_X10_routeByWeight [.int (xs (i + 1))] V F 3 (fun v V1 F1 => v = some (.int x) ∧ Ph V1 F1)) (ht9 : τ = 0 ∨ τ = nI 1) (h13 : ∀ V1 F1, Ph V1 F1 → V1 13 = τ) (K : ∀ h' V1 F1, Ph V1 F1 → LI Γ de h' m o ad out outD V1 F1 B' → G Γ M_L_law 32 mc ms Z ZX rc rs 3368 (L0 sc m o out outD i) [] h') : G Γ M_L_law 32 mc ms Z ZX (rc + 1000) (rs + W) 2700 (L0 sc m o out outD i) [] h := by
  refine g_aload_n dL_law_2700 rfl ?_
  refine la_arg (j := 1) ⟨dL_law_2701, dL_law_2702, dL_law_2704, dL_law_2705, dL_law_2706, True.intro⟩ rfl hsa hL (by omega) rfl rfl ?_
  refine g_aload_n dL_law_2707 rfl ?_
  obtain ⟨f, hf⟩ := I.lo
  refine g_callSH (av := [.ref m, .int (xs (i + 1)), .ref out]) (rc' := rc) (rs' := rs) kL_334 (lw_routeByWeight hnc _ hm C ht9 (fun h1 p => (hP h1 p).2 _ _ hf nC_lo)) dL_law_2708 rfl rfl (Nat.le_of_ble_eq_true rfl) (Nat.le_of_ble_eq_true rfl) (Nat.le_of_ble_eq_true rfl) (by omega) (by omega) rfl (fun _ _ z => z.elim) (fun v9 h5 hz => ?_)
  obtain ⟨rfl, J, ho, hod⟩ := I.wr H hf hP hz
  simp only [Option.toList_some, List.cons_append, List.nil_append]
  refine g_istore dL_law_2711 (Nat.le_of_ble_eq_true rfl) rfl ?_
  refine g_aload_n dL_law_2713 rfl ?_
  refine la_arg (j := 1) ⟨dL_law_2714, dL_law_2715, dL_law_2717, dL_law_2718, dL_law_2719, True.intro⟩ rfl hsa hL (by omega) rfl rfl ?_
  refine g_callV (av := [.ref o, .int (xs (i + 1))]) (rc' := rc) (rs' := rs) kL_336 (R h5 J.2) dL_law_2720 rfl rfl J.2.1 rfl (Nat.le_of_ble_eq_true rfl) (Nat.le_of_ble_eq_true rfl) (Nat.le_of_ble_eq_true rfl) (by omega) (by omega) rfl (fun _ _ z => z.elim) (fun v9 h7 hz => ?_)
  obtain ⟨V1, F1, ⟨rfl, p⟩, hM, hk⟩ := hz
  obtain ⟨gm, -, fr⟩ := J.md H hM hk p
  have ho7 := ho.tr fr (fun _ => nM_lo)
  have hod7 := hod.tr fr (fun _ => nM_do)
  have I7 : LI Γ de h7 m o ad out outD V1 F1 B' := ⟨gm, hM, ho7.any, hod7.any⟩
  simp only [Option.toList_some, List.cons_append, List.nil_append]
  exact lt_i H ⟨dL_law_2723, dL_law_2725, dL_law_2726, dL_law_2729, dL_law_2731, dL_law_2734, dL_law_2735, dL_law_2736, dL_law_2738, dL_law_2741, dL_law_2742, dL_law_2743, dL_law_2744, dL_law_2746, dL_law_2747, dL_law_2748, dL_law_2751, dL_law_2752, dL_law_2753, True.intro⟩ (by decide) I7 ho7 (h13 V1 F1 p) (fun _ => rfl) (fun h' I' => K h' V1 F1 p I')
set_option maxRecDepth 100000 in
theorem lq_47 (H : gDi Γ) (hnc : gPnc Γ) (hsa : gPa Γ .int sc L (fun j => .int (xs j))) (hL : L ≤ 2048) (hi : i + 3 < L) (I : LI Γ de h m o ad out outD V F B) {W B' : Nat} {x : Int32} {P : gHp → Prop} {Ph : (Nat → Int32) → (Nat → Nat → Int32) → Prop} {fs : List Value} (hm : h m = some (gJ 12 fs)) (C : fN Γ M_X9_missortedCount [.ref m] h W (.int x) P) (hP : ∀ h1, P h1 → (∀ V1 F1, Ph V1 F1 → gMO Γ de h1 m V1 F1 B') ∧ gFr (kC Γ) h h1) (R : mE Γ o ad M_X10_missortedCount [] V F 4 (fun v V1 F1 => v = some (.int x) ∧ Ph V1 F1)) (K : ∀ h' V1 F1, Ph V1 F1 → LI Γ de h' m o ad out outD V1 F1 B' → G Γ M_L_law 32 mc ms Z ZX rc rs 3368 (L0 sc m o out outD i) [] h') : G Γ M_L_law 32 mc ms Z ZX (rc + 1000) (rs + W) 2756 (L0 sc m o out outD i) [] h := by
  refine g_aload_n dL_law_2756 rfl ?_
  refine g_callV (av := [.ref m]) (rc' := rc) (rs' := rs) kL_337 C dL_law_2757 rfl rfl hm rfl (Nat.le_of_ble_eq_true rfl) (Nat.le_of_ble_eq_true rfl) (Nat.le_of_ble_eq_true rfl) (by omega) (by omega) rfl (fun _ _ z => z.elim) (fun v9 h5 hz => ?_)
  obtain ⟨rfl, p⟩ := hz
  obtain ⟨g, k⟩ := hP h5 p
  have J := I.cl g k
  obtain ⟨f, hf⟩ := I.lo
  obtain ⟨fd, hfd⟩ := I.do_
  have ho := k _ _ hf nC_lo
  have hod := k _ _ hfd nC_do
  simp only [Option.toList_some, List.cons_append, List.nil_append]
  refine g_aload_n dL_law_2760 rfl ?_
  refine g_callV (av := [.ref o]) (rc' := rc) (rs' := rs) kL_340 (R h5 J.2) dL_law_2761 rfl rfl J.2.1 rfl (Nat.le_of_ble_eq_true rfl) (Nat.le_of_ble_eq_true rfl) (Nat.le_of_ble_eq_true rfl) (by omega) (by omega) rfl (fun _ _ z => z.elim) (fun v9 h7 hz => ?_)
  obtain ⟨V1, F1, ⟨rfl, p7⟩, hM, hk⟩ := hz
  obtain ⟨gm, -, fr⟩ := J.md H hM hk p7
  have I7 : LI Γ de h7 m o ad out outD V1 F1 B' := ⟨gm, hM, ⟨f, fr _ _ ho nM_lo⟩, ⟨fd, fr _ _ hod nM_do⟩⟩
  simp only [Option.toList_some, List.cons_append, List.nil_append]
  exact g_icmp_eq (tgt := 3368) dL_law_2764 (by decide) (fun _ => g_weak (L' := L0 sc m o out outD i) ⟨rfl, rfl, rfl, rfl, rfl, rfl, True.intro⟩ (Nat.le_refl _) (Nat.le_refl _) (K h7 V1 F1 p7 I7)) (fun z => absurd rfl z)
set_option maxRecDepth 100000 in
theorem lq_48 (H : gDi Γ) (hnc : gPnc Γ) (hsa : gPa Γ .int sc L (fun j => .int (xs j))) (hL : L ≤ 2048) (hi : i + 3 < L) (I : LI Γ de h m o ad out outD V F B) {W B' : Nat} {x : Int32} {P : gHp → Prop} {Ph : (Nat → Int32) → (Nat → Nat → Int32) → Prop} {fs : List Value} (hm : h m = some (gJ 12 fs)) (C : fN Γ M_X9_deliveredCount [.ref m] h W (.int x) P) (hP : ∀ h1, P h1 → (∀ V1 F1, Ph V1 F1 → gMO Γ de h1 m V1 F1 B') ∧ gFr (kC Γ) h h1) (R : mE Γ o ad M_X10_deliveredCount [] V F 0 (fun v V1 F1 => v = some (.int x) ∧ Ph V1 F1)) (K : ∀ h' V1 F1, Ph V1 F1 → LI Γ de h' m o ad out outD V1 F1 B' → G Γ M_L_law 32 mc ms Z ZX rc rs 3368 (L0 sc m o out outD i) [] h') : G Γ M_L_law 32 mc ms Z ZX (rc + 1000) (rs + W) 2769 (L0 sc m o out outD i) [] h := by
  refine g_aload_n dL_law_2769 rfl ?_
  refine g_callV (av := [.ref m]) (rc' := rc) (rs' := rs) kL_341 C dL_law_2770 rfl rfl hm rfl (Nat.le_of_ble_eq_true rfl) (Nat.le_of_ble_eq_true rfl) (Nat.le_of_ble_eq_true rfl) (by omega) (by omega) rfl (fun _ _ z => z.elim) (fun v9 h5 hz => ?_)
  obtain ⟨rfl, p⟩ := hz
  obtain ⟨g, k⟩ := hP h5 p
  have J := I.cl g k
  obtain ⟨f, hf⟩ := I.lo
  obtain ⟨fd, hfd⟩ := I.do_
  have ho := k _ _ hf nC_lo
  have hod := k _ _ hfd nC_do
  simp only [Option.toList_some, List.cons_append, List.nil_append]
  refine g_aload_n dL_law_2773 rfl ?_
  refine g_callV (av := [.ref o]) (rc' := rc) (rs' := rs) kL_344 (R h5 J.2) dL_law_2774 rfl rfl J.2.1 rfl (Nat.le_of_ble_eq_true rfl) (Nat.le_of_ble_eq_true rfl) (Nat.le_of_ble_eq_true rfl) (by omega) (by omega) rfl (fun _ _ z => z.elim) (fun v9 h7 hz => ?_)
  obtain ⟨V1, F1, ⟨rfl, p7⟩, hM, hk⟩ := hz
  obtain ⟨gm, -, fr⟩ := J.md H hM hk p7
  have I7 : LI Γ de h7 m o ad out outD V1 F1 B' := ⟨gm, hM, ⟨f, fr _ _ ho nM_lo⟩, ⟨fd, fr _ _ hod nM_do⟩⟩
  simp only [Option.toList_some, List.cons_append, List.nil_append]
  exact g_icmp_eq (tgt := 3368) dL_law_2777 (by decide) (fun _ => g_weak (L' := L0 sc m o out outD i) ⟨rfl, rfl, rfl, rfl, rfl, rfl, True.intro⟩ (Nat.le_refl _) (Nat.le_refl _) (K h7 V1 F1 p7 I7)) (fun z => absurd rfl z)
set_option maxRecDepth 100000 in
theorem lq_49 (H : gDi Γ) (hnc : gPnc Γ) (hsa : gPa Γ .int sc L (fun j => .int (xs j))) (hL : L ≤ 2048) (hi : i + 3 < L) (I : LI Γ de h m o ad out outD V F B) {W B' : Nat} {x : Int32} {P : gHp → Prop} {Ph : (Nat → Int32) → (Nat → Nat → Int32) → Prop} {fs : List Value} (hm : h m = some (gJ 12 fs)) (C : fN Γ M_X9_deadCount [.ref m] h W (.int x) P) (hP : ∀ h1, P h1 → (∀ V1 F1, Ph V1 F1 → gMO Γ de h1 m V1 F1 B') ∧ gFr (kC Γ) h h1) (R : mE Γ o ad M_X10_deadCount [] V F 0 (fun v V1 F1 => v = some (.int x) ∧ Ph V1 F1)) (K : ∀ h' V1 F1, Ph V1 F1 → LI Γ de h' m o ad out outD V1 F1 B' → G Γ M_L_law 32 mc ms Z ZX rc rs 3368 (L0 sc m o out outD i) [] h') : G Γ M_L_law 32 mc ms Z ZX (rc + 1000) (rs + W) 2782 (L0 sc m o out outD i) [] h := by
  refine g_aload_n dL_law_2782 rfl ?_
  refine g_callV (av := [.ref m]) (rc' := rc) (rs' := rs) kL_345 C dL_law_2783 rfl rfl hm rfl (Nat.le_of_ble_eq_true rfl) (Nat.le_of_ble_eq_true rfl) (Nat.le_of_ble_eq_true rfl) (by omega) (by omega) rfl (fun _ _ z => z.elim) (fun v9 h5 hz => ?_)
  obtain ⟨rfl, p⟩ := hz
  obtain ⟨g, k⟩ := hP h5 p
  have J := I.cl g k
  obtain ⟨f, hf⟩ := I.lo
  obtain ⟨fd, hfd⟩ := I.do_
  have ho := k _ _ hf nC_lo
  have hod := k _ _ hfd nC_do
  simp only [Option.toList_some, List.cons_append, List.nil_append]
  refine g_aload_n dL_law_2786 rfl ?_
  refine g_callV (av := [.ref o]) (rc' := rc) (rs' := rs) kL_348 (R h5 J.2) dL_law_2787 rfl rfl J.2.1 rfl (Nat.le_of_ble_eq_true rfl) (Nat.le_of_ble_eq_true rfl) (Nat.le_of_ble_eq_true rfl) (by omega) (by omega) rfl (fun _ _ z => z.elim) (fun v9 h7 hz => ?_)
  obtain ⟨V1, F1, ⟨rfl, p7⟩, hM, hk⟩ := hz
  obtain ⟨gm, -, fr⟩ := J.md H hM hk p7
  have I7 : LI Γ de h7 m o ad out outD V1 F1 B' := ⟨gm, hM, ⟨f, fr _ _ ho nM_lo⟩, ⟨fd, fr _ _ hod nM_do⟩⟩
  simp only [Option.toList_some, List.cons_append, List.nil_append]
  exact g_icmp_eq (tgt := 3368) dL_law_2790 (by decide) (fun _ => g_weak (L' := L0 sc m o out outD i) ⟨rfl, rfl, rfl, rfl, rfl, rfl, True.intro⟩ (Nat.le_refl _) (Nat.le_refl _) (K h7 V1 F1 p7 I7)) (fun z => absurd rfl z)
set_option maxRecDepth 100000 in
theorem lq_50 (H : gDi Γ) (hnc : gPnc Γ) (hsa : gPa Γ .int sc L (fun j => .int (xs j))) (hL : L ≤ 2048) (hi : i + 3 < L) (I : LI Γ de h m o ad out outD V F B) {W B' : Nat} {x : Int32} {P : gHp → Prop} {Ph : (Nat → Int32) → (Nat → Nat → Int32) → Prop} {fs : List Value} (hm : h m = some (gJ 12 fs)) (C : fN Γ M_X9_returnCount [.ref m] h W (.int x) P) (hP : ∀ h1, P h1 → (∀ V1 F1, Ph V1 F1 → gMO Γ de h1 m V1 F1 B') ∧ gFr (kC Γ) h h1) (R : mE Γ o ad M_X10_returnCount [] V F 0 (fun v V1 F1 => v = some (.int x) ∧ Ph V1 F1)) (K : ∀ h' V1 F1, Ph V1 F1 → LI Γ de h' m o ad out outD V1 F1 B' → G Γ M_L_law 32 mc ms Z ZX rc rs 3368 (L0 sc m o out outD i) [] h') : G Γ M_L_law 32 mc ms Z ZX (rc + 1000) (rs + W) 2795 (L0 sc m o out outD i) [] h := by
  refine g_aload_n dL_law_2795 rfl ?_
  refine g_callV (av := [.ref m]) (rc' := rc) (rs' := rs) kL_349 C dL_law_2796 rfl rfl hm rfl (Nat.le_of_ble_eq_true rfl) (Nat.le_of_ble_eq_true rfl) (Nat.le_of_ble_eq_true rfl) (by omega) (by omega) rfl (fun _ _ z => z.elim) (fun v9 h5 hz => ?_)
  obtain ⟨rfl, p⟩ := hz
  obtain ⟨g, k⟩ := hP h5 p
  have J := I.cl g k
  obtain ⟨f, hf⟩ := I.lo
  obtain ⟨fd, hfd⟩ := I.do_
  have ho := k _ _ hf nC_lo
  have hod := k _ _ hfd nC_do
  simp only [Option.toList_some, List.cons_append, List.nil_append]
  refine g_aload_n dL_law_2799 rfl ?_
  refine g_callV (av := [.ref o]) (rc' := rc) (rs' := rs) kL_352 (R h5 J.2) dL_law_2800 rfl rfl J.2.1 rfl (Nat.le_of_ble_eq_true rfl) (Nat.le_of_ble_eq_true rfl) (Nat.le_of_ble_eq_true rfl) (by omega) (by omega) rfl (fun _ _ z => z.elim) (fun v9 h7 hz => ?_)
  obtain ⟨V1, F1, ⟨rfl, p7⟩, hM, hk⟩ := hz
  obtain ⟨gm, -, fr⟩ := J.md H hM hk p7
  have I7 : LI Γ de h7 m o ad out outD V1 F1 B' := ⟨gm, hM, ⟨f, fr _ _ ho nM_lo⟩, ⟨fd, fr _ _ hod nM_do⟩⟩
  simp only [Option.toList_some, List.cons_append, List.nil_append]
  exact g_icmp_eq (tgt := 3368) dL_law_2803 (by decide) (fun _ => g_weak (L' := L0 sc m o out outD i) ⟨rfl, rfl, rfl, rfl, rfl, rfl, True.intro⟩ (Nat.le_refl _) (Nat.le_refl _) (K h7 V1 F1 p7 I7)) (fun z => absurd rfl z)
set_option maxRecDepth 100000 in
theorem lq_51 (H : gDi Γ) (hnc : gPnc Γ) (hsa : gPa Γ .int sc L (fun j => .int (xs j))) (hL : L ≤ 2048) (hi : i + 3 < L) (I : LI Γ de h m o ad out outD V F B) {W B' : Nat} {τ : Int32} {x : UInt64} {P : gHp → Prop} {Ph : (Nat → Int32) → (Nat → Nat → Int32) → Prop} {fs : List Value} (hm : h m = some (gJ 12 fs)) (C : fC Γ M_X9_meanWeight [.ref m] h W τ (.double x) (nmOf xAR xAR xAR) P) (hP : ∀ h1, P h1 → (∀ V1 F1, Ph V1 F1 → gMO Γ de h1 m V1 F1 B') ∧ gFr (kC Γ) h h1) (R : mE Γ o ad M_X10_meanWeight [] V F 3 (fun v V1 F1 => v = some (.double x) ∧ Ph V1 F1)) (ht9 : τ = 0 ∨ τ = nI 1) (h13 : ∀ V1 F1, Ph V1 F1 → V1 13 = τ) (K : ∀ h' V1 F1, Ph V1 F1 → LI Γ de h' m o ad out outD V1 F1 B' → G Γ M_L_law 32 mc ms Z ZX rc rs 3368 (L0 sc m o out outD i) [] h') : G Γ M_L_law 32 mc ms Z ZX (rc + 1000) (rs + W) 2808 (L0 sc m o out outD i) [] h := by
  refine g_aload_n dL_law_2808 rfl ?_
  refine g_aload dL_law_2809 rfl ?_
  obtain ⟨f, hf⟩ := I.do_
  refine g_callSH (av := [.ref m, .ref outD]) (rc' := rc) (rs' := rs) kL_353 (lw_meanWeight hnc  hm C ht9 (fun h1 p => (hP h1 p).2 _ _ hf nC_do)) dL_law_2811 rfl rfl (Nat.le_of_ble_eq_true rfl) (Nat.le_of_ble_eq_true rfl) (Nat.le_of_ble_eq_true rfl) (by omega) (by omega) rfl (fun _ _ z => z.elim) (fun v9 h5 hz => ?_)
  obtain ⟨rfl, J, ho, hod⟩ := I.wrD H hf hP hz
  simp only [Option.toList_some, List.cons_append, List.nil_append]
  refine g_istore dL_law_2814 (Nat.le_of_ble_eq_true rfl) rfl ?_
  refine g_aload_n dL_law_2816 rfl ?_
  refine g_callV (av := [.ref o]) (rc' := rc) (rs' := rs) kL_356 (R h5 J.2) dL_law_2817 rfl rfl J.2.1 rfl (Nat.le_of_ble_eq_true rfl) (Nat.le_of_ble_eq_true rfl) (Nat.le_of_ble_eq_true rfl) (by omega) (by omega) rfl (fun _ _ z => z.elim) (fun v9 h7 hz => ?_)
  obtain ⟨V1, F1, ⟨rfl, p⟩, hM, hk⟩ := hz
  obtain ⟨gm, -, fr⟩ := J.md H hM hk p
  have ho7 := ho.tr fr (fun _ => nM_lo)
  have hod7 := hod.tr fr (fun _ => nM_do)
  have I7 : LI Γ de h7 m o ad out outD V1 F1 B' := ⟨gm, hM, ho7.any, hod7.any⟩
  simp only [Option.toList_some, List.cons_append, List.nil_append]
  exact lt_d H ⟨dL_law_2820, dL_law_2822, dL_law_2823, dL_law_2826, dL_law_2828, dL_law_2831, dL_law_2832, dL_law_2833, dL_law_2835, dL_law_2838, dL_law_2840, dL_law_2841, dL_law_2842, dL_law_2844, dL_law_2845, dL_law_2848, dL_law_2850, dL_law_2851, dL_law_2852, dL_law_2854, dL_law_2855, dL_law_2856, dL_law_2857, dL_law_2860, dL_law_2862, dL_law_2864, dL_law_2865, dL_law_2868, dL_law_2869, dL_law_2870, True.intro⟩ (by decide) I7 hod7 (fun _ => rfl) (h13 V1 F1 p) (fun h' I' => K h' V1 F1 p I')
set_option maxRecDepth 100000 in
theorem lq_52 (H : gDi Γ) (hnc : gPnc Γ) (hsa : gPa Γ .int sc L (fun j => .int (xs j))) (hL : L ≤ 2048) (hi : i + 3 < L) (I : LI Γ de h m o ad out outD V F B) {W B' : Nat} {τ : Int32} {x : UInt32} {P : gHp → Prop} {Ph : (Nat → Int32) → (Nat → Nat → Int32) → Prop} {fs : List Value} (hm : h m = some (gJ 12 fs)) (C : fC Γ M_X9_deliveredShare [.ref m] h W τ (.float x) (nmOf xAR xAR xAR) P) (hP : ∀ h1, P h1 → (∀ V1 F1, Ph V1 F1 → gMO Γ de h1 m V1 F1 B') ∧ gFr (kC Γ) h h1) (R : mE Γ o ad M_X10_deliveredShare [] V F 3 (fun v V1 F1 => v = some (.float x) ∧ Ph V1 F1)) (ht9 : τ = 0 ∨ τ = nI 1) (hf9 : vf_n64 (FP.f2d x)) (hn9 : τ = 0 → vf_n32 x) (h13 : ∀ V1 F1, Ph V1 F1 → V1 13 = τ) (K : ∀ h' V1 F1, Ph V1 F1 → LI Γ de h' m o ad out outD V1 F1 B' → G Γ M_L_law 32 mc ms Z ZX rc rs 3368 (L0 sc m o out outD i) [] h') : G Γ M_L_law 32 mc ms Z ZX (rc + 1000) (rs + W) 2873 (L0 sc m o out outD i) [] h := by
  refine g_aload_n dL_law_2873 rfl ?_
  refine g_aload dL_law_2874 rfl ?_
  obtain ⟨f, hf⟩ := I.do_
  refine g_callSH (av := [.ref m, .ref outD]) (rc' := rc) (rs' := rs) kL_357 (lw_deliveredShare hnc  hm C ht9 (fun h1 p => (hP h1 p).2 _ _ hf nC_do) hf9) dL_law_2876 rfl rfl (Nat.le_of_ble_eq_true rfl) (Nat.le_of_ble_eq_true rfl) (Nat.le_of_ble_eq_true rfl) (by omega) (by omega) rfl (fun _ _ z => z.elim) (fun v9 h5 hz => ?_)
  obtain ⟨rfl, J, ho, hod⟩ := I.wrD H hf hP hz
  simp only [Option.toList_some, List.cons_append, List.nil_append]
  refine g_istore dL_law_2879 (Nat.le_of_ble_eq_true rfl) rfl ?_
  refine g_aload_n dL_law_2881 rfl ?_
  refine g_callV (av := [.ref o]) (rc' := rc) (rs' := rs) kL_359 (R h5 J.2) dL_law_2882 rfl rfl J.2.1 rfl (Nat.le_of_ble_eq_true rfl) (Nat.le_of_ble_eq_true rfl) (Nat.le_of_ble_eq_true rfl) (by omega) (by omega) rfl (fun _ _ z => z.elim) (fun v9 h7 hz => ?_)
  obtain ⟨V1, F1, ⟨rfl, p⟩, hM, hk⟩ := hz
  obtain ⟨gm, -, fr⟩ := J.md H hM hk p
  have ho7 := ho.tr fr (fun _ => nM_lo)
  have hod7 := hod.tr fr (fun _ => nM_do)
  have I7 : LI Γ de h7 m o ad out outD V1 F1 B' := ⟨gm, hM, ho7.any, hod7.any⟩
  simp only [Option.toList_some, List.cons_append, List.nil_append]
  exact lt_f H ⟨dL_law_2885, dL_law_2887, dL_law_2888, dL_law_2891, dL_law_2893, dL_law_2896, dL_law_2897, dL_law_2898, dL_law_2900, dL_law_2903, dL_law_2905, dL_law_2906, dL_law_2907, dL_law_2909, dL_law_2910, dL_law_2911, dL_law_2914, dL_law_2916, dL_law_2917, dL_law_2918, dL_law_2920, dL_law_2921, dL_law_2922, dL_law_2923, dL_law_2926, dL_law_2928, dL_law_2930, dL_law_2931, dL_law_2934, dL_law_2935, dL_law_2936, True.intro⟩ (by decide) I7 hod7 (fun _ => rfl) hn9 (h13 V1 F1 p) (fun h' I' => K h' V1 F1 p I')
set_option maxRecDepth 100000 in
theorem lq_53 (H : gDi Γ) (hnc : gPnc Γ) (hsa : gPa Γ .int sc L (fun j => .int (xs j))) (hL : L ≤ 2048) (hi : i + 3 < L) (I : LI Γ de h m o ad out outD V F B) {W B' : Nat} {x : Int32} {P : gHp → Prop} {Ph : (Nat → Int32) → (Nat → Nat → Int32) → Prop} {fs : List Value} (hm : h m = some (gJ 12 fs)) (C : fN Γ M_X9_isConsistent [.ref m] h W (.int x) P) (hP : ∀ h1, P h1 → (∀ V1 F1, Ph V1 F1 → gMO Γ de h1 m V1 F1 B') ∧ gFr (kC Γ) h h1) (R : mE Γ o ad M_X10_isConsistent [] V F 0 (fun v V1 F1 => v = some (.int x) ∧ Ph V1 F1)) (K : ∀ h' V1 F1, Ph V1 F1 → LI Γ de h' m o ad out outD V1 F1 B' → G Γ M_L_law 32 mc ms Z ZX rc rs 3368 (L0 sc m o out outD i) [] h') : G Γ M_L_law 32 mc ms Z ZX (rc + 1000) (rs + W) 2939 (L0 sc m o out outD i) [] h := by
  refine g_aload_n dL_law_2939 rfl ?_
  refine g_callV (av := [.ref m]) (rc' := rc) (rs' := rs) kL_360 C dL_law_2940 rfl rfl hm rfl (Nat.le_of_ble_eq_true rfl) (Nat.le_of_ble_eq_true rfl) (Nat.le_of_ble_eq_true rfl) (by omega) (by omega) rfl (fun _ _ z => z.elim) (fun v9 h5 hz => ?_)
  obtain ⟨rfl, p⟩ := hz
  obtain ⟨g, k⟩ := hP h5 p
  have J := I.cl g k
  obtain ⟨f, hf⟩ := I.lo
  obtain ⟨fd, hfd⟩ := I.do_
  have ho := k _ _ hf nC_lo
  have hod := k _ _ hfd nC_do
  simp only [Option.toList_some, List.cons_append, List.nil_append]
  refine g_aload_n dL_law_2943 rfl ?_
  refine g_callV (av := [.ref o]) (rc' := rc) (rs' := rs) kL_364 (R h5 J.2) dL_law_2944 rfl rfl J.2.1 rfl (Nat.le_of_ble_eq_true rfl) (Nat.le_of_ble_eq_true rfl) (Nat.le_of_ble_eq_true rfl) (by omega) (by omega) rfl (fun _ _ z => z.elim) (fun v9 h7 hz => ?_)
  obtain ⟨V1, F1, ⟨rfl, p7⟩, hM, hk⟩ := hz
  obtain ⟨gm, -, fr⟩ := J.md H hM hk p7
  have I7 : LI Γ de h7 m o ad out outD V1 F1 B' := ⟨gm, hM, ⟨f, fr _ _ ho nM_lo⟩, ⟨fd, fr _ _ hod nM_do⟩⟩
  simp only [Option.toList_some, List.cons_append, List.nil_append]
  exact g_icmp_eq (tgt := 3368) dL_law_2947 (by decide) (fun _ => g_weak (L' := L0 sc m o out outD i) ⟨rfl, rfl, rfl, rfl, rfl, rfl, True.intro⟩ (Nat.le_refl _) (Nat.le_refl _) (K h7 V1 F1 p7 I7)) (fun z => absurd rfl z)
set_option maxRecDepth 100000 in
theorem lq_54 (H : gDi Γ) (hnc : gPnc Γ) (hsa : gPa Γ .int sc L (fun j => .int (xs j))) (hL : L ≤ 2048) (hi : i + 3 < L) (I : LI Γ de h m o ad out outD V F B) {W B' : Nat} {τ : Int32} {x : Int32} {P : gHp → Prop} {Ph : (Nat → Int32) → (Nat → Nat → Int32) → Prop} {fs : List Value} (hm : h m = some (gJ 12 fs)) (C : fC Γ M_X9_formatLetter [.ref m, .int (xs (i + 1))] h W τ (.int x) (nmOf xNS xNS xNS) P) (hP : ∀ h1, P h1 → (∀ V1 F1, Ph V1 F1 → gMO Γ de h1 m V1 F1 B') ∧ gFr (kC Γ) h h1) (R : mE Γ o ad M_X10_formatLetter [.int (xs (i + 1))] V F 3 (fun v V1 F1 => v = some (.int x) ∧ Ph V1 F1)) (ht9 : τ = 0 ∨ τ = nI 1) (h13 : ∀ V1 F1, Ph V1 F1 → V1 13 = τ) (K : ∀ h' V1 F1, Ph V1 F1 → LI Γ de h' m o ad out outD V1 F1 B' → G Γ M_L_law 32 mc ms Z ZX rc rs 3368 (L0 sc m o out outD i) [] h') : G Γ M_L_law 32 mc ms Z ZX (rc + 1000) (rs + W) 2952 (L0 sc m o out outD i) [] h := by
  refine g_aload_n dL_law_2952 rfl ?_
  refine la_arg (j := 1) ⟨dL_law_2953, dL_law_2954, dL_law_2956, dL_law_2957, dL_law_2958, True.intro⟩ rfl hsa hL (by omega) rfl rfl ?_
  refine g_aload_n dL_law_2959 rfl ?_
  obtain ⟨f, hf⟩ := I.lo
  refine g_callSH (av := [.ref m, .int (xs (i + 1)), .ref out]) (rc' := rc) (rs' := rs) kL_365 (lw_formatLetter hnc _ hm C ht9 (fun h1 p => (hP h1 p).2 _ _ hf nC_lo)) dL_law_2960 rfl rfl (Nat.le_of_ble_eq_true rfl) (Nat.le_of_ble_eq_true rfl) (Nat.le_of_ble_eq_true rfl) (by omega) (by omega) rfl (fun _ _ z => z.elim) (fun v9 h5 hz => ?_)
  obtain ⟨rfl, J, ho, hod⟩ := I.wr H hf hP hz
  simp only [Option.toList_some, List.cons_append, List.nil_append]
  refine g_istore dL_law_2963 (Nat.le_of_ble_eq_true rfl) rfl ?_
  refine g_aload_n dL_law_2965 rfl ?_
  refine la_arg (j := 1) ⟨dL_law_2966, dL_law_2967, dL_law_2969, dL_law_2970, dL_law_2971, True.intro⟩ rfl hsa hL (by omega) rfl rfl ?_
  refine g_callV (av := [.ref o, .int (xs (i + 1))]) (rc' := rc) (rs' := rs) kL_367 (R h5 J.2) dL_law_2972 rfl rfl J.2.1 rfl (Nat.le_of_ble_eq_true rfl) (Nat.le_of_ble_eq_true rfl) (Nat.le_of_ble_eq_true rfl) (by omega) (by omega) rfl (fun _ _ z => z.elim) (fun v9 h7 hz => ?_)
  obtain ⟨V1, F1, ⟨rfl, p⟩, hM, hk⟩ := hz
  obtain ⟨gm, -, fr⟩ := J.md H hM hk p
  have ho7 := ho.tr fr (fun _ => nM_lo)
  have hod7 := hod.tr fr (fun _ => nM_do)
  have I7 : LI Γ de h7 m o ad out outD V1 F1 B' := ⟨gm, hM, ho7.any, hod7.any⟩
  simp only [Option.toList_some, List.cons_append, List.nil_append]
  exact lt_i H ⟨dL_law_2975, dL_law_2977, dL_law_2978, dL_law_2981, dL_law_2983, dL_law_2986, dL_law_2987, dL_law_2988, dL_law_2990, dL_law_2993, dL_law_2994, dL_law_2995, dL_law_2996, dL_law_2998, dL_law_2999, dL_law_3000, dL_law_3003, dL_law_3004, dL_law_3005, True.intro⟩ (by decide) I7 ho7 (h13 V1 F1 p) (fun _ => rfl) (fun h' I' => K h' V1 F1 p I')
set_option maxRecDepth 100000 in
theorem lq_55 (H : gDi Γ) (hnc : gPnc Γ) (hsa : gPa Γ .int sc L (fun j => .int (xs j))) (hL : L ≤ 2048) (hi : i + 3 < L) (I : LI Γ de h m o ad out outD V F B) {W B' : Nat} {τ : Int32} {x : Int32} {P : gHp → Prop} {Ph : (Nat → Int32) → (Nat → Nat → Int32) → Prop} {fs : List Value} (hm : h m = some (gJ 12 fs)) (C : fC Γ M_X9_lineChar [.ref m, .int (xs (i + 1))] h W τ (.int x) (nmOf xIO xIO xIO) P) (hP : ∀ h1, P h1 → (∀ V1 F1, Ph V1 F1 → gMO Γ de h1 m V1 F1 B') ∧ gFr (kC Γ) h h1) (R : mE Γ o ad M_X10_lineChar [.int (xs (i + 1))] V F 2 (fun v V1 F1 => v = some (.int x) ∧ Ph V1 F1)) (ht9 : τ = 0 ∨ τ = nI 1) (h13 : ∀ V1 F1, Ph V1 F1 → V1 13 = τ) (K : ∀ h' V1 F1, Ph V1 F1 → LI Γ de h' m o ad out outD V1 F1 B' → G Γ M_L_law 32 mc ms Z ZX rc rs 3368 (L0 sc m o out outD i) [] h') : G Γ M_L_law 32 mc ms Z ZX (rc + 1000) (rs + W) 3008 (L0 sc m o out outD i) [] h := by
  refine g_aload_n dL_law_3008 rfl ?_
  refine la_arg (j := 1) ⟨dL_law_3009, dL_law_3010, dL_law_3012, dL_law_3013, dL_law_3014, True.intro⟩ rfl hsa hL (by omega) rfl rfl ?_
  refine g_aload_n dL_law_3015 rfl ?_
  obtain ⟨f, hf⟩ := I.lo
  refine g_callSH (av := [.ref m, .int (xs (i + 1)), .ref out]) (rc' := rc) (rs' := rs) kL_368 (lw_lineChar hnc _ hm C ht9 (fun h1 p => (hP h1 p).2 _ _ hf nC_lo)) dL_law_3016 rfl rfl (Nat.le_of_ble_eq_true rfl) (Nat.le_of_ble_eq_true rfl) (Nat.le_of_ble_eq_true rfl) (by omega) (by omega) rfl (fun _ _ z => z.elim) (fun v9 h5 hz => ?_)
  obtain ⟨rfl, J, ho, hod⟩ := I.wr H hf hP hz
  simp only [Option.toList_some, List.cons_append, List.nil_append]
  refine g_istore dL_law_3019 (Nat.le_of_ble_eq_true rfl) rfl ?_
  refine g_aload_n dL_law_3021 rfl ?_
  refine la_arg (j := 1) ⟨dL_law_3022, dL_law_3023, dL_law_3025, dL_law_3026, dL_law_3027, True.intro⟩ rfl hsa hL (by omega) rfl rfl ?_
  refine g_callV (av := [.ref o, .int (xs (i + 1))]) (rc' := rc) (rs' := rs) kL_370 (R h5 J.2) dL_law_3028 rfl rfl J.2.1 rfl (Nat.le_of_ble_eq_true rfl) (Nat.le_of_ble_eq_true rfl) (Nat.le_of_ble_eq_true rfl) (by omega) (by omega) rfl (fun _ _ z => z.elim) (fun v9 h7 hz => ?_)
  obtain ⟨V1, F1, ⟨rfl, p⟩, hM, hk⟩ := hz
  obtain ⟨gm, -, fr⟩ := J.md H hM hk p
  have ho7 := ho.tr fr (fun _ => nM_lo)
  have hod7 := hod.tr fr (fun _ => nM_do)
  have I7 : LI Γ de h7 m o ad out outD V1 F1 B' := ⟨gm, hM, ho7.any, hod7.any⟩
  simp only [Option.toList_some, List.cons_append, List.nil_append]
  exact lt_i H ⟨dL_law_3031, dL_law_3033, dL_law_3034, dL_law_3037, dL_law_3039, dL_law_3042, dL_law_3043, dL_law_3044, dL_law_3046, dL_law_3049, dL_law_3050, dL_law_3051, dL_law_3052, dL_law_3054, dL_law_3055, dL_law_3056, dL_law_3059, dL_law_3060, dL_law_3061, True.intro⟩ (by decide) I7 ho7 (h13 V1 F1 p) (fun _ => rfl) (fun h' I' => K h' V1 F1 p I')
set_option maxRecDepth 100000 in
theorem lq_56 (H : gDi Γ) (hnc : gPnc Γ) (hsa : gPa Γ .int sc L (fun j => .int (xs j))) (hL : L ≤ 2048) (hi : i + 3 < L) (I : LI Γ de h m o ad out outD V F B) {W B' : Nat} {τ : Int32} {x : Int32} {P : gHp → Prop} {Ph : (Nat → Int32) → (Nat → Nat → Int32) → Prop} {fs : List Value} (hm : h m = some (gJ 12 fs)) (C : fC Γ M_X9_append [.ref m, .int ((xs (i + 1)).toUInt32 % 65536).toInt32] h W τ (.int x) (nmOf xIA xIS xIS) P) (hP : ∀ h1, P h1 → (∀ V1 F1, Ph V1 F1 → gMO Γ de h1 m V1 F1 B') ∧ gFr (kC Γ) h h1) (R : mE Γ o ad M_X10_append [.int ((xs (i + 1)).toUInt32 % 65536).toInt32] V F 2 (fun v V1 F1 => v = some (.int x) ∧ Ph V1 F1)) (ht9 : τ = 0 ∨ τ = nI 1 ∨ τ = nI 2) (h13 : ∀ V1 F1, Ph V1 F1 → V1 13 = τ) (K : ∀ h' V1 F1, Ph V1 F1 → LI Γ de h' m o ad out outD V1 F1 B' → G Γ M_L_law 32 mc ms Z ZX rc rs 3368 (L0 sc m o out outD i) [] h') : G Γ M_L_law 32 mc ms Z ZX (rc + 1000) (rs + W) 3064 (L0 sc m o out outD i) [] h := by
  refine g_aload_n dL_law_3064 rfl ?_
  refine la_arg (j := 1) ⟨dL_law_3065, dL_law_3066, dL_law_3068, dL_law_3069, dL_law_3070, True.intro⟩ rfl hsa hL (by omega) rfl rfl ?_
  refine g_i2c dL_law_3071 ?_
  refine g_aload_n dL_law_3072 rfl ?_
  obtain ⟨f, hf⟩ := I.lo
  refine g_callSH (av := [.ref m, .int ((xs (i + 1)).toUInt32 % 65536).toInt32, .ref out]) (rc' := rc) (rs' := rs) kL_371 (lw_append hnc _ hm C ht9 (fun h1 p => (hP h1 p).2 _ _ hf nC_lo)) dL_law_3073 rfl rfl (Nat.le_of_ble_eq_true rfl) (Nat.le_of_ble_eq_true rfl) (Nat.le_of_ble_eq_true rfl) (by omega) (by omega) rfl (fun _ _ z => z.elim) (fun v9 h5 hz => ?_)
  obtain ⟨rfl, J, ho, hod⟩ := I.wr H hf hP hz
  simp only [Option.toList_some, List.cons_append, List.nil_append]
  refine g_istore dL_law_3076 (Nat.le_of_ble_eq_true rfl) rfl ?_
  refine g_aload_n dL_law_3078 rfl ?_
  refine la_arg (j := 1) ⟨dL_law_3079, dL_law_3080, dL_law_3082, dL_law_3083, dL_law_3084, True.intro⟩ rfl hsa hL (by omega) rfl rfl ?_
  refine g_i2c dL_law_3085 ?_
  refine g_callV (av := [.ref o, .int ((xs (i + 1)).toUInt32 % 65536).toInt32]) (rc' := rc) (rs' := rs) kL_374 (R h5 J.2) dL_law_3086 rfl rfl J.2.1 rfl (Nat.le_of_ble_eq_true rfl) (Nat.le_of_ble_eq_true rfl) (Nat.le_of_ble_eq_true rfl) (by omega) (by omega) rfl (fun _ _ z => z.elim) (fun v9 h7 hz => ?_)
  obtain ⟨V1, F1, ⟨rfl, p⟩, hM, hk⟩ := hz
  obtain ⟨gm, -, fr⟩ := J.md H hM hk p
  have ho7 := ho.tr fr (fun _ => nM_lo)
  have hod7 := hod.tr fr (fun _ => nM_do)
  have I7 : LI Γ de h7 m o ad out outD V1 F1 B' := ⟨gm, hM, ho7.any, hod7.any⟩
  simp only [Option.toList_some, List.cons_append, List.nil_append]
  exact lt_i H ⟨dL_law_3089, dL_law_3091, dL_law_3092, dL_law_3095, dL_law_3097, dL_law_3100, dL_law_3101, dL_law_3102, dL_law_3104, dL_law_3107, dL_law_3108, dL_law_3109, dL_law_3110, dL_law_3112, dL_law_3113, dL_law_3114, dL_law_3117, dL_law_3118, dL_law_3119, True.intro⟩ (by decide) I7 ho7 (h13 V1 F1 p) (fun _ => rfl) (fun h' I' => K h' V1 F1 p I')
set_option maxRecDepth 100000 in
theorem lq_57 (H : gDi Γ) (hnc : gPnc Γ) (hsa : gPa Γ .int sc L (fun j => .int (xs j))) (hL : L ≤ 2048) (hi : i + 3 < L) (I : LI Γ de h m o ad out outD V F B) {W B' : Nat} {τ : Int32} {x : Int32} {P : gHp → Prop} {Ph : (Nat → Int32) → (Nat → Nat → Int32) → Prop} {fs : List Value} (hm : h m = some (gJ 12 fs)) (C : fC Γ M_X9_run [.ref m] h W τ (.int x) (nmOf xIA xIS xIS) P) (hP : ∀ h1, P h1 → (∀ V1 F1, Ph V1 F1 → gMO Γ de h1 m V1 F1 B') ∧ gFr (kC Γ) h h1) (R : mE Γ o ad M_X10_run [] V F 8 (fun v V1 F1 => v = some (.int x) ∧ Ph V1 F1)) (ht9 : τ = 0 ∨ τ = nI 1 ∨ τ = nI 2) (h13 : ∀ V1 F1, Ph V1 F1 → V1 13 = τ) (K : ∀ h' V1 F1, Ph V1 F1 → LI Γ de h' m o ad out outD V1 F1 B' → G Γ M_L_law 32 mc ms Z ZX rc rs 3368 (L0 sc m o out outD i) [] h') : G Γ M_L_law 32 mc ms Z ZX (rc + 1000) (rs + W) 3122 (L0 sc m o out outD i) [] h := by
  refine g_aload_n dL_law_3122 rfl ?_
  refine g_aload_n dL_law_3123 rfl ?_
  obtain ⟨f, hf⟩ := I.lo
  refine g_callSH (av := [.ref m, .ref out]) (rc' := rc) (rs' := rs) kL_375 (lw_run hnc  hm C ht9 (fun h1 p => (hP h1 p).2 _ _ hf nC_lo)) dL_law_3124 rfl rfl (Nat.le_of_ble_eq_true rfl) (Nat.le_of_ble_eq_true rfl) (Nat.le_of_ble_eq_true rfl) (by omega) (by omega) rfl (fun _ _ z => z.elim) (fun v9 h5 hz => ?_)
  obtain ⟨rfl, J, ho, hod⟩ := I.wr H hf hP hz
  simp only [Option.toList_some, List.cons_append, List.nil_append]
  refine g_istore dL_law_3127 (Nat.le_of_ble_eq_true rfl) rfl ?_
  refine g_aload_n dL_law_3129 rfl ?_
  refine g_callV (av := [.ref o]) (rc' := rc) (rs' := rs) kL_378 (R h5 J.2) dL_law_3130 rfl rfl J.2.1 rfl (Nat.le_of_ble_eq_true rfl) (Nat.le_of_ble_eq_true rfl) (Nat.le_of_ble_eq_true rfl) (by omega) (by omega) rfl (fun _ _ z => z.elim) (fun v9 h7 hz => ?_)
  obtain ⟨V1, F1, ⟨rfl, p⟩, hM, hk⟩ := hz
  obtain ⟨gm, -, fr⟩ := J.md H hM hk p
  have ho7 := ho.tr fr (fun _ => nM_lo)
  have hod7 := hod.tr fr (fun _ => nM_do)
  have I7 : LI Γ de h7 m o ad out outD V1 F1 B' := ⟨gm, hM, ho7.any, hod7.any⟩
  simp only [Option.toList_some, List.cons_append, List.nil_append]
  exact lt_i H ⟨dL_law_3133, dL_law_3135, dL_law_3136, dL_law_3139, dL_law_3141, dL_law_3144, dL_law_3145, dL_law_3146, dL_law_3148, dL_law_3151, dL_law_3152, dL_law_3153, dL_law_3154, dL_law_3156, dL_law_3157, dL_law_3158, dL_law_3161, dL_law_3162, dL_law_3163, True.intro⟩ (by decide) I7 ho7 (h13 V1 F1 p) (fun _ => rfl) (fun h' I' => K h' V1 F1 p I')
set_option maxRecDepth 100000 in
theorem lq_58 (H : gDi Γ) (hnc : gPnc Γ) (hsa : gPa Γ .int sc L (fun j => .int (xs j))) (hL : L ≤ 2048) (hi : i + 3 < L) (I : LI Γ de h m o ad out outD V F B) {W B' : Nat} {τ : Int32} {x : Int32} {P : gHp → Prop} {Ph : (Nat → Int32) → (Nat → Nat → Int32) → Prop} {fs : List Value} (hm : h m = some (gJ 12 fs)) (C : fC Γ M_X9_errorPosition [.ref m] h W τ (.int x) (nmOf xNS xNS xNS) P) (hP : ∀ h1, P h1 → (∀ V1 F1, Ph V1 F1 → gMO Γ de h1 m V1 F1 B') ∧ gFr (kC Γ) h h1) (R : mE Γ o ad M_X10_errorPosition [] V F 2 (fun v V1 F1 => v = some (.int x) ∧ Ph V1 F1)) (ht9 : τ = 0 ∨ τ = nI 1) (h13 : ∀ V1 F1, Ph V1 F1 → V1 13 = τ) (K : ∀ h' V1 F1, Ph V1 F1 → LI Γ de h' m o ad out outD V1 F1 B' → G Γ M_L_law 32 mc ms Z ZX rc rs 3368 (L0 sc m o out outD i) [] h') : G Γ M_L_law 32 mc ms Z ZX (rc + 1000) (rs + W) 3166 (L0 sc m o out outD i) [] h := by
  refine g_aload_n dL_law_3166 rfl ?_
  refine g_aload_n dL_law_3167 rfl ?_
  obtain ⟨f, hf⟩ := I.lo
  refine g_callSH (av := [.ref m, .ref out]) (rc' := rc) (rs' := rs) kL_379 (lw_errorPosition hnc  hm C ht9 (fun h1 p => (hP h1 p).2 _ _ hf nC_lo)) dL_law_3168 rfl rfl (Nat.le_of_ble_eq_true rfl) (Nat.le_of_ble_eq_true rfl) (Nat.le_of_ble_eq_true rfl) (by omega) (by omega) rfl (fun _ _ z => z.elim) (fun v9 h5 hz => ?_)
  obtain ⟨rfl, J, ho, hod⟩ := I.wr H hf hP hz
  simp only [Option.toList_some, List.cons_append, List.nil_append]
  refine g_istore dL_law_3171 (Nat.le_of_ble_eq_true rfl) rfl ?_
  refine g_aload_n dL_law_3173 rfl ?_
  refine g_callV (av := [.ref o]) (rc' := rc) (rs' := rs) kL_381 (R h5 J.2) dL_law_3174 rfl rfl J.2.1 rfl (Nat.le_of_ble_eq_true rfl) (Nat.le_of_ble_eq_true rfl) (Nat.le_of_ble_eq_true rfl) (by omega) (by omega) rfl (fun _ _ z => z.elim) (fun v9 h7 hz => ?_)
  obtain ⟨V1, F1, ⟨rfl, p⟩, hM, hk⟩ := hz
  obtain ⟨gm, -, fr⟩ := J.md H hM hk p
  have ho7 := ho.tr fr (fun _ => nM_lo)
  have hod7 := hod.tr fr (fun _ => nM_do)
  have I7 : LI Γ de h7 m o ad out outD V1 F1 B' := ⟨gm, hM, ho7.any, hod7.any⟩
  simp only [Option.toList_some, List.cons_append, List.nil_append]
  exact lt_i H ⟨dL_law_3177, dL_law_3179, dL_law_3180, dL_law_3183, dL_law_3185, dL_law_3188, dL_law_3189, dL_law_3190, dL_law_3192, dL_law_3195, dL_law_3196, dL_law_3197, dL_law_3198, dL_law_3200, dL_law_3201, dL_law_3202, dL_law_3205, dL_law_3206, dL_law_3207, True.intro⟩ (by decide) I7 ho7 (h13 V1 F1 p) (fun _ => rfl) (fun h' I' => K h' V1 F1 p I')
set_option maxRecDepth 100000 in
theorem lq_59 (H : gDi Γ) (hnc : gPnc Γ) (hsa : gPa Γ .int sc L (fun j => .int (xs j))) (hL : L ≤ 2048) (hi : i + 3 < L) (I : LI Γ de h m o ad out outD V F B) {W B' : Nat} {τ : Int32} {x : Int32} {P : gHp → Prop} {Ph : (Nat → Int32) → (Nat → Nat → Int32) → Prop} {fs : List Value} (hm : h m = some (gJ 12 fs)) (C : fC Γ M_X9_failedCommand [.ref m] h W τ (.int x) (nmOf xNS xNS xNS) P) (hP : ∀ h1, P h1 → (∀ V1 F1, Ph V1 F1 → gMO Γ de h1 m V1 F1 B') ∧ gFr (kC Γ) h h1) (R : mE Γ o ad M_X10_failedCommand [] V F 2 (fun v V1 F1 => v = some (.int x) ∧ Ph V1 F1)) (ht9 : τ = 0 ∨ τ = nI 1) (h13 : ∀ V1 F1, Ph V1 F1 → V1 13 = τ) (K : ∀ h' V1 F1, Ph V1 F1 → LI Γ de h' m o ad out outD V1 F1 B' → G Γ M_L_law 32 mc ms Z ZX rc rs 3368 (L0 sc m o out outD i) [] h') : G Γ M_L_law 32 mc ms Z ZX (rc + 1000) (rs + W) 3210 (L0 sc m o out outD i) [] h := by
  refine g_aload_n dL_law_3210 rfl ?_
  refine g_aload_n dL_law_3211 rfl ?_
  obtain ⟨f, hf⟩ := I.lo
  refine g_callSH (av := [.ref m, .ref out]) (rc' := rc) (rs' := rs) kL_382 (lw_failedCommand hnc  hm C ht9 (fun h1 p => (hP h1 p).2 _ _ hf nC_lo)) dL_law_3212 rfl rfl (Nat.le_of_ble_eq_true rfl) (Nat.le_of_ble_eq_true rfl) (Nat.le_of_ble_eq_true rfl) (by omega) (by omega) rfl (fun _ _ z => z.elim) (fun v9 h5 hz => ?_)
  obtain ⟨rfl, J, ho, hod⟩ := I.wr H hf hP hz
  simp only [Option.toList_some, List.cons_append, List.nil_append]
  refine g_istore dL_law_3215 (Nat.le_of_ble_eq_true rfl) rfl ?_
  refine g_aload_n dL_law_3217 rfl ?_
  refine g_callV (av := [.ref o]) (rc' := rc) (rs' := rs) kL_384 (R h5 J.2) dL_law_3218 rfl rfl J.2.1 rfl (Nat.le_of_ble_eq_true rfl) (Nat.le_of_ble_eq_true rfl) (Nat.le_of_ble_eq_true rfl) (by omega) (by omega) rfl (fun _ _ z => z.elim) (fun v9 h7 hz => ?_)
  obtain ⟨V1, F1, ⟨rfl, p⟩, hM, hk⟩ := hz
  obtain ⟨gm, -, fr⟩ := J.md H hM hk p
  have ho7 := ho.tr fr (fun _ => nM_lo)
  have hod7 := hod.tr fr (fun _ => nM_do)
  have I7 : LI Γ de h7 m o ad out outD V1 F1 B' := ⟨gm, hM, ho7.any, hod7.any⟩
  simp only [Option.toList_some, List.cons_append, List.nil_append]
  exact lt_i H ⟨dL_law_3221, dL_law_3223, dL_law_3224, dL_law_3227, dL_law_3229, dL_law_3232, dL_law_3233, dL_law_3234, dL_law_3236, dL_law_3239, dL_law_3240, dL_law_3241, dL_law_3242, dL_law_3244, dL_law_3245, dL_law_3246, dL_law_3249, dL_law_3250, dL_law_3251, True.intro⟩ (by decide) I7 ho7 (h13 V1 F1 p) (fun _ => rfl) (fun h' I' => K h' V1 F1 p I')
set_option maxRecDepth 100000 in
theorem lq_60 (H : gDi Γ) (hnc : gPnc Γ) (hsa : gPa Γ .int sc L (fun j => .int (xs j))) (hL : L ≤ 2048) (hi : i + 3 < L) (I : LI Γ de h m o ad out outD V F B) {W B' : Nat} {x : Int32} {P : gHp → Prop} {Ph : (Nat → Int32) → (Nat → Nat → Int32) → Prop} {fs : List Value} (hm : h m = some (gJ 12 fs)) (C : fN Γ M_X9_undoableCount [.ref m] h W (.int x) P) (hP : ∀ h1, P h1 → (∀ V1 F1, Ph V1 F1 → gMO Γ de h1 m V1 F1 B') ∧ gFr (kC Γ) h h1) (R : mE Γ o ad M_X10_undoableCount [] V F 0 (fun v V1 F1 => v = some (.int x) ∧ Ph V1 F1)) (K : ∀ h' V1 F1, Ph V1 F1 → LI Γ de h' m o ad out outD V1 F1 B' → G Γ M_L_law 32 mc ms Z ZX rc rs 3368 (L0 sc m o out outD i) [] h') : G Γ M_L_law 32 mc ms Z ZX (rc + 1000) (rs + W) 3254 (L0 sc m o out outD i) [] h := by
  refine g_aload_n dL_law_3254 rfl ?_
  refine g_callV (av := [.ref m]) (rc' := rc) (rs' := rs) kL_385 C dL_law_3255 rfl rfl hm rfl (Nat.le_of_ble_eq_true rfl) (Nat.le_of_ble_eq_true rfl) (Nat.le_of_ble_eq_true rfl) (by omega) (by omega) rfl (fun _ _ z => z.elim) (fun v9 h5 hz => ?_)
  obtain ⟨rfl, p⟩ := hz
  obtain ⟨g, k⟩ := hP h5 p
  have J := I.cl g k
  obtain ⟨f, hf⟩ := I.lo
  obtain ⟨fd, hfd⟩ := I.do_
  have ho := k _ _ hf nC_lo
  have hod := k _ _ hfd nC_do
  simp only [Option.toList_some, List.cons_append, List.nil_append]
  refine g_aload_n dL_law_3258 rfl ?_
  refine g_callV (av := [.ref o]) (rc' := rc) (rs' := rs) kL_388 (R h5 J.2) dL_law_3259 rfl rfl J.2.1 rfl (Nat.le_of_ble_eq_true rfl) (Nat.le_of_ble_eq_true rfl) (Nat.le_of_ble_eq_true rfl) (by omega) (by omega) rfl (fun _ _ z => z.elim) (fun v9 h7 hz => ?_)
  obtain ⟨V1, F1, ⟨rfl, p7⟩, hM, hk⟩ := hz
  obtain ⟨gm, -, fr⟩ := J.md H hM hk p7
  have I7 : LI Γ de h7 m o ad out outD V1 F1 B' := ⟨gm, hM, ⟨f, fr _ _ ho nM_lo⟩, ⟨fd, fr _ _ hod nM_do⟩⟩
  simp only [Option.toList_some, List.cons_append, List.nil_append]
  exact g_icmp_eq (tgt := 3368) dL_law_3262 (by decide) (fun _ => g_weak (L' := L0 sc m o out outD i) ⟨rfl, rfl, rfl, rfl, rfl, rfl, True.intro⟩ (Nat.le_refl _) (Nat.le_refl _) (K h7 V1 F1 p7 I7)) (fun z => absurd rfl z)
set_option maxRecDepth 100000 in
theorem lq_61 (H : gDi Γ) (hnc : gPnc Γ) (hsa : gPa Γ .int sc L (fun j => .int (xs j))) (hL : L ≤ 2048) (hi : i + 3 < L) (I : LI Γ de h m o ad out outD V F B) {W B' : Nat} {τ : Int32} {x : Int32} {P : gHp → Prop} {Ph : (Nat → Int32) → (Nat → Nat → Int32) → Prop} {fs : List Value} (hm : h m = some (gJ 12 fs)) (C : fC Γ M_X9_undo [.ref m] h W τ (.int x) (nmOf xIS xIS xIS) P) (hP : ∀ h1, P h1 → (∀ V1 F1, Ph V1 F1 → gMO Γ de h1 m V1 F1 B') ∧ gFr (kC Γ) h h1) (R : mE Γ o ad M_X10_undo [] V F 2 (fun v V1 F1 => v = some (.int x) ∧ Ph V1 F1)) (ht9 : τ = 0 ∨ τ = nI 1) (h13 : ∀ V1 F1, Ph V1 F1 → V1 13 = τ) (K : ∀ h' V1 F1, Ph V1 F1 → LI Γ de h' m o ad out outD V1 F1 B' → G Γ M_L_law 32 mc ms Z ZX rc rs 3368 (L0 sc m o out outD i) [] h') : G Γ M_L_law 32 mc ms Z ZX (rc + 1000) (rs + W) 3267 (L0 sc m o out outD i) [] h := by
  refine g_aload_n dL_law_3267 rfl ?_
  refine g_aload_n dL_law_3268 rfl ?_
  obtain ⟨f, hf⟩ := I.lo
  refine g_callSH (av := [.ref m, .ref out]) (rc' := rc) (rs' := rs) kL_389 (lw_undo hnc  hm C ht9 (fun h1 p => (hP h1 p).2 _ _ hf nC_lo)) dL_law_3269 rfl rfl (Nat.le_of_ble_eq_true rfl) (Nat.le_of_ble_eq_true rfl) (Nat.le_of_ble_eq_true rfl) (by omega) (by omega) rfl (fun _ _ z => z.elim) (fun v9 h5 hz => ?_)
  obtain ⟨rfl, J, ho, hod⟩ := I.wr H hf hP hz
  simp only [Option.toList_some, List.cons_append, List.nil_append]
  refine g_istore dL_law_3272 (Nat.le_of_ble_eq_true rfl) rfl ?_
  refine g_aload_n dL_law_3274 rfl ?_
  refine g_callV (av := [.ref o]) (rc' := rc) (rs' := rs) kL_391 (R h5 J.2) dL_law_3275 rfl rfl J.2.1 rfl (Nat.le_of_ble_eq_true rfl) (Nat.le_of_ble_eq_true rfl) (Nat.le_of_ble_eq_true rfl) (by omega) (by omega) rfl (fun _ _ z => z.elim) (fun v9 h7 hz => ?_)
  obtain ⟨V1, F1, ⟨rfl, p⟩, hM, hk⟩ := hz
  obtain ⟨gm, -, fr⟩ := J.md H hM hk p
  have ho7 := ho.tr fr (fun _ => nM_lo)
  have hod7 := hod.tr fr (fun _ => nM_do)
  have I7 : LI Γ de h7 m o ad out outD V1 F1 B' := ⟨gm, hM, ho7.any, hod7.any⟩
  simp only [Option.toList_some, List.cons_append, List.nil_append]
  exact lt_i H ⟨dL_law_3278, dL_law_3280, dL_law_3281, dL_law_3284, dL_law_3286, dL_law_3289, dL_law_3290, dL_law_3291, dL_law_3293, dL_law_3296, dL_law_3297, dL_law_3298, dL_law_3299, dL_law_3301, dL_law_3302, dL_law_3303, dL_law_3306, dL_law_3307, dL_law_3308, True.intro⟩ (by decide) I7 ho7 (h13 V1 F1 p) (fun _ => rfl) (fun h' I' => K h' V1 F1 p I')
set_option maxRecDepth 100000 in
theorem lq_62 (H : gDi Γ) (hnc : gPnc Γ) (hsa : gPa Γ .int sc L (fun j => .int (xs j))) (hL : L ≤ 2048) (hi : i + 3 < L) (I : LI Γ de h m o ad out outD V F B) {W B' : Nat} {x : Int32} {P : gHp → Prop} {Ph : (Nat → Int32) → (Nat → Nat → Int32) → Prop} {fs : List Value} (hm : h m = some (gJ 12 fs)) (C : fN Γ M_X9_save [.ref m] h W (.int x) P) (hP : ∀ h1, P h1 → (∀ V1 F1, Ph V1 F1 → gMO Γ de h1 m V1 F1 B') ∧ gFr (kC Γ) h h1) (R : mE Γ o ad M_X10_save [] V F 1 (fun v V1 F1 => v = some (.int x) ∧ Ph V1 F1)) (K : ∀ h' V1 F1, Ph V1 F1 → LI Γ de h' m o ad out outD V1 F1 B' → G Γ M_L_law 32 mc ms Z ZX rc rs 3368 (L0 sc m o out outD i) [] h') : G Γ M_L_law 32 mc ms Z ZX (rc + 1000) (rs + W) 3311 (L0 sc m o out outD i) [] h := by
  refine g_aload_n dL_law_3311 rfl ?_
  refine g_callV (av := [.ref m]) (rc' := rc) (rs' := rs) kL_392 C dL_law_3312 rfl rfl hm rfl (Nat.le_of_ble_eq_true rfl) (Nat.le_of_ble_eq_true rfl) (Nat.le_of_ble_eq_true rfl) (by omega) (by omega) rfl (fun _ _ z => z.elim) (fun v9 h5 hz => ?_)
  obtain ⟨rfl, p⟩ := hz
  obtain ⟨g, k⟩ := hP h5 p
  have J := I.cl g k
  obtain ⟨f, hf⟩ := I.lo
  obtain ⟨fd, hfd⟩ := I.do_
  have ho := k _ _ hf nC_lo
  have hod := k _ _ hfd nC_do
  simp only [Option.toList_some, List.cons_append, List.nil_append]
  refine g_aload_n dL_law_3315 rfl ?_
  refine g_callV (av := [.ref o]) (rc' := rc) (rs' := rs) kL_395 (R h5 J.2) dL_law_3316 rfl rfl J.2.1 rfl (Nat.le_of_ble_eq_true rfl) (Nat.le_of_ble_eq_true rfl) (Nat.le_of_ble_eq_true rfl) (by omega) (by omega) rfl (fun _ _ z => z.elim) (fun v9 h7 hz => ?_)
  obtain ⟨V1, F1, ⟨rfl, p7⟩, hM, hk⟩ := hz
  obtain ⟨gm, -, fr⟩ := J.md H hM hk p7
  have I7 : LI Γ de h7 m o ad out outD V1 F1 B' := ⟨gm, hM, ⟨f, fr _ _ ho nM_lo⟩, ⟨fd, fr _ _ hod nM_do⟩⟩
  simp only [Option.toList_some, List.cons_append, List.nil_append]
  exact g_icmp_eq (tgt := 3368) dL_law_3319 (by decide) (fun _ => g_weak (L' := L0 sc m o out outD i) ⟨rfl, rfl, rfl, rfl, rfl, rfl, True.intro⟩ (Nat.le_refl _) (Nat.le_refl _) (K h7 V1 F1 p7 I7)) (fun z => absurd rfl z)
set_option maxRecDepth 100000 in
theorem lq_63 (H : gDi Γ) (hnc : gPnc Γ) (hsa : gPa Γ .int sc L (fun j => .int (xs j))) (hL : L ≤ 2048) (hi : i + 3 < L) (I : LI Γ de h m o ad out outD V F B) {W B' : Nat} {τ : Int32} {x : Int32} {P : gHp → Prop} {Ph : (Nat → Int32) → (Nat → Nat → Int32) → Prop} {fs : List Value} (hm : h m = some (gJ 12 fs)) (C : fC Γ M_X9_restore [.ref m] h W τ (.int x) (nmOf xIS xIS xIS) P) (hP : ∀ h1, P h1 → (∀ V1 F1, Ph V1 F1 → gMO Γ de h1 m V1 F1 B') ∧ gFr (kC Γ) h h1) (R : mE Γ o ad M_X10_restore [] V F 2 (fun v V1 F1 => v = some (.int x) ∧ Ph V1 F1)) (ht9 : τ = 0 ∨ τ = nI 1) (h13 : ∀ V1 F1, Ph V1 F1 → V1 13 = τ) (K : ∀ h' V1 F1, Ph V1 F1 → LI Γ de h' m o ad out outD V1 F1 B' → G Γ M_L_law 32 mc ms Z ZX rc rs 3368 (L0 sc m o out outD i) [] h') : G Γ M_L_law 32 mc ms Z ZX (rc + 1000) (rs + W) 3324 (L0 sc m o out outD i) [] h := by
  refine g_aload_n dL_law_3324 rfl ?_
  refine g_aload_n dL_law_3325 rfl ?_
  obtain ⟨f, hf⟩ := I.lo
  refine g_callSH (av := [.ref m, .ref out]) (rc' := rc) (rs' := rs) kL_396 (lw_restore hnc  hm C ht9 (fun h1 p => (hP h1 p).2 _ _ hf nC_lo)) dL_law_3326 rfl rfl (Nat.le_of_ble_eq_true rfl) (Nat.le_of_ble_eq_true rfl) (Nat.le_of_ble_eq_true rfl) (by omega) (by omega) rfl (fun _ _ z => z.elim) (fun v9 h5 hz => ?_)
  obtain ⟨rfl, J, ho, hod⟩ := I.wr H hf hP hz
  simp only [Option.toList_some, List.cons_append, List.nil_append]
  refine g_istore dL_law_3329 (Nat.le_of_ble_eq_true rfl) rfl ?_
  refine g_aload_n dL_law_3331 rfl ?_
  refine g_callV (av := [.ref o]) (rc' := rc) (rs' := rs) kL_398 (R h5 J.2) dL_law_3332 rfl rfl J.2.1 rfl (Nat.le_of_ble_eq_true rfl) (Nat.le_of_ble_eq_true rfl) (Nat.le_of_ble_eq_true rfl) (by omega) (by omega) rfl (fun _ _ z => z.elim) (fun v9 h7 hz => ?_)
  obtain ⟨V1, F1, ⟨rfl, p⟩, hM, hk⟩ := hz
  obtain ⟨gm, -, fr⟩ := J.md H hM hk p
  have ho7 := ho.tr fr (fun _ => nM_lo)
  have hod7 := hod.tr fr (fun _ => nM_do)
  have I7 : LI Γ de h7 m o ad out outD V1 F1 B' := ⟨gm, hM, ho7.any, hod7.any⟩
  simp only [Option.toList_some, List.cons_append, List.nil_append]
  exact lt_i H ⟨dL_law_3335, dL_law_3337, dL_law_3338, dL_law_3341, dL_law_3343, dL_law_3346, dL_law_3347, dL_law_3348, dL_law_3350, dL_law_3353, dL_law_3354, dL_law_3355, dL_law_3356, dL_law_3358, dL_law_3359, dL_law_3360, dL_law_3363, dL_law_3364, dL_law_3365, True.intro⟩ (by decide) I7 ho7 (h13 V1 F1 p) (fun _ => rfl) (fun h' I' => K h' V1 F1 p I')
end GLzg
