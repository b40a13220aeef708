/-! THE START: what the words of the start give -/
section GLzj
variable {s : State} {b L : Nat} {xs : Nat → Int32}
abbrev NA : List Cond := flatC (Jvm.Cond.and given_1 narrow_1)
abbrev sA (s : State) : Nat → Prop := fun q => s.heap.size ≤ q
def sK (s : State) : State → Prop := fun U => s.WarmedH U.vm ∧ s.heap.size ≤ U.heap.size ∧ ∀ q, q < s.heap.size → U.heap[q]? = s.heap[q]?
abbrev sG (l : Launch) (D : va_G) (idx : Nat → ClassId) (s : State) : gE := (l, D, idx, s.heap.size, sK s)
variable {l : Launch} {D : va_G} {idx : Nat → ClassId}
theorem sA_no : ∀ a : Nat, a < s.heap.size → ¬ sA s a := fun a h z => by unfold sA at z; omega
theorem st_z {C n d : String} {v : Value} (h : va_Z C n d v (sA s) s s.heap) : gPz (sG l D idx s) C n d v := fun U hU => (h.moved hU.1.alike).kept (fun a ha _ => hU.2.2 a ha)
theorem st_t {ty : FieldType} {a n : Nat} {f : Nat → Value} (h : va_T ty a n f (sA s) s s.heap) : gPa (sG l D idx s) ty a n f := fun U hU => (h.moved hU.1.alike).kept (fun a ha _ => hU.2.2 a ha)
theorem st_f {o n d : String} {a : Nat} {v : Value} (h : va_OF o n d v a (sA s) s s.heap) : gPf (sG l D idx s) o n d a v := fun U hU => (h.moved hU.1.alike).kept (fun a ha _ => hU.2.2 a ha)
theorem st_o {E : String} {a : Nat} (h : va_O E a (sA s) s s.heap) : gPo (sG l D idx s) E a := fun U hU => (h.moved hU.1.alike).kept (fun a ha _ => hU.2.2 a ha)
theorem st_s {own tx : String} {k a : Nat} (h : vk_R own k tx a s) : gPs (sG l D idx s) own k tx a := fun U hU => h.warm hU.1
theorem st_m {C : String} {a : Nat} (h : va_Mi C a s) : gPm (sG l D idx s) C a := fun U hU => h.moved hU.1.alike
theorem st_zq {C n d : String} (h : vx_Zq C n d (sA s) s s.heap) : ∀ U, sK s U → vx_Zq C n d (sA s) U U.heap := fun U hU => (h.moved hU.1.alike).kept (fun a ha _ => hU.2.2 a ha)
theorem st_w {w : Cond} (h1 : w.onTables = true) (h2 : w.keeps = true) {A : Array Value} (h : w.before A s = true) : ∀ U, sK s U → va_Nw w U := fun U hU => va_Nw.same h1 (rfl : (s.setVm U.vm).vm = U.vm) (Cond.onTables_warm (args' := #[]) (T := s) hU.1 h1 h2 h)
theorem st_eqR {A : Array Value} {t u : Term} {a : Nat} (h : (Cond.eq t u).before A s = true) (hu : u.eval A s none [] s = some (.ref a)) : t.eval A s none [] s = some (.ref a) := by
  cases hv : t.eval A s none [] s with
  | none => simp [Cond.before, Cond.holds, Cond.value, hv] at h
  | some w =>
    simp only [Cond.before, Cond.holds, Cond.value, hv, hu] at h
    cases w <;> simp_all
theorem st_ex {A : Array Value} {t : Term} {C : String} (h : (Cond.exactly t C).before A s = true) : ∃ a, t.eval A s none [] s = some (.ref a) := by
  obtain ⟨a, c, cA, kA, q1, -⟩ := Cond.exactly_spec (args := A) (first := s) (o := none) (s := s) (idx := []) (t := t) (cls := C) h
  exact ⟨a, q1⟩
theorem st_isR {A : Array Value} {t : Term} {ty : FieldType} (h : (Cond.arrayOf t ty).before A s = true) {n : Nat} (hn : n < 2 ^ 31) (hl : (Cond.eq (.length t) (.int (Int32.ofNat n))).before A s = true) {f : Nat → Value} (he : ∀ j, j < n → (Term.elem t (.int (Int32.ofNat j))).eval A s none [] s = some (f j)) : ∃ a, t.eval A s none [] s = some (.ref a) ∧ va_T ty a n f (sA s) s s.heap := va_Tof hn h (va_eqt hl) he sA_no
/-- a string constant's object -/
theorem st_str {A : Array Value} {own : String} {k : Nat} {ws : List Nat} (hx : (Cond.exactly (.string own k) "java/lang/String").before A s = true) (hc : (Cond.eq (.field (.string own k) "java/lang/String" "coder" "B") (.int 0)).before A s = true) (ha : (Cond.arrayOf (.field (.string own k) "java/lang/String" "value" "[B") .byte).before A s = true) (hw : ws.length < 2 ^ 31) (hl : (Cond.eq (.length (.field (.string own k) "java/lang/String" "value" "[B")) (.int (Int32.ofNat ws.length))).before A s = true) (he : ∀ j, j < ws.length → (Cond.eq (.elem (.field (.string own k) "java/lang/String" "value" "[B") (.int (Int32.ofNat j))) (.int (cf ws j))).before A s = true) (h128 : ∀ x ∈ ws, x < 128) : ∃ a, (Term.string own k).eval A s none [] s = some (.ref a) ∧ gCs (sG l D idx s) a ws := by
  obtain ⟨a, c, cA, kA, q1, q2, q3, q4, q5, q6, -⟩ := Cond.exactly_spec (args := A) (first := s) (o := none) (s := s) (idx := []) (t := .string own k) (cls := "java/lang/String") hx
  obtain ⟨t, ht, hT⟩ := va_Tof (f := fun j => .int (cf ws j)) (A := sA s) hw ha (va_eqt hl) (fun j hj => va_eqt (he j hj)) sA_no
  exact ⟨a, q1, t, st_o ⟨cA, q3, q5, by rw [q6]; exact q2, sA_no a (Array.getElem?_eq_some_iff.mp q3).1⟩, st_f (vk_OFof q1 ht sA_no), st_f (vk_OFof q1 (va_eqt hc) sA_no), st_t hT, h128⟩

theorem st_al (hN : ∀ w ∈ NA, w.before #[Value.ref b] s = true) (hts : ∀ w ∈ lw_tbl, w.before #[Value.ref b] s = true) : ∃ de mi, gPall (sG l D idx s) de mi := by
  obtain ⟨de, h1, h2⟩ := st_isR (n := 0) (f := fun _ => .null) (hN (.arrayOf (.static "java/util/ArrayList" "DEFAULTCAPACITY_EMPTY_ELEMENTDATA" "[Ljava/lang/Object;") (.object "java/lang/Object")) (List.mem_of_getElem? (i := 5) (by decide +kernel))) (by decide) (hN (.eq (.length (.static "java/util/ArrayList" "DEFAULTCAPACITY_EMPTY_ELEMENTDATA" "[Ljava/lang/Object;")) (.int 0)) (List.mem_of_getElem? (i := 7) (by decide +kernel))) (fun j hj => by omega)
  obtain ⟨mi, h3⟩ := va_Mi.of (hN (.isRef (.mirror "[Ljava/lang/Object;")) (List.mem_of_getElem? (i := 437) (by decide +kernel)))
  exact ⟨de, mi, ⟨st_z (va_Zref (hts (Jvm.Cond.laysStatic "java/util/ArrayList" "DEFAULTCAPACITY_EMPTY_ELEMENTDATA" "[Ljava/lang/Object;") (List.mem_of_getElem? (i := 146) (by decide +kernel))) (hts (.initialized "java/util/ArrayList") (List.mem_of_getElem? (i := 85) (by decide +kernel))) h1 sA_no), st_t h2⟩, fun U hU => (va_AO.of (hts (Jvm.Cond.arrayOver (Jvm.ClassFile.FieldType.object "java/lang/Object")) (List.mem_of_getElem? (i := 469) (by decide +kernel)))).moved hU.1.alike, st_m h3⟩
theorem st_dig1 : ∀ j, j < 100 → (Cond.eq (.elem (.static "java/lang/Integer" "DigitOnes" "[B") (.int (Int32.ofNat j))) (.int (nI (48 + j % 10)))) ∈ NA := fun j hj => List.mem_of_getElem? ((by decide +kernel : ∀ j, j < 100 → NA[18 + j]? = some (Cond.eq (.elem (.static "java/lang/Integer" "DigitOnes" "[B") (.int (Int32.ofNat j))) (.int (nI (48 + j % 10))))) j hj)
theorem st_dig10 : ∀ j, j < 100 → (Cond.eq (.elem (.static "java/lang/Integer" "DigitTens" "[B") (.int (Int32.ofNat j))) (.int (nI (48 + j / 10)))) ∈ NA := fun j hj => List.mem_of_getElem? ((by decide +kernel : ∀ j, j < 100 → NA[121 + j]? = some (Cond.eq (.elem (.static "java/lang/Integer" "DigitTens" "[B") (.int (Int32.ofNat j))) (.int (nI (48 + j / 10))))) j hj)
theorem st_sel (hN : ∀ w ∈ NA, w.before #[Value.ref b] s = true) (hts : ∀ w ∈ lw_tbl, w.before #[Value.ref b] s = true) : ∀ y ∈ pvy, gPsel (sG l D idx s) RJ4 y := by
  intro y hy U hU a
  have hm : (y.cls ≠ "java/lang/invoke/MethodHandle" ∧ y.cls ≠ "java/lang/invoke/VarHandle") ∧ "java/lang/AbstractStringBuilder" = y.cls ∧ Cond.privateMethod y ∈ lw_tbl ∧ Cond.instanceMethod y ∈ lw_tbl ∧ (Cond.selects RJ4 y y).onTables = true ∧ (Cond.selects RJ4 y y).keeps = true := by
    simp only [pvy, List.mem_cons, List.not_mem_nil, or_false] at hy
    rcases hy with rfl | rfl | rfl | rfl
    · exact ⟨⟨by decide +kernel, by decide +kernel⟩, by decide +kernel, List.mem_of_getElem? (i := 1322) (by decide +kernel), List.mem_of_getElem? (i := 1323) (by decide +kernel), by decide +kernel, by decide +kernel⟩
    · exact ⟨⟨by decide +kernel, by decide +kernel⟩, by decide +kernel, List.mem_of_getElem? (i := 1326) (by decide +kernel), List.mem_of_getElem? (i := 1327) (by decide +kernel), by decide +kernel, by decide +kernel⟩
    · exact ⟨⟨by decide +kernel, by decide +kernel⟩, by decide +kernel, List.mem_of_getElem? (i := 1382) (by decide +kernel), List.mem_of_getElem? (i := 1383) (by decide +kernel), by decide +kernel, by decide +kernel⟩
    · exact ⟨⟨by decide +kernel, by decide +kernel⟩, by decide +kernel, List.mem_of_getElem? (i := 1386) (by decide +kernel), List.mem_of_getElem? (i := 1387) (by decide +kernel), by decide +kernel, by decide +kernel⟩
  have hb : (Cond.selects RJ4 y y).before #[Value.ref b] s = true := g_sel_up (y0 := ({ cls := "java/lang/AbstractStringBuilder", name := "isLatin1", desc := "()Z" } : Jvm.MethodName)) hm.1 (hts (.selects RJ4 ({ cls := "java/lang/AbstractStringBuilder", name := "isLatin1", desc := "()Z" } : Jvm.MethodName) ({ cls := "java/lang/AbstractStringBuilder", name := "isLatin1", desc := "()Z" } : Jvm.MethodName)) (List.mem_of_getElem? (i := 1344) (by decide +kernel))) hm.2.1 (hts _ hm.2.2.1) (hts _ hm.2.2.2.1)
  exact (st_w hm.2.2.2.2.1 hm.2.2.2.2.2 hb U hU).use hm.2.2.2.2.1
theorem st_sb (hN : ∀ w ∈ NA, w.before #[Value.ref b] s = true) (hts : ∀ w ∈ lw_tbl, w.before #[Value.ref b] s = true) : ∃ d1 d10 vf, gPsb (sG l D idx s) d1 d10 vf := by
  obtain ⟨d1, h1, h2⟩ := st_isR (n := 100) (f := fun j => .int (nI (48 + j % 10))) (hN (.arrayOf (.static "java/lang/Integer" "DigitOnes" "[B") .byte) (List.mem_of_getElem? (i := 16) (by decide +kernel))) (by decide) (hN (.eq (.length (.static "java/lang/Integer" "DigitOnes" "[B")) (.int 100)) (List.mem_of_getElem? (i := 17) (by decide +kernel))) (fun j hj => va_eqt (hN _ (st_dig1 j hj)))
  obtain ⟨d10, h3, h4⟩ := st_isR (n := 100) (f := fun j => .int (nI (48 + j / 10))) (hN (.arrayOf (.static "java/lang/Integer" "DigitTens" "[B") .byte) (List.mem_of_getElem? (i := 119) (by decide +kernel))) (by decide) (hN (.eq (.length (.static "java/lang/Integer" "DigitTens" "[B")) (.int 100)) (List.mem_of_getElem? (i := 120) (by decide +kernel))) (fun j hj => va_eqt (hN _ (st_dig10 j hj)))
  obtain ⟨v, hv, hr⟩ := Cond.isRef_spec (hN (.isRef (.static "jdk/internal/util/Preconditions" "SIOOBE_FORMATTER" "Ljava/util/function/BiFunction;")) (List.mem_of_getElem? (i := 11) (by decide +kernel)))
  have hvr : v = .null ∨ ∃ a, v = .ref a := by
    cases v <;> first | exact Or.inl rfl | exact Or.inr ⟨_, rfl⟩ | exact Bool.noConfusion (show false = true from hr)
  exact ⟨d1, d10, v, st_z (va_Zof (hts (Jvm.Cond.laysStatic "java/lang/String" "COMPACT_STRINGS" "Z") (List.mem_of_getElem? (i := 286) (by decide +kernel))) (hts (.initialized "java/lang/String") (List.mem_of_getElem? (i := 91) (by decide +kernel))) (va_eqi (hN (.eq (.static "java/lang/String" "COMPACT_STRINGS" "Z") (.int 1)) (List.mem_of_getElem? (i := 8) (by decide +kernel)))) sA_no), st_z (va_Zref (hts (Jvm.Cond.laysStatic "java/lang/Integer" "DigitOnes" "[B") (List.mem_of_getElem? (i := 1429) (by decide +kernel))) (hts (.initialized "java/lang/Integer") (List.mem_of_getElem? (i := 113) (by decide +kernel))) h1 sA_no), st_t h2, st_z (va_Zref (hts (Jvm.Cond.laysStatic "java/lang/Integer" "DigitTens" "[B") (List.mem_of_getElem? (i := 1431) (by decide +kernel))) (hts (.initialized "java/lang/Integer") (List.mem_of_getElem? (i := 113) (by decide +kernel))) h3 sA_no), st_t h4, st_z (va_Zof (hts (Jvm.Cond.laysStatic "jdk/internal/util/Preconditions" "SIOOBE_FORMATTER" "Ljava/util/function/BiFunction;") (List.mem_of_getElem? (i := 1359) (by decide +kernel))) (hts (.initialized "jdk/internal/util/Preconditions") (List.mem_of_getElem? (i := 95) (by decide +kernel))) hv sA_no), hvr, st_sel hN hts⟩
theorem st_e53 : ∀ j, j < 2 → (Cond.eq (.elem (.field (.string "MailOffice$Letter" 53) "java/lang/String" "value" "[B") (.int (Int32.ofNat j))) (.int (cf ([32, 114]) j))) ∈ NA := fun j hj => List.mem_of_getElem? ((by decide +kernel : ∀ j, j < 2 → NA[1097 + j]? = some (Cond.eq (.elem (.field (.string "MailOffice$Letter" 53) "java/lang/String" "value" "[B") (.int (Int32.ofNat j))) (.int (cf ([32, 114]) j)))) j hj)
theorem st_e58 : ∀ j, j < 2 → (Cond.eq (.elem (.field (.string "MailOffice$Letter" 58) "java/lang/String" "value" "[B") (.int (Int32.ofNat j))) (.int (cf ([32, 42]) j))) ∈ NA := fun j hj => List.mem_of_getElem? ((by decide +kernel : ∀ j, j < 2 → NA[1103 + j]? = some (Cond.eq (.elem (.field (.string "MailOffice$Letter" 58) "java/lang/String" "value" "[B") (.int (Int32.ofNat j))) (.int (cf ([32, 42]) j)))) j hj)
theorem st_e236 : ∀ j, j < 72 → (Cond.eq (.elem (.field (.string "MailOfficeModel" 236) "java/lang/String" "value" "[B") (.int (Int32.ofNat j))) (.int (cf (kwn) j))) ∈ NA := fun j hj => List.mem_of_getElem? ((by decide +kernel : ∀ j, j < 72 → NA[1364 + j]? = some (Cond.eq (.elem (.field (.string "MailOfficeModel" 236) "java/lang/String" "value" "[B") (.int (Int32.ofNat j))) (.int (cf (kwn) j)))) j hj)
theorem st_tx (hN : ∀ w ∈ NA, w.before #[Value.ref b] s = true) (hts : ∀ w ∈ lw_tbl, w.before #[Value.ref b] s = true) : ∃ sr ss, gPtx (sG l D idx s) sr ss := by
  obtain ⟨sr, e1, h1⟩ := st_str (ws := [32, 114]) (hN (.exactly (.string "MailOffice$Letter" 53) "java/lang/String") (List.mem_of_getElem? (i := 1093) (by decide +kernel))) (hN (.eq (.field (.string "MailOffice$Letter" 53) "java/lang/String" "coder" "B") (.int 0)) (List.mem_of_getElem? (i := 1094) (by decide +kernel))) (hN (.arrayOf (.field (.string "MailOffice$Letter" 53) "java/lang/String" "value" "[B") .byte) (List.mem_of_getElem? (i := 1095) (by decide +kernel))) (by decide +kernel) (hN (.eq (.length (.field (.string "MailOffice$Letter" 53) "java/lang/String" "value" "[B")) (.int 2)) (List.mem_of_getElem? (i := 1096) (by decide +kernel))) (fun j hj => hN _ (st_e53 j (Nat.lt_of_lt_of_eq hj (by decide +kernel)))) (by decide +kernel)
  obtain ⟨ss, e2, h2⟩ := st_str (ws := [32, 42]) (hN (.exactly (.string "MailOffice$Letter" 58) "java/lang/String") (List.mem_of_getElem? (i := 1099) (by decide +kernel))) (hN (.eq (.field (.string "MailOffice$Letter" 58) "java/lang/String" "coder" "B") (.int 0)) (List.mem_of_getElem? (i := 1100) (by decide +kernel))) (hN (.arrayOf (.field (.string "MailOffice$Letter" 58) "java/lang/String" "value" "[B") .byte) (List.mem_of_getElem? (i := 1101) (by decide +kernel))) (by decide +kernel) (hN (.eq (.length (.field (.string "MailOffice$Letter" 58) "java/lang/String" "value" "[B")) (.int 2)) (List.mem_of_getElem? (i := 1102) (by decide +kernel))) (fun j hj => hN _ (st_e58 j (Nat.lt_of_lt_of_eq hj (by decide +kernel)))) (by decide +kernel)
  exact ⟨sr, ss, st_s (vk_R.of (hts (Jvm.Cond.stringRef "MailOffice$Letter" (53 : Nat) " r") (List.mem_of_getElem? (i := 1563) (by decide +kernel))) e1), h1, st_s (vk_R.of (hts (Jvm.Cond.stringRef "MailOffice$Letter" (58 : Nat) " *") (List.mem_of_getElem? (i := 1565) (by decide +kernel))) e2), h2⟩
theorem st_nm (hN : ∀ w ∈ NA, w.before #[Value.ref b] s = true) (hts : ∀ w ∈ lw_tbl, w.before #[Value.ref b] s = true) : ∃ nm, gPnm (sG l D idx s) nm := by
  obtain ⟨nm, e1, h1⟩ := st_str (ws := kwn) (hN (.exactly (.string "MailOfficeModel" 236) "java/lang/String") (List.mem_of_getElem? (i := 1360) (by decide +kernel))) (hN (.eq (.field (.string "MailOfficeModel" 236) "java/lang/String" "coder" "B") (.int 0)) (List.mem_of_getElem? (i := 1361) (by decide +kernel))) (hN (.arrayOf (.field (.string "MailOfficeModel" 236) "java/lang/String" "value" "[B") .byte) (List.mem_of_getElem? (i := 1362) (by decide +kernel))) (by decide +kernel) (hN (.eq (.length (.field (.string "MailOfficeModel" 236) "java/lang/String" "value" "[B")) (.int 72)) (List.mem_of_getElem? (i := 1363) (by decide +kernel))) (fun j hj => hN _ (st_e236 j (Nat.lt_of_lt_of_eq hj (by decide +kernel)))) (by decide +kernel)
  exact ⟨nm, st_s (vk_R.of (hts (Jvm.Cond.stringRef "MailOfficeModel" (236 : Nat) "priority standard prefix unprefix sortplace pull cutoff departure hours ") (List.mem_of_getElem? (i := 2277) (by decide +kernel))) e1), h1⟩
theorem st_xs (hN : ∀ w ∈ NA, w.before #[Value.ref b] s = true) (hts : ∀ w ∈ lw_tbl, w.before #[Value.ref b] s = true) : ∀ q ∈ gXs, ∃ sa, gPs (sG l D idx s) RX9 q.1 q.2 sa := by
  intro q hq
  simp only [gXs, List.mem_cons, List.not_mem_nil, or_false] at hq
  rcases hq with rfl | rfl | rfl | rfl | rfl | rfl | rfl | rfl | rfl | rfl | rfl | rfl | rfl | rfl | rfl | rfl | rfl | rfl | rfl | rfl | rfl | rfl | rfl | rfl | rfl | rfl
  · obtain ⟨a, e⟩ := st_ex (hN (.exactly (.string "MailOffice" 113) "java/lang/String") (List.mem_of_getElem? (i := 438) (by decide +kernel)))
    exact ⟨a, st_s (vk_R.of (hts (Jvm.Cond.stringRef "MailOffice" (113 : Nat) "an argument is out of range") (List.mem_of_getElem? (i := 593) (by decide +kernel))) e)⟩
  · obtain ⟨a, e⟩ := st_ex (hN (.exactly (.string "MailOffice" 120) "java/lang/String") (List.mem_of_getElem? (i := 469) (by decide +kernel)))
    exact ⟨a, st_s (vk_R.of (hts (Jvm.Cond.stringRef "MailOffice" (120 : Nat) "there is no such route") (List.mem_of_getElem? (i := 628) (by decide +kernel))) e)⟩
  · obtain ⟨a, e⟩ := st_ex (hN (.exactly (.string "MailOffice" 125) "java/lang/String") (List.mem_of_getElem? (i := 495) (by decide +kernel)))
    exact ⟨a, st_s (vk_R.of (hts (Jvm.Cond.stringRef "MailOffice" (125 : Nat) "there is no such letter or prefix") (List.mem_of_getElem? (i := 644) (by decide +kernel))) e)⟩
  · obtain ⟨a, e⟩ := st_ex (hN (.exactly (.string "MailOffice" 130) "java/lang/String") (List.mem_of_getElem? (i := 532) (by decide +kernel)))
    exact ⟨a, st_s (vk_R.of (hts (Jvm.Cond.stringRef "MailOffice" (130 : Nat) "the state of the office does not allow this") (List.mem_of_getElem? (i := 660) (by decide +kernel))) e)⟩
  · obtain ⟨a, e⟩ := st_ex (hN (.exactly (.string "MailOffice" 157) "java/lang/String") (List.mem_of_getElem? (i := 579) (by decide +kernel)))
    exact ⟨a, st_s (vk_R.of (hts (Jvm.Cond.stringRef "MailOffice" (157 : Nat) "there is no letter at this position") (List.mem_of_getElem? (i := 977) (by decide +kernel))) e)⟩
  · obtain ⟨a, e⟩ := st_ex (hN (.exactly (.string "MailOffice" 204) "java/lang/String") (List.mem_of_getElem? (i := 618) (by decide +kernel)))
    exact ⟨a, st_s (vk_R.of (hts (Jvm.Cond.stringRef "MailOffice" (204 : Nat) "no letter in the office has this id") (List.mem_of_getElem? (i := 991) (by decide +kernel))) e)⟩
  · obtain ⟨a, e⟩ := st_ex (hN (.exactly (.string "MailOffice" 206) "java/lang/String") (List.mem_of_getElem? (i := 657) (by decide +kernel)))
    exact ⟨a, st_s (vk_R.of (hts (Jvm.Cond.stringRef "MailOffice" (206 : Nat) "the letter is in the tray") (List.mem_of_getElem? (i := 1032) (by decide +kernel))) e)⟩
  · obtain ⟨a, e⟩ := st_ex (hN (.exactly (.string "MailOffice" 215) "java/lang/String") (List.mem_of_getElem? (i := 686) (by decide +kernel)))
    exact ⟨a, st_s (vk_R.of (hts (Jvm.Cond.stringRef "MailOffice" (215 : Nat) "the tray has no such position") (List.mem_of_getElem? (i := 1066) (by decide +kernel))) e)⟩
  · obtain ⟨a, e⟩ := st_ex (hN (.exactly (.string "MailOffice" 224) "java/lang/String") (List.mem_of_getElem? (i := 719) (by decide +kernel)))
    exact ⟨a, st_s (vk_R.of (hts (Jvm.Cond.stringRef "MailOffice" (224 : Nat) "the length or the digits are out of range") (List.mem_of_getElem? (i := 1075) (by decide +kernel))) e)⟩
  · obtain ⟨a, e⟩ := st_ex (hN (.exactly (.string "MailOffice" 262) "java/lang/String") (List.mem_of_getElem? (i := 764) (by decide +kernel)))
    exact ⟨a, st_s (vk_R.of (hts (Jvm.Cond.stringRef "MailOffice" (262 : Nat) "the code is out of range") (List.mem_of_getElem? (i := 1088) (by decide +kernel))) e)⟩
  · obtain ⟨a, e⟩ := st_ex (hN (.exactly (.string "MailOffice" 267) "java/lang/String") (List.mem_of_getElem? (i := 792) (by decide +kernel)))
    exact ⟨a, st_s (vk_R.of (hts (Jvm.Cond.stringRef "MailOffice" (267 : Nat) "the code has no route") (List.mem_of_getElem? (i := 1093) (by decide +kernel))) e)⟩
  · obtain ⟨a, e⟩ := st_ex (hN (.exactly (.string "MailOffice" 304) "java/lang/String") (List.mem_of_getElem? (i := 873) (by decide +kernel)))
    exact ⟨a, st_s (vk_R.of (hts (Jvm.Cond.stringRef "MailOffice" (304 : Nat) "the route has no bags") (List.mem_of_getElem? (i := 1235) (by decide +kernel))) e)⟩
  · obtain ⟨a, e⟩ := st_ex (hN (.exactly (.string "MailOffice" 309) "java/lang/String") (List.mem_of_getElem? (i := 898) (by decide +kernel)))
    exact ⟨a, st_s (vk_R.of (hts (Jvm.Cond.stringRef "MailOffice" (309 : Nat) "there is no such rank") (List.mem_of_getElem? (i := 1251) (by decide +kernel))) e)⟩
  · obtain ⟨a, e⟩ := st_ex (hN (.exactly (.string "MailOffice" 311) "java/lang/String") (List.mem_of_getElem? (i := 817) (by decide +kernel)))
    exact ⟨a, st_s (vk_R.of (hts (Jvm.Cond.stringRef "MailOffice" (311 : Nat) "the route has no such bag") (List.mem_of_getElem? (i := 1144) (by decide +kernel))) e)⟩
  · obtain ⟨a, e⟩ := st_ex (hN (.exactly (.string "MailOffice" 313) "java/lang/String") (List.mem_of_getElem? (i := 846) (by decide +kernel)))
    exact ⟨a, st_s (vk_R.of (hts (Jvm.Cond.stringRef "MailOffice" (313 : Nat) "the letter is missorted") (List.mem_of_getElem? (i := 1209) (by decide +kernel))) e)⟩
  · obtain ⟨a, e⟩ := st_ex (hN (.exactly (.string "MailOffice" 329) "java/lang/String") (List.mem_of_getElem? (i := 923) (by decide +kernel)))
    exact ⟨a, st_s (vk_R.of (hts (Jvm.Cond.stringRef "MailOffice" (329 : Nat) "the office has no letters") (List.mem_of_getElem? (i := 1274) (by decide +kernel))) e)⟩
  · obtain ⟨a, e⟩ := st_ex (hN (.exactly (.string "MailOffice" 338) "java/lang/String") (List.mem_of_getElem? (i := 952) (by decide +kernel)))
    exact ⟨a, st_s (vk_R.of (hts (Jvm.Cond.stringRef "MailOffice" (338 : Nat) "no letter has been accepted so far") (List.mem_of_getElem? (i := 1287) (by decide +kernel))) e)⟩
  · obtain ⟨a, e⟩ := st_ex (hN (.exactly (.string "MailOffice" 359) "java/lang/String") (List.mem_of_getElem? (i := 1105) (by decide +kernel)))
    exact ⟨a, st_s (vk_R.of (hts (Jvm.Cond.stringRef "MailOffice" (359 : Nat) "the line has no such index") (List.mem_of_getElem? (i := 1574) (by decide +kernel))) e)⟩
  · obtain ⟨a, e⟩ := st_ex (hN (.exactly (.string "MailOffice" 365) "java/lang/String") (List.mem_of_getElem? (i := 1135) (by decide +kernel)))
    exact ⟨a, st_s (vk_R.of (hts (Jvm.Cond.stringRef "MailOffice" (365 : Nat) "the character is out of range") (List.mem_of_getElem? (i := 1592) (by decide +kernel))) e)⟩
  · obtain ⟨a, e⟩ := st_ex (hN (.exactly (.string "MailOffice" 367) "java/lang/String") (List.mem_of_getElem? (i := 1168) (by decide +kernel)))
    exact ⟨a, st_s (vk_R.of (hts (Jvm.Cond.stringRef "MailOffice" (367 : Nat) "the input buffer is full") (List.mem_of_getElem? (i := 1593) (by decide +kernel))) e)⟩
  · obtain ⟨a, e⟩ := st_ex (hN (.exactly (.string "MailOffice" 380) "java/lang/String") (List.mem_of_getElem? (i := 1196) (by decide +kernel)))
    exact ⟨a, st_s (vk_R.of (hts (Jvm.Cond.stringRef "MailOffice" (380 : Nat) "the program is malformed") (List.mem_of_getElem? (i := 1701) (by decide +kernel))) e)⟩
  · obtain ⟨a, e⟩ := st_ex (hN (.exactly (.string "MailOffice" 391) "java/lang/String") (List.mem_of_getElem? (i := 1224) (by decide +kernel)))
    exact ⟨a, st_s (vk_R.of (hts (Jvm.Cond.stringRef "MailOffice" (391 : Nat) "a command failed") (List.mem_of_getElem? (i := 1725) (by decide +kernel))) e)⟩
  · obtain ⟨a, e⟩ := st_ex (hN (.exactly (.string "MailOffice" 393) "java/lang/String") (List.mem_of_getElem? (i := 1244) (by decide +kernel)))
    exact ⟨a, st_s (vk_R.of (hts (Jvm.Cond.stringRef "MailOffice" (393 : Nat) "no program was malformed so far") (List.mem_of_getElem? (i := 1733) (by decide +kernel))) e)⟩
  · obtain ⟨a, e⟩ := st_ex (hN (.exactly (.string "MailOffice" 395) "java/lang/String") (List.mem_of_getElem? (i := 1279) (by decide +kernel)))
    exact ⟨a, st_s (vk_R.of (hts (Jvm.Cond.stringRef "MailOffice" (395 : Nat) "no command failed so far") (List.mem_of_getElem? (i := 1741) (by decide +kernel))) e)⟩
  · obtain ⟨a, e⟩ := st_ex (hN (.exactly (.string "MailOffice" 397) "java/lang/String") (List.mem_of_getElem? (i := 1307) (by decide +kernel)))
    exact ⟨a, st_s (vk_R.of (hts (Jvm.Cond.stringRef "MailOffice" (397 : Nat) "no change can be undone") (List.mem_of_getElem? (i := 1749) (by decide +kernel))) e)⟩
  · obtain ⟨a, e⟩ := st_ex (hN (.exactly (.string "MailOffice" 399) "java/lang/String") (List.mem_of_getElem? (i := 1334) (by decide +kernel)))
    exact ⟨a, st_s (vk_R.of (hts (Jvm.Cond.stringRef "MailOffice" (399 : Nat) "there is no saved copy") (List.mem_of_getElem? (i := 1757) (by decide +kernel))) e)⟩
theorem st_pt (hN : ∀ w ∈ NA, w.before #[Value.ref b] s = true) (hts : ∀ w ∈ lw_tbl, w.before #[Value.ref b] s = true) : gPt (sG l D idx s) := by
  intro U hU
  exact ⟨st_zq (vx_Zqof (hts (Jvm.Cond.laysStatic "java/lang/Throwable" "UNASSIGNED_STACK" "[Ljava/lang/StackTraceElement;") (List.mem_of_getElem? (i := 575) (by decide +kernel))) (hts (.initialized "java/lang/Throwable") (List.mem_of_getElem? (i := 101) (by decide +kernel))) (hN (.isRef (.static "java/lang/Throwable" "UNASSIGNED_STACK" "[Ljava/lang/StackTraceElement;")) (List.mem_of_getElem? (i := 9) (by decide +kernel))) sA_no) U hU, st_zq (vx_Zqof (hts (Jvm.Cond.laysStatic "java/lang/Throwable" "SUPPRESSED_SENTINEL" "Ljava/util/List;") (List.mem_of_getElem? (i := 577) (by decide +kernel))) (hts (.initialized "java/lang/Throwable") (List.mem_of_getElem? (i := 101) (by decide +kernel))) (hN (.isRef (.static "java/lang/Throwable" "SUPPRESSED_SENTINEL" "Ljava/util/List;")) (List.mem_of_getElem? (i := 10) (by decide +kernel))) sA_no) U hU⟩
theorem st_nci : ∀ i, i < 5 → ∀ j, j < 5 → i ≠ j → NA[([0, 391, 408, 372, 427, 353, 0, 409, 373, 428, 354, 392, 0, 374, 429, 355, 393, 410, 0, 430, 357, 394, 412, 376, 0].getD (5 * i + j) 0)]? = some (Cond.not (.castable (xAll.getD i "") (xAll.getD j ""))) := by decide +kernel
theorem st_nc (hN : ∀ w ∈ NA, w.before #[Value.ref b] s = true) (hts : ∀ w ∈ lw_tbl, w.before #[Value.ref b] s = true) : gPnc (sG l D idx s) := by
  intro E hE T hT hne U hU
  obtain ⟨i, hi, ei⟩ := List.getElem_of_mem hE
  obtain ⟨j, hj, ej⟩ := List.getElem_of_mem hT
  have e1 : xAll.getD i "" = E := by rw [List.getD_eq_getElem?_getD, List.getElem?_eq_getElem hi, ei]; rfl
  have e2 : xAll.getD j "" = T := by rw [List.getD_eq_getElem?_getD, List.getElem?_eq_getElem hj, ej]; rfl
  have hij : i ≠ j := fun z => by
    subst z
    exact hne (e1.symm.trans e2)
  have h := List.mem_of_getElem? (st_nci i hi j hj hij)
  rw [e1, e2] at h
  exact (va_Nc.of (hN _ h)).moved hU.1.alike
def sKn : Nat → Term
  | 0 => (.static "MailOffice$Keyword" "PRIORITY" "LMailOffice$Keyword;")
  | 1 => (.static "MailOffice$Keyword" "STANDARD" "LMailOffice$Keyword;")
  | 2 => (.static "MailOffice$Keyword" "PREFIX" "LMailOffice$Keyword;")
  | 3 => (.static "MailOffice$Keyword" "UNPREFIX" "LMailOffice$Keyword;")
  | 4 => (.static "MailOffice$Keyword" "SORT" "LMailOffice$Keyword;")
  | 5 => (.static "MailOffice$Keyword" "PLACE" "LMailOffice$Keyword;")
  | 6 => (.static "MailOffice$Keyword" "PULL" "LMailOffice$Keyword;")
  | 7 => (.static "MailOffice$Keyword" "CUTOFF" "LMailOffice$Keyword;")
  | 8 => (.static "MailOffice$Keyword" "DEPARTURE" "LMailOffice$Keyword;")
  | _ => (.static "MailOffice$Keyword" "HOURS" "LMailOffice$Keyword;")
def sKs : Nat → Nat
  | 0 => 65
  | 1 => 71
  | 2 => 74
  | 3 => 77
  | 4 => 80
  | 5 => 83
  | 6 => 86
  | 7 => 89
  | 8 => 92
  | _ => 95
theorem st_k1a : ∀ w, w < 10 → Cond.exactly (sKn w) "MailOffice$Keyword" ∈ NA := fun w hw => List.mem_of_getElem? ((by decide +kernel : ∀ w, w < 10 → NA[([254, 260, 267, 275, 236, 284, 294, 305, 317, 330].getD w 0)]? = some (Cond.exactly (sKn w) "MailOffice$Keyword")) w hw)
theorem st_k1b : ∀ w, w < 10 → Cond.eq (.field (sKn w) "java/lang/Enum" "ordinal" "I") (.int (nI w)) ∈ NA := fun w hw => List.mem_of_getElem? ((by decide +kernel : ∀ w, w < 10 → NA[([255, 261, 268, 276, 237, 285, 295, 306, 318, 331].getD w 0)]? = some (Cond.eq (.field (sKn w) "java/lang/Enum" "ordinal" "I") (.int (nI w)))) w hw)
theorem st_k1c : ∀ w, w < 10 → Cond.eq (.field (sKn w) "MailOffice$Keyword" "text" "Ljava/lang/String;") (.string "MailOffice$Keyword" (sKs w)) ∈ NA := fun w hw => List.mem_of_getElem? ((by decide +kernel : ∀ w, w < 10 → NA[([256, 262, 269, 277, 238, 286, 296, 307, 319, 332].getD w 0)]? = some (Cond.eq (.field (sKn w) "MailOffice$Keyword" "text" "Ljava/lang/String;") (.string "MailOffice$Keyword" (sKs w)))) w hw)
theorem st_k1d : ∀ w, w < 10 → Cond.eq (.field (sKn w) "MailOffice$Keyword" "firstDigits" "I") (.int (nI (kd1 w))) ∈ NA := fun w hw => List.mem_of_getElem? ((by decide +kernel : ∀ w, w < 10 → NA[([257, 263, 270, 278, 239, 287, 297, 308, 320, 333].getD w 0)]? = some (Cond.eq (.field (sKn w) "MailOffice$Keyword" "firstDigits" "I") (.int (nI (kd1 w))))) w hw)
theorem st_k1e : ∀ w, w < 10 → Cond.eq (.field (sKn w) "MailOffice$Keyword" "secondDigits" "I") (.int (nI (kd2 w))) ∈ NA := fun w hw => List.mem_of_getElem? ((by decide +kernel : ∀ w, w < 10 → NA[([258, 264, 271, 279, 240, 288, 298, 309, 321, 334].getD w 0)]? = some (Cond.eq (.field (sKn w) "MailOffice$Keyword" "secondDigits" "I") (.int (nI (kd2 w))))) w hw)
theorem st_k1f : ∀ w, w < 10 → Cond.eq (.elem (.static "MailOffice" "KEYWORDS" "[LMailOffice$Keyword;") (.int (Int32.ofNat w))) (sKn w) ∈ NA := fun w hw => List.mem_of_getElem? ((by decide +kernel : ∀ w, w < 10 → NA[([226, 227, 228, 229, 230, 231, 232, 233, 234, 235].getD w 0)]? = some (Cond.eq (.elem (.static "MailOffice" "KEYWORDS" "[LMailOffice$Keyword;") (.int (Int32.ofNat w))) (sKn w))) w hw)
theorem st_k1 : ∀ w, w < 10 → Cond.exactly (sKn w) "MailOffice$Keyword" ∈ NA ∧ Cond.eq (.field (sKn w) "java/lang/Enum" "ordinal" "I") (.int (nI w)) ∈ NA ∧ Cond.eq (.field (sKn w) "MailOffice$Keyword" "text" "Ljava/lang/String;") (.string "MailOffice$Keyword" (sKs w)) ∈ NA ∧ Cond.eq (.field (sKn w) "MailOffice$Keyword" "firstDigits" "I") (.int (nI (kd1 w))) ∈ NA ∧ Cond.eq (.field (sKn w) "MailOffice$Keyword" "secondDigits" "I") (.int (nI (kd2 w))) ∈ NA ∧ Cond.eq (.elem (.static "MailOffice" "KEYWORDS" "[LMailOffice$Keyword;") (.int (Int32.ofNat w))) (sKn w) ∈ NA := fun w hw => ⟨st_k1a w hw, st_k1b w hw, st_k1c w hw, st_k1d w hw, st_k1e w hw, st_k1f w hw⟩
theorem st_k2i : ∀ w, w < 10 → ∀ u, u < 10 → w ≠ u → (NA[([0, 266, 273, 281, 259, 290, 300, 311, 323, 336, 266, 0, 274, 282, 265, 291, 301, 312, 324, 337, 273, 274, 0, 283, 272, 292, 302, 313, 325, 338, 281, 282, 283, 0, 280, 293, 303, 314, 326, 339, 259, 265, 272, 280, 0, 289, 299, 310, 322, 335, 290, 291, 292, 293, 289, 0, 304, 315, 327, 340, 300, 301, 302, 303, 299, 304, 0, 316, 328, 341, 311, 312, 313, 314, 310, 315, 316, 0, 329, 342, 323, 324, 325, 326, 322, 327, 328, 329, 0, 343, 336, 337, 338, 339, 335, 340, 341, 342, 343, 0].getD (10 * w + u) 0)]? = some (Cond.not (.eq (sKn w) (sKn u))) ∨ NA[([0, 266, 273, 281, 259, 290, 300, 311, 323, 336, 266, 0, 274, 282, 265, 291, 301, 312, 324, 337, 273, 274, 0, 283, 272, 292, 302, 313, 325, 338, 281, 282, 283, 0, 280, 293, 303, 314, 326, 339, 259, 265, 272, 280, 0, 289, 299, 310, 322, 335, 290, 291, 292, 293, 289, 0, 304, 315, 327, 340, 300, 301, 302, 303, 299, 304, 0, 316, 328, 341, 311, 312, 313, 314, 310, 315, 316, 0, 329, 342, 323, 324, 325, 326, 322, 327, 328, 329, 0, 343, 336, 337, 338, 339, 335, 340, 341, 342, 343, 0].getD (10 * w + u) 0)]? = some (Cond.not (.eq (sKn u) (sKn w)))) := by decide +kernel
theorem st_k2 : ∀ w, w < 10 → ∀ u, u < 10 → w ≠ u → Cond.not (.eq (sKn w) (sKn u)) ∈ NA ∨ Cond.not (.eq (sKn u) (sKn w)) ∈ NA := fun w hw u hu h => (st_k2i w hw u hu h).imp List.mem_of_getElem? List.mem_of_getElem?
theorem st_k3a : ∀ w, w < 10 → Cond.exactly (.string "MailOffice$Keyword" (sKs w)) "java/lang/String" ∈ NA := fun w hw => List.mem_of_getElem? ((by decide +kernel : ∀ w, w < 10 → NA[([1444, 1457, 1470, 1481, 1436, 1494, 1504, 1513, 1524, 1538].getD w 0)]? = some (Cond.exactly (.string "MailOffice$Keyword" (sKs w)) "java/lang/String")) w hw)
theorem st_k3b : ∀ w, w < 10 → Cond.eq (.field (.string "MailOffice$Keyword" (sKs w)) "java/lang/String" "coder" "B") (.int 0) ∈ NA := fun w hw => List.mem_of_getElem? ((by decide +kernel : ∀ w, w < 10 → NA[([1445, 1458, 1471, 1482, 1437, 1495, 1505, 1514, 1525, 1539].getD w 0)]? = some (Cond.eq (.field (.string "MailOffice$Keyword" (sKs w)) "java/lang/String" "coder" "B") (.int 0))) w hw)
theorem st_k3c : ∀ w, w < 10 → Cond.arrayOf (.field (.string "MailOffice$Keyword" (sKs w)) "java/lang/String" "value" "[B") .byte ∈ NA := fun w hw => List.mem_of_getElem? ((by decide +kernel : ∀ w, w < 10 → NA[([1446, 1459, 1472, 1483, 1438, 1496, 1506, 1515, 1526, 1540].getD w 0)]? = some (Cond.arrayOf (.field (.string "MailOffice$Keyword" (sKs w)) "java/lang/String" "value" "[B") .byte)) w hw)
theorem st_k3d : ∀ w, w < 10 → Cond.eq (.length (.field (.string "MailOffice$Keyword" (sKs w)) "java/lang/String" "value" "[B")) (.int (Int32.ofNat (kw w).length)) ∈ NA := fun w hw => List.mem_of_getElem? ((by decide +kernel : ∀ w, w < 10 → NA[([1447, 1460, 1473, 1484, 1439, 1497, 1507, 1516, 1527, 1541].getD w 0)]? = some (Cond.eq (.length (.field (.string "MailOffice$Keyword" (sKs w)) "java/lang/String" "value" "[B")) (.int (Int32.ofNat (kw w).length)))) w hw)
theorem st_k3e : ∀ w, w < 10 → ∀ j, j < (kw w).length → NA[([1448, 1461, 1474, 1485, 1440, 1498, 1508, 1517, 1528, 1542].getD w 0) + j]? = some (Cond.eq (.elem (.field (.string "MailOffice$Keyword" (sKs w)) "java/lang/String" "value" "[B") (.int (Int32.ofNat j))) (.int (cf (kw w) j))) := by decide +kernel
theorem st_k3 : ∀ w, w < 10 → Cond.exactly (.string "MailOffice$Keyword" (sKs w)) "java/lang/String" ∈ NA ∧ Cond.eq (.field (.string "MailOffice$Keyword" (sKs w)) "java/lang/String" "coder" "B") (.int 0) ∈ NA ∧ Cond.arrayOf (.field (.string "MailOffice$Keyword" (sKs w)) "java/lang/String" "value" "[B") .byte ∈ NA ∧ Cond.eq (.length (.field (.string "MailOffice$Keyword" (sKs w)) "java/lang/String" "value" "[B")) (.int (Int32.ofNat (kw w).length)) ∈ NA ∧ ∀ j, j < (kw w).length → Cond.eq (.elem (.field (.string "MailOffice$Keyword" (sKs w)) "java/lang/String" "value" "[B") (.int (Int32.ofNat j))) (.int (cf (kw w) j)) ∈ NA := fun w hw => ⟨st_k3a w hw, st_k3b w hw, st_k3c w hw, st_k3d w hw, fun j hj => List.mem_of_getElem? (st_k3e w hw j hj)⟩
theorem st_k4 : ∀ j, j < 10 → (Cond.eq (.elem (.static "MailOffice$1" "$SwitchMap$MailOffice$Keyword" "[I") (.int (Int32.ofNat j))) (.int (nI (j + 1)))) ∈ NA := fun j hj => List.mem_of_getElem? ((by decide +kernel : ∀ j, j < 10 → NA[244 + j]? = some (Cond.eq (.elem (.static "MailOffice$1" "$SwitchMap$MailOffice$Keyword" "[I") (.int (Int32.ofNat j))) (.int (nI (j + 1))))) j hj)
theorem st_kw (hN : ∀ w ∈ NA, w.before #[Value.ref b] s = true) (hts : ∀ w ∈ lw_tbl, w.before #[Value.ref b] s = true) : ∃ (ka sm : Nat) (ks kss : Nat → Nat), gPkw (sG l D idx s) ka ks kss ∧ gPsw (sG l D idx s) sm ks := by
  have h0 : ∀ w : Nat, ∃ q : Nat × Nat, w < 10 → (sKn w).eval #[Value.ref b] s none [] s = some (.ref q.1) ∧ gPo (sG l D idx s) RX2 q.1 ∧ gPf (sG l D idx s) RX2 "text" "Ljava/lang/String;" q.1 (.ref q.2) ∧ gCs (sG l D idx s) q.2 (kw w) := by
    intro w
    by_cases hw : w < 10
    · obtain ⟨k1, k2, k3, k4, k5, k6⟩ := st_k1 w hw
      obtain ⟨m1, m2, m3, m4, m5⟩ := st_k3 w hw
      obtain ⟨sa, e1, h1⟩ := st_str (l := l) (D := D) (idx := idx) (ws := kw w) (hN _ m1) (hN _ m2) (hN _ m3) (by have := kw_len w hw; omega) (hN _ m4) (fun j hj => hN _ (m5 j hj)) (kw_128 w hw)
      obtain ⟨a, c, cA, kA, q1, q2, q3, q4, q5, q6, -⟩ := Cond.exactly_spec (args := #[Value.ref b]) (first := s) (o := none) (s := s) (idx := []) (t := sKn w) (cls := "MailOffice$Keyword") (hN _ k1)
      exact ⟨(a, sa), fun _ => ⟨q1, st_o ⟨cA, q3, q5, by rw [q6]; exact q2, sA_no a (Array.getElem?_eq_some_iff.mp q3).1⟩, st_f (vk_OFof q1 (st_eqR (hN _ k3) e1) sA_no), h1⟩⟩
    · exact ⟨(0, 0), fun h => absurd h hw⟩
  obtain ⟨ad, had⟩ := Classical.axiomOfChoice h0
  obtain ⟨ka, e1, h1⟩ := st_isR (n := 10) (f := fun i => .ref (ad i).1) (hN (.arrayOf (.static "MailOffice" "KEYWORDS" "[LMailOffice$Keyword;") (.object "MailOffice$Keyword")) (List.mem_of_getElem? (i := 223) (by decide +kernel))) (by decide) (hN (.eq (.length (.static "MailOffice" "KEYWORDS" "[LMailOffice$Keyword;")) (.int 10)) (List.mem_of_getElem? (i := 224) (by decide +kernel))) (fun j hj => st_eqR (hN _ (st_k1 j hj).2.2.2.2.2) (had j hj).1)
  obtain ⟨sm, e2, h2⟩ := st_isR (n := 10) (f := fun i => .int (nI (i + 1))) (hN (.arrayOf (.static "MailOffice$1" "$SwitchMap$MailOffice$Keyword" "[I") .int) (List.mem_of_getElem? (i := 242) (by decide +kernel))) (by decide) (hN (.eq (.length (.static "MailOffice$1" "$SwitchMap$MailOffice$Keyword" "[I")) (.int 10)) (List.mem_of_getElem? (i := 243) (by decide +kernel))) (fun j hj => va_eqt (hN _ (st_k4 j hj)))
  refine ⟨ka, sm, fun w => (ad w).1, fun w => (ad w).2, ⟨st_z (va_Zref (hts (Jvm.Cond.laysStatic "MailOffice" "KEYWORDS" "[LMailOffice$Keyword;") (List.mem_of_getElem? (i := 1637) (by decide +kernel))) (hts (.initialized "MailOffice") (List.mem_of_getElem? (i := 81) (by decide +kernel))) e1 sA_no), st_t h1, st_z (va_Zref (hts (Jvm.Cond.laysStatic "MailOffice$Keyword" "SORT" "LMailOffice$Keyword;") (List.mem_of_getElem? (i := 1668) (by decide +kernel))) (hts (.initialized "MailOffice$Keyword") (List.mem_of_getElem? (i := 116) (by decide +kernel))) (had 4 (by omega)).1 sA_no), fun w hw => ⟨(had w hw).2.2.1, (had w hw).2.2.2, st_f (vk_OFof (had w hw).1 (va_eqt (hN _ (st_k1 w hw).2.2.2.1)) sA_no), st_f (vk_OFof (had w hw).1 (va_eqt (hN _ (st_k1 w hw).2.2.2.2.1)) sA_no)⟩, fun w u hw hu e => ?_⟩, st_z (va_Zref (hts (Jvm.Cond.laysStatic "MailOffice$1" "$SwitchMap$MailOffice$Keyword" "[I") (List.mem_of_getElem? (i := 1708) (by decide +kernel))) (hts (.initialized "MailOffice$1") (List.mem_of_getElem? (i := 118) (by decide +kernel))) e2 sA_no), st_t h2, fun w hw => ⟨(had w hw).2.1, st_f (vk_OFof (had w hw).1 (va_eqt (hN _ (st_k1 w hw).2.1)) sA_no)⟩⟩
  by_cases hwu : w = u
  · exact hwu
  · rcases st_k2 w hw u hu hwu with z | z
    · exact absurd e (va_neR (hN _ z) (had w hw).1 (had u hu).1)
    · exact absurd e.symm (va_neR (hN _ z) (had u hu).1 (had w hw).1)
theorem st_arr {ty : FieldType} (hno : ∀ C, ty ≠ .object C) (h : (Cond.arrayClass ty).before #[Value.ref b] s = true) : ∃ c, ArrOfT s c ty ∧ va_RA s c ty := by
  obtain ⟨c, k, comp, h1, h2, h3⟩ := Cond.arrayClass_spec h
  refine ⟨c, fun n z => ⟨fun k h => (by cases h), k, h2, comp, h3⟩, ?_⟩
  cases ty <;> first | exact absurd rfl (hno _) | exact h1
theorem st_cls (hts : ∀ w ∈ lw_tbl, w.before #[Value.ref b] s = true) : ∃ D1 : va_G, ∀ (c : Nat) (q : vw_C), vwCl[c]? = some q → u_Kn s q.1 q.2.1 q.2.2 (D1.1 c) (D1.2 c) := by
  have h0 : ∀ c : Nat, ∃ r : ClassId × (Nat → Nat), ∀ q : vw_C, vwCl[c]? = some q → u_Kn s q.1 q.2.1 q.2.2 r.1 r.2 := by
    intro c
    match c with
    | 0 => obtain ⟨a, f, h⟩ := u_known (C := RJ0) (T := TJ0) (N := 4) (n := 4) hts inJ0 (hts _ (List.mem_of_getElem? (i := 850) (by decide +kernel))); exact ⟨(a, f), fun q hq => by cases hq; exact h⟩
    | 1 => obtain ⟨a, f, h⟩ := u_known (C := RJ4) (T := TJ4) (N := 4) (n := 4) hts inJ4 (hts _ (List.mem_of_getElem? (i := 277) (by decide +kernel))); exact ⟨(a, f), fun q hq => by cases hq; exact h⟩
    | 2 => obtain ⟨a, f, h⟩ := u_known (C := RJx00060) (T := TJx00060) (N := 6) (n := 6) hts inJx00060 (hts _ (List.mem_of_getElem? (i := 835) (by decide +kernel))); exact ⟨(a, f), fun q hq => by cases hq; exact h⟩
    | 3 => obtain ⟨a, f, h⟩ := u_known (C := RJx7c733) (T := TJx7c733) (N := 6) (n := 6) hts inJx7c733 (hts _ (List.mem_of_getElem? (i := 1303) (by decide +kernel))); exact ⟨(a, f), fun q hq => by cases hq; exact h⟩
    | 4 => obtain ⟨a, f, h⟩ := u_known (C := RJx4a65c) (T := TJx4a65c) (N := 3) (n := 3) hts inJx4a65c (hts _ (List.mem_of_getElem? (i := 134) (by decide +kernel))); exact ⟨(a, f), fun q hq => by cases hq; exact h⟩
    | 5 => obtain ⟨a, f, h⟩ := u_known (C := RX1) (T := TX1) (N := 4) (n := 4) hts inX1 (hts _ (List.mem_of_getElem? (i := 1682) (by decide +kernel))); exact ⟨(a, f), fun q hq => by cases hq; exact h⟩
    | 6 => obtain ⟨a, f, h⟩ := u_known (C := RX3) (T := TX3) (N := 7) (n := 7) hts inX3 (hts _ (List.mem_of_getElem? (i := 372) (by decide +kernel))); exact ⟨(a, f), fun q hq => by cases hq; exact h⟩
    | 7 => obtain ⟨a, f, h⟩ := u_known (C := RX4) (T := TX4) (N := 11) (n := 11) hts inX4 (hts _ (List.mem_of_getElem? (i := 128) (by decide +kernel))); exact ⟨(a, f), fun q hq => by cases hq; exact h⟩
    | 8 => obtain ⟨a, f, h⟩ := u_known (C := RX5) (T := TX5) (N := 4) (n := 4) hts inX5 (hts _ (List.mem_of_getElem? (i := 1602) (by decide +kernel))); exact ⟨(a, f), fun q hq => by cases hq; exact h⟩
    | 9 => obtain ⟨a, f, h⟩ := u_known (C := RX6) (T := TX6) (N := 5) (n := 5) hts inX6 (hts _ (List.mem_of_getElem? (i := 168) (by decide +kernel))); exact ⟨(a, f), fun q hq => by cases hq; exact h⟩
    | 10 => obtain ⟨a, f, h⟩ := u_known (C := RX7) (T := TX7) (N := 3) (n := 3) hts inX7 (hts _ (List.mem_of_getElem? (i := 261) (by decide +kernel))); exact ⟨(a, f), fun q hq => by cases hq; exact h⟩
    | 11 => obtain ⟨a, f, h⟩ := u_known (C := RX8) (T := TX8) (N := 2) (n := 2) hts inX8 (hts _ (List.mem_of_getElem? (i := 160) (by decide +kernel))); exact ⟨(a, f), fun q hq => by cases hq; exact h⟩
    | 12 => obtain ⟨a, f, h⟩ := u_known (C := RX9) (T := TX9) (N := 9) (n := 9) hts inX9 (hts _ (List.mem_of_getElem? (i := 120) (by decide +kernel))); exact ⟨(a, f), fun q hq => by cases hq; exact h⟩
    | 13 => obtain ⟨a, f, h⟩ := u_known (C := RX10) (T := TX10) (N := 20) (n := 20) hts inX10 (hts _ (List.mem_of_getElem? (i := 1763) (by decide +kernel))); exact ⟨(a, f), fun q hq => by cases hq; exact h⟩
    | c + 14 => exact ⟨(default, fun _ => 0), fun q hq => by simp [vwCl] at hq⟩
  obtain ⟨f, hf⟩ := Classical.axiomOfChoice h0
  exact ⟨(fun c => (f c).1, fun c => (f c).2), fun c q hq => hf c q hq⟩
theorem st_arrs (hts : ∀ w ∈ lw_tbl, w.before #[Value.ref b] s = true) : ∃ (ix : Nat → ClassId), ∀ (k : Nat) (q : ClassId × FieldType), ([(ix 0, .int), (ix 1, .byte), (ix 2, .char), (ix 3, .long), (ix 4, .double), (ix 5, .object "java/lang/Object")] : List (ClassId × FieldType))[k]? = some q → ArrOfT s q.1 q.2 ∧ va_RA s q.1 q.2 := by
  obtain ⟨c0, h0⟩ := st_arr (b := b) (s := s) (ty := .int) (fun C z => by cases z) (hts (Jvm.Cond.arrayClass Jvm.ClassFile.FieldType.int) (List.mem_of_getElem? (i := 257) (by decide +kernel)))
  obtain ⟨c1, h1⟩ := st_arr (b := b) (s := s) (ty := .byte) (fun C z => by cases z) (hts (Jvm.Cond.arrayClass Jvm.ClassFile.FieldType.byte) (List.mem_of_getElem? (i := 309) (by decide +kernel)))
  obtain ⟨c2, h2⟩ := st_arr (b := b) (s := s) (ty := .char) (fun C z => by cases z) (hts (Jvm.Cond.arrayClass Jvm.ClassFile.FieldType.char) (List.mem_of_getElem? (i := 308) (by decide +kernel)))
  obtain ⟨c3, h3⟩ := st_arr (b := b) (s := s) (ty := .long) (fun C z => by cases z) (hts (Jvm.Cond.arrayClass Jvm.ClassFile.FieldType.long) (List.mem_of_getElem? (i := 2307) (by decide +kernel)))
  obtain ⟨c4, h4⟩ := st_arr (b := b) (s := s) (ty := .double) (fun C z => by cases z) (hts (Jvm.Cond.arrayClass Jvm.ClassFile.FieldType.double) (List.mem_of_getElem? (i := 2308) (by decide +kernel)))
  obtain ⟨comp, c5, k5, y1, y2, y3, y4, y5⟩ := Cond.arrayOver_spec (hts (Jvm.Cond.arrayOver (Jvm.ClassFile.FieldType.object "java/lang/Object")) (List.mem_of_getElem? (i := 469) (by decide +kernel)))
  have h5 : ArrOfT s c5 (.object "java/lang/Object") ∧ va_RA s c5 (.object "java/lang/Object") := ⟨fun n z => ⟨fun k h => (by cases h), k5, y3, comp, y4⟩, k5, comp, y3, y4, y1, y5⟩
  refine ⟨fun k => if k = 0 then c0 else if k = 1 then c1 else if k = 2 then c2 else if k = 3 then c3 else if k = 4 then c4 else c5, ?_⟩
  intro k q hq
  match k, hq with
  | 0, hq => cases hq; exact h0
  | 1, hq => cases hq; exact h1
  | 2, hq => cases hq; exact h2
  | 3, hq => cases hq; exact h3
  | 4, hq => cases hq; exact h4
  | 5, hq => cases hq; exact h5
  | k + 6, hq => simp at hq
theorem st_all (hN : ∀ w ∈ NA, w.before #[Value.ref b] s = true) (hts : ∀ w ∈ lw_tbl, w.before #[Value.ref b] s = true) (hl : l.stackTraces = false) (hX : va_X b L xs s s.heap) (hb : b < s.heap.size) (hL : L ≤ 2048) : ∃ (D : va_G) (idx : Nat → ClassId) (de mi d1 d10 : Nat) (vf : Value) (sr ss nm ka sm : Nat) (ks kss : Nat → Nat), gOk (sG l D idx s) ∧ gHs (sG l D idx s) de mi d1 d10 vf sr ss nm ka sm ks kss ∧ gPa (sG l D idx s) .int b L (fun j => .int (xs j)) := by
  obtain ⟨D, hD⟩ := st_cls hts
  obtain ⟨idx, hidx⟩ := st_arrs hts
  have hK : va_K D vwCl (gTys (sG l D idx s)) s := ⟨hD, hidx⟩
  obtain ⟨de, mi, a1⟩ := st_al (l := l) (D := D) (idx := idx) hN hts
  obtain ⟨d1, d10, vf, a2⟩ := st_sb (l := l) (D := D) (idx := idx) hN hts
  obtain ⟨sr, ss, a3⟩ := st_tx (l := l) (D := D) (idx := idx) hN hts
  obtain ⟨nm, a4⟩ := st_nm (l := l) (D := D) (idx := idx) hN hts
  obtain ⟨ka, sm, ks, kss, a5, a6⟩ := st_kw (l := l) (D := D) (idx := idx) hN hts
  refine ⟨D, idx, de, mi, d1, d10, vf, sr, ss, nm, ka, sm, ks, kss, ⟨hl, fun U hU => ⟨va_K.moved hU.1.alike hK, fun w hw => ?_⟩, fun u U hW hu hs hq hK9 => ⟨hK9.1.trans hW, Nat.le_trans hK9.2.1 hs, fun q hq9 => (hq q hq9).trans (hK9.2.2 q hq9)⟩⟩, ⟨?_, a1, ⟨st_pt hN hts, st_xs hN hts⟩, a2, a3, a4, a5, a6, st_nc hN hts⟩, ?_⟩
  · have hm := List.mem_filter.mp hw
    have hb9 := hts w hm.1
    refine gFar_warm hm.2 hU.1 (va_Nw.of ?_ hb9)
    have := hm.2
    cases w <;> first | rfl | (simp [gFar] at this; done)
  · intro e
    have h2 := hidx 2 (idx 2, .char) rfl
    have h0 := hidx 0 (idx 0, .int) rfl
    have e2 : idx 2 = idx 0 := e
    obtain ⟨-, k, y1, c, y2⟩ := h2.1 0 (fun _ => .null)
    obtain ⟨-, k9, z1, c9, z2⟩ := h0.1 0 (fun _ => .null)
    have y1 : s.vm.classes[idx 2]? = some k := y1
    have z1 : s.vm.classes[idx 0]? = some k9 := z1
    rw [e2, z1] at y1
    cases y1
    rw [z2] at y2
    cases y2
  · obtain ⟨cell, x1, x2, x3, x4, x5⟩ := hX
    exact st_t ⟨cell, x1, x2, x3, by omega, by rw [x4], x5, sA_no b hb⟩
end GLzj
