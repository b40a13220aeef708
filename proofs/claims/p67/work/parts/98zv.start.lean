/-! THE START: what the words of the start give -/
section GLzj
variable {s : State} {b L : Nat} {xs : Nat → Int32}
abbrev NA : List Cond := flatC (Jvm.Cond.and given_1 narrow_1)
abbrev sA (s : State) : Nat → Prop := fun q => s.heap.size ≤ q
def sK (s : State) : State → Prop := fun U => s.WarmedH U.vm ∧ s.heap.size ≤ U.heap.size ∧ ∀ q, q < s.heap.size → U.heap[q]? = s.heap[q]?
abbrev sG (l : Launch) (D : va_G) (idx : Nat → ClassId) (s : State) : gE := (l, D, idx, s.heap.size, sK s)
variable {l : Launch} {D : va_G} {idx : Nat → ClassId}
theorem sA_no : ∀ a : Nat, a < s.heap.size → ¬ sA s a := fun a h z => by unfold sA at z; omega
theorem st_z {C n d : String} {v : Value} (h : va_Z C n d v (sA s) s s.heap) : gPz (sG l D idx s) C n d v := fun U hU => (h.moved hU.1.alike).kept (fun a ha _ => hU.2.2 a ha)
theorem st_t {ty : FieldType} {a n : Nat} {f : Nat → Value} (h : va_T ty a n f (sA s) s s.heap) : gPa (sG l D idx s) ty a n f := fun U hU => (h.moved hU.1.alike).kept (fun a ha _ => hU.2.2 a ha)
theorem st_f {o n d : String} {a : Nat} {v : Value} (h : va_OF o n d v a (sA s) s s.heap) : gPf (sG l D idx s) o n d a v := fun U hU => (h.moved hU.1.alike).kept (fun a ha _ => hU.2.2 a ha)
theorem st_o {E : String} {a : Nat} (h : va_O E a (sA s) s s.heap) : gPo (sG l D idx s) E a := fun U hU => (h.moved hU.1.alike).kept (fun a ha _ => hU.2.2 a ha)
theorem st_s {own tx : String} {k a : Nat} (h : vk_R own k tx a s) : gPs (sG l D idx s) own k tx a := fun U hU => h.warm hU.1
theorem st_m {C : String} {a : Nat} (h : va_Mi C a s) : gPm (sG l D idx s) C a := fun U hU => h.moved hU.1.alike
theorem st_zq {C n d : String} (h : vx_Zq C n d (sA s) s s.heap) : ∀ U, sK s U → vx_Zq C n d (sA s) U U.heap := fun U hU => (h.moved hU.1.alike).kept (fun a ha _ => hU.2.2 a ha)
theorem st_w {w : Cond} (h1 : w.onTables = true) (h2 : w.keeps = true) {A : Array Value} (h : w.before A s = true) : ∀ U, sK s U → va_Nw w U := fun U hU => va_Nw.same h1 (rfl : (s.setVm U.vm).vm = U.vm) (Cond.onTables_warm (args' := #[]) (T := s) hU.1 h1 h2 h)
theorem st_eqR {A : Array Value} {t u : Term} {a : Nat} (h : (Cond.eq t u).before A s = true) (hu : u.eval A s none [] s = some (.ref a)) : t.eval A s none [] s = some (.ref a) := by
  cases hv : t.eval A s none [] s with
  | none => simp [Cond.before, Cond.holds, Cond.value, hv] at h
  | some w =>
    simp only [Cond.before, Cond.holds, Cond.value, hv, hu] at h
    cases w <;> simp_all
theorem st_ex {A : Array Value} {t : Term} {C : String} (h : (Cond.exactly t C).before A s = true) : ∃ a, t.eval A s none [] s = some (.ref a) := by
  obtain ⟨a, c, cA, kA, q1, -⟩ := Cond.exactly_spec (args := A) (first := s) (o := none) (s := s) (idx := []) (t := t) (cls := C) h
  exact ⟨a, q1⟩
theorem st_isR {A : Array Value} {t : Term} {ty : FieldType} (h : (Cond.arrayOf t ty).before A s = true) {n : Nat} (hn : n < 2 ^ 31) (hl : (Cond.eq (.length t) (.int (Int32.ofNat n))).before A s = true) {f : Nat → Value} (he : ∀ j, j < n → (Term.elem t (.int (Int32.ofNat j))).eval A s none [] s = some (f j)) : ∃ a, t.eval A s none [] s = some (.ref a) ∧ va_T ty a n f (sA s) s s.heap := va_Tof hn h (va_eqt hl) he sA_no
/-- a string constant's object -/
theorem st_str {A : Array Value} {own : String} {k : Nat} {ws : List Nat} (hx : (Cond.exactly (.string own k) "java/lang/String").before A s = true) (hc : (Cond.eq (.field (.string own k) "java/lang/String" "coder" "B") (.int 0)).before A s = true) (ha : (Cond.arrayOf (.field (.string own k) "java/lang/String" "value" "[B") .byte).before A s = true) (hw : ws.length < 2 ^ 31) (hl : (Cond.eq (.length (.field (.string own k) "java/lang/String" "value" "[B")) (.int (Int32.ofNat ws.length))).before A s = true) (he : ∀ j, j < ws.length → (Cond.eq (.elem (.field (.string own k) "java/lang/String" "value" "[B") (.int (Int32.ofNat j))) (.int (cf ws j))).before A s = true) (h128 : ∀ x ∈ ws, x < 128) : ∃ a, (Term.string own k).eval A s none [] s = some (.ref a) ∧ gCs (sG l D idx s) a ws := by
  obtain ⟨a, c, cA, kA, q1, q2, q3, q4, q5, q6, -⟩ := Cond.exactly_spec (args := A) (first := s) (o := none) (s := s) (idx := []) (t := .string own k) (cls := "java/lang/String") hx
  obtain ⟨t, ht, hT⟩ := va_Tof (f := fun j => .int (cf ws j)) (A := sA s) hw ha (va_eqt hl) (fun j hj => va_eqt (he j hj)) sA_no
  exact ⟨a, q1, t, st_o ⟨cA, q3, q5, by rw [q6]; exact q2, sA_no a (Array.getElem?_eq_some_iff.mp q3).1⟩, st_f (vk_OFof q1 ht sA_no), st_f (vk_OFof q1 (va_eqt hc) sA_no), st_t hT, h128⟩

theorem st_al (hN : ∀ w ∈ NA, w.before #[Value.ref b] s = true) (hts : ∀ w ∈ lw_tbl, w.before #[Value.ref b] s = true) : ∃ de mi, gPall (sG l D idx s) de mi := by
  obtain ⟨de, h1, h2⟩ := st_isR (n := 0) (f := fun _ => .null) (hN (.arrayOf (.static "java/util/ArrayList" "DEFAULTCAPACITY_EMPTY_ELEMENTDATA" "[Ljava/lang/Object;") (.object "java/lang/Object")) (List.mem_of_getElem? (i := 5) (by decide +kernel))) (by decide) (hN (.eq (.length (.static "java/util/ArrayList" "DEFAULTCAPACITY_EMPTY_ELEMENTDATA" "[Ljava/lang/Object;")) (.int 0)) (List.mem_of_getElem? (i := 7) (by decide +kernel))) (fun j hj => by omega)
  obtain ⟨mi, h3⟩ := va_Mi.of (hN (.isRef (.mirror "[Ljava/lang/Object;")) (List.mem_of_getElem? (i := 414) (by decide +kernel)))
  exact ⟨de, mi, ⟨st_z (va_Zref (hts (Jvm.Cond.laysStatic "java/util/ArrayList" "DEFAULTCAPACITY_EMPTY_ELEMENTDATA" "[Ljava/lang/Object;") (List.mem_of_getElem? (i := 98) (by decide +kernel))) (hts (.initialized "java/util/ArrayList") (List.mem_of_getElem? (i := 38) (by decide +kernel))) h1 sA_no), st_t h2⟩, fun U hU => (va_AO.of (hts (Jvm.Cond.arrayOver (Jvm.ClassFile.FieldType.object "java/lang/Object")) (List.mem_of_getElem? (i := 417) (by decide +kernel)))).moved hU.1.alike, st_m h3⟩
theorem st_dig1 : ∀ j, j < 100 → (Cond.eq (.elem (.static "java/lang/Integer" "DigitOnes" "[B") (.int (Int32.ofNat j))) (.int (nI (48 + j % 10)))) ∈ NA := fun j hj => List.mem_of_getElem? ((by decide +kernel : ∀ j, j < 100 → NA[51 + j]? = some (Cond.eq (.elem (.static "java/lang/Integer" "DigitOnes" "[B") (.int (Int32.ofNat j))) (.int (nI (48 + j % 10))))) j hj)
theorem st_dig10 : ∀ j, j < 100 → (Cond.eq (.elem (.static "java/lang/Integer" "DigitTens" "[B") (.int (Int32.ofNat j))) (.int (nI (48 + j / 10)))) ∈ NA := fun j hj => List.mem_of_getElem? ((by decide +kernel : ∀ j, j < 100 → NA[154 + j]? = some (Cond.eq (.elem (.static "java/lang/Integer" "DigitTens" "[B") (.int (Int32.ofNat j))) (.int (nI (48 + j / 10))))) j hj)
theorem st_sel (hN : ∀ w ∈ NA, w.before #[Value.ref b] s = true) (hts : ∀ w ∈ lw_tbl, w.before #[Value.ref b] s = true) : ∀ y ∈ pvy, gPsel (sG l D idx s) RJ4 y := by
  intro y hy U hU a
  have hm : (y.cls ≠ "java/lang/invoke/MethodHandle" ∧ y.cls ≠ "java/lang/invoke/VarHandle") ∧ "java/lang/AbstractStringBuilder" = y.cls ∧ Cond.privateMethod y ∈ lw_tbl ∧ Cond.instanceMethod y ∈ lw_tbl ∧ (Cond.selects RJ4 y y).onTables = true ∧ (Cond.selects RJ4 y y).keeps = true := by
    simp only [pvy, List.mem_cons, List.not_mem_nil, or_false] at hy
    rcases hy with rfl | rfl | rfl | rfl
    · exact ⟨⟨by decide +kernel, by decide +kernel⟩, by decide +kernel, List.mem_of_getElem? (i := 1261) (by decide +kernel), List.mem_of_getElem? (i := 1262) (by decide +kernel), by decide +kernel, by decide +kernel⟩
    · exact ⟨⟨by decide +kernel, by decide +kernel⟩, by decide +kernel, List.mem_of_getElem? (i := 1265) (by decide +kernel), List.mem_of_getElem? (i := 1266) (by decide +kernel), by decide +kernel, by decide +kernel⟩
    · exact ⟨⟨by decide +kernel, by decide +kernel⟩, by decide +kernel, List.mem_of_getElem? (i := 1302) (by decide +kernel), List.mem_of_getElem? (i := 1303) (by decide +kernel), by decide +kernel, by decide +kernel⟩
    · exact ⟨⟨by decide +kernel, by decide +kernel⟩, by decide +kernel, List.mem_of_getElem? (i := 1306) (by decide +kernel), List.mem_of_getElem? (i := 1307) (by decide +kernel), by decide +kernel, by decide +kernel⟩
  have hb : (Cond.selects RJ4 y y).before #[Value.ref b] s = true := g_sel_up (y0 := ({ cls := "java/lang/AbstractStringBuilder", name := "isLatin1", desc := "()Z" } : Jvm.MethodName)) hm.1 (hts (.selects RJ4 ({ cls := "java/lang/AbstractStringBuilder", name := "isLatin1", desc := "()Z" } : Jvm.MethodName) ({ cls := "java/lang/AbstractStringBuilder", name := "isLatin1", desc := "()Z" } : Jvm.MethodName)) (List.mem_of_getElem? (i := 1283) (by decide +kernel))) hm.2.1 (hts _ hm.2.2.1) (hts _ hm.2.2.2.1)
  exact (st_w hm.2.2.2.2.1 hm.2.2.2.2.2 hb U hU).use hm.2.2.2.2.1
theorem st_sb (hN : ∀ w ∈ NA, w.before #[Value.ref b] s = true) (hts : ∀ w ∈ lw_tbl, w.before #[Value.ref b] s = true) : ∃ d1 d10 vf, gPsb (sG l D idx s) d1 d10 vf := by
  obtain ⟨d1, h1, h2⟩ := st_isR (n := 100) (f := fun j => .int (nI (48 + j % 10))) (hN (.arrayOf (.static "java/lang/Integer" "DigitOnes" "[B") .byte) (List.mem_of_getElem? (i := 49) (by decide +kernel))) (by decide) (hN (.eq (.length (.static "java/lang/Integer" "DigitOnes" "[B")) (.int 100)) (List.mem_of_getElem? (i := 50) (by decide +kernel))) (fun j hj => va_eqt (hN _ (st_dig1 j hj)))
  obtain ⟨d10, h3, h4⟩ := st_isR (n := 100) (f := fun j => .int (nI (48 + j / 10))) (hN (.arrayOf (.static "java/lang/Integer" "DigitTens" "[B") .byte) (List.mem_of_getElem? (i := 152) (by decide +kernel))) (by decide) (hN (.eq (.length (.static "java/lang/Integer" "DigitTens" "[B")) (.int 100)) (List.mem_of_getElem? (i := 153) (by decide +kernel))) (fun j hj => va_eqt (hN _ (st_dig10 j hj)))
  obtain ⟨v, hv, hr⟩ := Cond.isRef_spec (hN (.isRef (.static "jdk/internal/util/Preconditions" "SIOOBE_FORMATTER" "Ljava/util/function/BiFunction;")) (List.mem_of_getElem? (i := 26) (by decide +kernel)))
  have hvr : v = .null ∨ ∃ a, v = .ref a := by
    cases v <;> first | exact Or.inl rfl | exact Or.inr ⟨_, rfl⟩ | exact Bool.noConfusion (show false = true from hr)
  exact ⟨d1, d10, v, st_z (va_Zof (hts (Jvm.Cond.laysStatic "java/lang/String" "COMPACT_STRINGS" "Z") (List.mem_of_getElem? (i := 235) (by decide +kernel))) (hts (.initialized "java/lang/String") (List.mem_of_getElem? (i := 44) (by decide +kernel))) (va_eqi (hN (.eq (.static "java/lang/String" "COMPACT_STRINGS" "Z") (.int 1)) (List.mem_of_getElem? (i := 8) (by decide +kernel)))) sA_no), st_z (va_Zref (hts (Jvm.Cond.laysStatic "java/lang/Integer" "DigitOnes" "[B") (List.mem_of_getElem? (i := 1349) (by decide +kernel))) (hts (.initialized "java/lang/Integer") (List.mem_of_getElem? (i := 68) (by decide +kernel))) h1 sA_no), st_t h2, st_z (va_Zref (hts (Jvm.Cond.laysStatic "java/lang/Integer" "DigitTens" "[B") (List.mem_of_getElem? (i := 1351) (by decide +kernel))) (hts (.initialized "java/lang/Integer") (List.mem_of_getElem? (i := 68) (by decide +kernel))) h3 sA_no), st_t h4, st_z (va_Zof (hts (Jvm.Cond.laysStatic "jdk/internal/util/Preconditions" "SIOOBE_FORMATTER" "Ljava/util/function/BiFunction;") (List.mem_of_getElem? (i := 875) (by decide +kernel))) (hts (.initialized "jdk/internal/util/Preconditions") (List.mem_of_getElem? (i := 52) (by decide +kernel))) hv sA_no), hvr, st_sel hN hts⟩
theorem st_e53 : ∀ j, j < 2 → (Cond.eq (.elem (.field (.string "MailOffice$Letter" 53) "java/lang/String" "value" "[B") (.int (Int32.ofNat j))) (.int (cf ([32, 114]) j))) ∈ NA := fun j hj => List.mem_of_getElem? ((by decide +kernel : ∀ j, j < 2 → NA[1190 + j]? = some (Cond.eq (.elem (.field (.string "MailOffice$Letter" 53) "java/lang/String" "value" "[B") (.int (Int32.ofNat j))) (.int (cf ([32, 114]) j)))) j hj)
theorem st_e58 : ∀ j, j < 2 → (Cond.eq (.elem (.field (.string "MailOffice$Letter" 58) "java/lang/String" "value" "[B") (.int (Int32.ofNat j))) (.int (cf ([32, 42]) j))) ∈ NA := fun j hj => List.mem_of_getElem? ((by decide +kernel : ∀ j, j < 2 → NA[1197 + j]? = some (Cond.eq (.elem (.field (.string "MailOffice$Letter" 58) "java/lang/String" "value" "[B") (.int (Int32.ofNat j))) (.int (cf ([32, 42]) j)))) j hj)
theorem st_tx (hN : ∀ w ∈ NA, w.before #[Value.ref b] s = true) (hts : ∀ w ∈ lw_tbl, w.before #[Value.ref b] s = true) : ∃ sr ss, gPtx (sG l D idx s) sr ss := by
  obtain ⟨sr, e1, h1⟩ := st_str (ws := [32, 114]) (hN (.exactly (.string "MailOffice$Letter" 53) "java/lang/String") (List.mem_of_getElem? (i := 1186) (by decide +kernel))) (hN (.eq (.field (.string "MailOffice$Letter" 53) "java/lang/String" "coder" "B") (.int 0)) (List.mem_of_getElem? (i := 1187) (by decide +kernel))) (hN (.arrayOf (.field (.string "MailOffice$Letter" 53) "java/lang/String" "value" "[B") .byte) (List.mem_of_getElem? (i := 1188) (by decide +kernel))) (by decide +kernel) (hN (.eq (.length (.field (.string "MailOffice$Letter" 53) "java/lang/String" "value" "[B")) (.int 2)) (List.mem_of_getElem? (i := 1189) (by decide +kernel))) (fun j hj => hN _ (st_e53 j (Nat.lt_of_lt_of_eq hj (by decide +kernel)))) (by decide +kernel)
  obtain ⟨ss, e2, h2⟩ := st_str (ws := [32, 42]) (hN (.exactly (.string "MailOffice$Letter" 58) "java/lang/String") (List.mem_of_getElem? (i := 1193) (by decide +kernel))) (hN (.eq (.field (.string "MailOffice$Letter" 58) "java/lang/String" "coder" "B") (.int 0)) (List.mem_of_getElem? (i := 1194) (by decide +kernel))) (hN (.arrayOf (.field (.string "MailOffice$Letter" 58) "java/lang/String" "value" "[B") .byte) (List.mem_of_getElem? (i := 1195) (by decide +kernel))) (by decide +kernel) (hN (.eq (.length (.field (.string "MailOffice$Letter" 58) "java/lang/String" "value" "[B")) (.int 2)) (List.mem_of_getElem? (i := 1196) (by decide +kernel))) (fun j hj => hN _ (st_e58 j (Nat.lt_of_lt_of_eq hj (by decide +kernel)))) (by decide +kernel)
  exact ⟨sr, ss, st_s (vk_R.of (hts (Jvm.Cond.stringRef "MailOffice$Letter" (53 : Nat) " r") (List.mem_of_getElem? (i := 1523) (by decide +kernel))) e1), h1, st_s (vk_R.of (hts (Jvm.Cond.stringRef "MailOffice$Letter" (58 : Nat) " *") (List.mem_of_getElem? (i := 1525) (by decide +kernel))) e2), h2⟩
theorem st_w234 : ∀ j, j < 1 → (Cond.eq (.elem (.field (.string "MailOfficeLaw" 234) "java/lang/String" "value" "[B") (.int (Int32.ofNat j))) (.int (cf (([80] : List Nat)) j))) ∈ NA := fun j hj => List.mem_of_getElem? ((by decide +kernel : ∀ j, j < 1 → NA[1041 + j]? = some (Cond.eq (.elem (.field (.string "MailOfficeLaw" 234) "java/lang/String" "value" "[B") (.int (Int32.ofNat j))) (.int (cf (([80] : List Nat)) j)))) j hj)
theorem st_w236 : ∀ j, j < 1 → (Cond.eq (.elem (.field (.string "MailOfficeLaw" 236) "java/lang/String" "value" "[B") (.int (Int32.ofNat j))) (.int (cf (([83] : List Nat)) j))) ∈ NA := fun j hj => List.mem_of_getElem? ((by decide +kernel : ∀ j, j < 1 → NA[1046 + j]? = some (Cond.eq (.elem (.field (.string "MailOfficeLaw" 236) "java/lang/String" "value" "[B") (.int (Int32.ofNat j))) (.int (cf (([83] : List Nat)) j)))) j hj)
theorem st_w245 : ∀ j, j < 1 → (Cond.eq (.elem (.field (.string "MailOfficeLaw" 245) "java/lang/String" "value" "[B") (.int (Int32.ofNat j))) (.int (cf (([58] : List Nat)) j))) ∈ NA := fun j hj => List.mem_of_getElem? ((by decide +kernel : ∀ j, j < 1 → NA[1051 + j]? = some (Cond.eq (.elem (.field (.string "MailOfficeLaw" 245) "java/lang/String" "value" "[B") (.int (Int32.ofNat j))) (.int (cf (([58] : List Nat)) j)))) j hj)
theorem st_w247 : ∀ j, j < 1 → (Cond.eq (.elem (.field (.string "MailOfficeLaw" 247) "java/lang/String" "value" "[B") (.int (Int32.ofNat j))) (.int (cf (([32] : List Nat)) j))) ∈ NA := fun j hj => List.mem_of_getElem? ((by decide +kernel : ∀ j, j < 1 → NA[1056 + j]? = some (Cond.eq (.elem (.field (.string "MailOfficeLaw" 247) "java/lang/String" "value" "[B") (.int (Int32.ofNat j))) (.int (cf (([32] : List Nat)) j)))) j hj)
theorem st_w249 : ∀ j, j < 1 → (Cond.eq (.elem (.field (.string "MailOfficeLaw" 249) "java/lang/String" "value" "[B") (.int (Int32.ofNat j))) (.int (cf (([103] : List Nat)) j))) ∈ NA := fun j hj => List.mem_of_getElem? ((by decide +kernel : ∀ j, j < 1 → NA[1061 + j]? = some (Cond.eq (.elem (.field (.string "MailOfficeLaw" 249) "java/lang/String" "value" "[B") (.int (Int32.ofNat j))) (.int (cf (([103] : List Nat)) j)))) j hj)
theorem st_w251 : ∀ j, j < 0 → (Cond.eq (.elem (.field (.string "MailOfficeLaw" 251) "java/lang/String" "value" "[B") (.int (Int32.ofNat j))) (.int (cf (([] : List Nat)) j))) ∈ NA := fun j hj => absurd hj (Nat.not_lt_zero j)
theorem st_w253 : ∀ j, j < 2 → (Cond.eq (.elem (.field (.string "MailOfficeLaw" 253) "java/lang/String" "value" "[B") (.int (Int32.ofNat j))) (.int (cf (([32, 114] : List Nat)) j))) ∈ NA := fun j hj => List.mem_of_getElem? ((by decide +kernel : ∀ j, j < 2 → NA[1070 + j]? = some (Cond.eq (.elem (.field (.string "MailOfficeLaw" 253) "java/lang/String" "value" "[B") (.int (Int32.ofNat j))) (.int (cf (([32, 114] : List Nat)) j)))) j hj)
theorem st_w255 : ∀ j, j < 1 → (Cond.eq (.elem (.field (.string "MailOfficeLaw" 255) "java/lang/String" "value" "[B") (.int (Int32.ofNat j))) (.int (cf (([46] : List Nat)) j))) ∈ NA := fun j hj => List.mem_of_getElem? ((by decide +kernel : ∀ j, j < 1 → NA[1076 + j]? = some (Cond.eq (.elem (.field (.string "MailOfficeLaw" 255) "java/lang/String" "value" "[B") (.int (Int32.ofNat j))) (.int (cf (([46] : List Nat)) j)))) j hj)
theorem st_w261 : ∀ j, j < 2 → (Cond.eq (.elem (.field (.string "MailOfficeLaw" 261) "java/lang/String" "value" "[B") (.int (Int32.ofNat j))) (.int (cf (([32, 42] : List Nat)) j))) ∈ NA := fun j hj => List.mem_of_getElem? ((by decide +kernel : ∀ j, j < 2 → NA[1088 + j]? = some (Cond.eq (.elem (.field (.string "MailOfficeLaw" 261) "java/lang/String" "value" "[B") (.int (Int32.ofNat j))) (.int (cf (([32, 42] : List Nat)) j)))) j hj)
theorem st_lw (hN : ∀ w ∈ NA, w.before #[Value.ref b] s = true) (hts : ∀ w ∈ lw_tbl, w.before #[Value.ref b] s = true) : gPlw (sG l D idx s) := by
  intro q hq
  simp only [lwS, List.mem_cons, List.not_mem_nil, or_false] at hq
  rcases hq with rfl | rfl | rfl | rfl | rfl | rfl | rfl | rfl | rfl
  · obtain ⟨a, e, h9⟩ := st_str (ws := ([80] : List Nat)) (hN (.exactly (.string "MailOfficeLaw" 234) "java/lang/String") (List.mem_of_getElem? (i := 1037) (by decide +kernel))) (hN (.eq (.field (.string "MailOfficeLaw" 234) "java/lang/String" "coder" "B") (.int 0)) (List.mem_of_getElem? (i := 1038) (by decide +kernel))) (hN (.arrayOf (.field (.string "MailOfficeLaw" 234) "java/lang/String" "value" "[B") .byte) (List.mem_of_getElem? (i := 1039) (by decide +kernel))) (by decide +kernel) (hN (.eq (.length (.field (.string "MailOfficeLaw" 234) "java/lang/String" "value" "[B")) (.int 1)) (List.mem_of_getElem? (i := 1040) (by decide +kernel))) (fun j hj => hN _ (st_w234 j (Nat.lt_of_lt_of_eq hj (by decide +kernel)))) (by decide +kernel)
    exact ⟨a, st_s (vk_R.of (hts (Jvm.Cond.stringRef "MailOfficeLaw" (234 : Nat) "P") (List.mem_of_getElem? (i := 1247) (by decide +kernel))) e), h9⟩
  · obtain ⟨a, e, h9⟩ := st_str (ws := ([83] : List Nat)) (hN (.exactly (.string "MailOfficeLaw" 236) "java/lang/String") (List.mem_of_getElem? (i := 1042) (by decide +kernel))) (hN (.eq (.field (.string "MailOfficeLaw" 236) "java/lang/String" "coder" "B") (.int 0)) (List.mem_of_getElem? (i := 1043) (by decide +kernel))) (hN (.arrayOf (.field (.string "MailOfficeLaw" 236) "java/lang/String" "value" "[B") .byte) (List.mem_of_getElem? (i := 1044) (by decide +kernel))) (by decide +kernel) (hN (.eq (.length (.field (.string "MailOfficeLaw" 236) "java/lang/String" "value" "[B")) (.int 1)) (List.mem_of_getElem? (i := 1045) (by decide +kernel))) (fun j hj => hN _ (st_w236 j (Nat.lt_of_lt_of_eq hj (by decide +kernel)))) (by decide +kernel)
    exact ⟨a, st_s (vk_R.of (hts (Jvm.Cond.stringRef "MailOfficeLaw" (236 : Nat) "S") (List.mem_of_getElem? (i := 1248) (by decide +kernel))) e), h9⟩
  · obtain ⟨a, e, h9⟩ := st_str (ws := ([58] : List Nat)) (hN (.exactly (.string "MailOfficeLaw" 245) "java/lang/String") (List.mem_of_getElem? (i := 1047) (by decide +kernel))) (hN (.eq (.field (.string "MailOfficeLaw" 245) "java/lang/String" "coder" "B") (.int 0)) (List.mem_of_getElem? (i := 1048) (by decide +kernel))) (hN (.arrayOf (.field (.string "MailOfficeLaw" 245) "java/lang/String" "value" "[B") .byte) (List.mem_of_getElem? (i := 1049) (by decide +kernel))) (by decide +kernel) (hN (.eq (.length (.field (.string "MailOfficeLaw" 245) "java/lang/String" "value" "[B")) (.int 1)) (List.mem_of_getElem? (i := 1050) (by decide +kernel))) (fun j hj => hN _ (st_w245 j (Nat.lt_of_lt_of_eq hj (by decide +kernel)))) (by decide +kernel)
    exact ⟨a, st_s (vk_R.of (hts (Jvm.Cond.stringRef "MailOfficeLaw" (245 : Nat) ":") (List.mem_of_getElem? (i := 1360) (by decide +kernel))) e), h9⟩
  · obtain ⟨a, e, h9⟩ := st_str (ws := ([32] : List Nat)) (hN (.exactly (.string "MailOfficeLaw" 247) "java/lang/String") (List.mem_of_getElem? (i := 1052) (by decide +kernel))) (hN (.eq (.field (.string "MailOfficeLaw" 247) "java/lang/String" "coder" "B") (.int 0)) (List.mem_of_getElem? (i := 1053) (by decide +kernel))) (hN (.arrayOf (.field (.string "MailOfficeLaw" 247) "java/lang/String" "value" "[B") .byte) (List.mem_of_getElem? (i := 1054) (by decide +kernel))) (by decide +kernel) (hN (.eq (.length (.field (.string "MailOfficeLaw" 247) "java/lang/String" "value" "[B")) (.int 1)) (List.mem_of_getElem? (i := 1055) (by decide +kernel))) (fun j hj => hN _ (st_w247 j (Nat.lt_of_lt_of_eq hj (by decide +kernel)))) (by decide +kernel)
    exact ⟨a, st_s (vk_R.of (hts (Jvm.Cond.stringRef "MailOfficeLaw" (247 : Nat) " ") (List.mem_of_getElem? (i := 1361) (by decide +kernel))) e), h9⟩
  · obtain ⟨a, e, h9⟩ := st_str (ws := ([103] : List Nat)) (hN (.exactly (.string "MailOfficeLaw" 249) "java/lang/String") (List.mem_of_getElem? (i := 1057) (by decide +kernel))) (hN (.eq (.field (.string "MailOfficeLaw" 249) "java/lang/String" "coder" "B") (.int 0)) (List.mem_of_getElem? (i := 1058) (by decide +kernel))) (hN (.arrayOf (.field (.string "MailOfficeLaw" 249) "java/lang/String" "value" "[B") .byte) (List.mem_of_getElem? (i := 1059) (by decide +kernel))) (by decide +kernel) (hN (.eq (.length (.field (.string "MailOfficeLaw" 249) "java/lang/String" "value" "[B")) (.int 1)) (List.mem_of_getElem? (i := 1060) (by decide +kernel))) (fun j hj => hN _ (st_w249 j (Nat.lt_of_lt_of_eq hj (by decide +kernel)))) (by decide +kernel)
    exact ⟨a, st_s (vk_R.of (hts (Jvm.Cond.stringRef "MailOfficeLaw" (249 : Nat) "g") (List.mem_of_getElem? (i := 1362) (by decide +kernel))) e), h9⟩
  · obtain ⟨a, e, h9⟩ := st_str (ws := ([] : List Nat)) (hN (.exactly (.string "MailOfficeLaw" 251) "java/lang/String") (List.mem_of_getElem? (i := 1062) (by decide +kernel))) (hN (.eq (.field (.string "MailOfficeLaw" 251) "java/lang/String" "coder" "B") (.int 0)) (List.mem_of_getElem? (i := 1063) (by decide +kernel))) (hN (.arrayOf (.field (.string "MailOfficeLaw" 251) "java/lang/String" "value" "[B") .byte) (List.mem_of_getElem? (i := 1064) (by decide +kernel))) (by decide +kernel) (hN (.eq (.length (.field (.string "MailOfficeLaw" 251) "java/lang/String" "value" "[B")) (.int 0)) (List.mem_of_getElem? (i := 1065) (by decide +kernel))) (fun j hj => hN _ (st_w251 j (Nat.lt_of_lt_of_eq hj (by decide +kernel)))) (by decide +kernel)
    exact ⟨a, st_s (vk_R.of (hts (Jvm.Cond.stringRef "MailOfficeLaw" (251 : Nat) "") (List.mem_of_getElem? (i := 1363) (by decide +kernel))) e), h9⟩
  · obtain ⟨a, e, h9⟩ := st_str (ws := ([32, 114] : List Nat)) (hN (.exactly (.string "MailOfficeLaw" 253) "java/lang/String") (List.mem_of_getElem? (i := 1066) (by decide +kernel))) (hN (.eq (.field (.string "MailOfficeLaw" 253) "java/lang/String" "coder" "B") (.int 0)) (List.mem_of_getElem? (i := 1067) (by decide +kernel))) (hN (.arrayOf (.field (.string "MailOfficeLaw" 253) "java/lang/String" "value" "[B") .byte) (List.mem_of_getElem? (i := 1068) (by decide +kernel))) (by decide +kernel) (hN (.eq (.length (.field (.string "MailOfficeLaw" 253) "java/lang/String" "value" "[B")) (.int 2)) (List.mem_of_getElem? (i := 1069) (by decide +kernel))) (fun j hj => hN _ (st_w253 j (Nat.lt_of_lt_of_eq hj (by decide +kernel)))) (by decide +kernel)
    exact ⟨a, st_s (vk_R.of (hts (Jvm.Cond.stringRef "MailOfficeLaw" (253 : Nat) " r") (List.mem_of_getElem? (i := 1364) (by decide +kernel))) e), h9⟩
  · obtain ⟨a, e, h9⟩ := st_str (ws := ([46] : List Nat)) (hN (.exactly (.string "MailOfficeLaw" 255) "java/lang/String") (List.mem_of_getElem? (i := 1072) (by decide +kernel))) (hN (.eq (.field (.string "MailOfficeLaw" 255) "java/lang/String" "coder" "B") (.int 0)) (List.mem_of_getElem? (i := 1073) (by decide +kernel))) (hN (.arrayOf (.field (.string "MailOfficeLaw" 255) "java/lang/String" "value" "[B") .byte) (List.mem_of_getElem? (i := 1074) (by decide +kernel))) (by decide +kernel) (hN (.eq (.length (.field (.string "MailOfficeLaw" 255) "java/lang/String" "value" "[B")) (.int 1)) (List.mem_of_getElem? (i := 1075) (by decide +kernel))) (fun j hj => hN _ (st_w255 j (Nat.lt_of_lt_of_eq hj (by decide +kernel)))) (by decide +kernel)
    exact ⟨a, st_s (vk_R.of (hts (Jvm.Cond.stringRef "MailOfficeLaw" (255 : Nat) ".") (List.mem_of_getElem? (i := 1365) (by decide +kernel))) e), h9⟩
  · obtain ⟨a, e, h9⟩ := st_str (ws := ([32, 42] : List Nat)) (hN (.exactly (.string "MailOfficeLaw" 261) "java/lang/String") (List.mem_of_getElem? (i := 1084) (by decide +kernel))) (hN (.eq (.field (.string "MailOfficeLaw" 261) "java/lang/String" "coder" "B") (.int 0)) (List.mem_of_getElem? (i := 1085) (by decide +kernel))) (hN (.arrayOf (.field (.string "MailOfficeLaw" 261) "java/lang/String" "value" "[B") .byte) (List.mem_of_getElem? (i := 1086) (by decide +kernel))) (by decide +kernel) (hN (.eq (.length (.field (.string "MailOfficeLaw" 261) "java/lang/String" "value" "[B")) (.int 2)) (List.mem_of_getElem? (i := 1087) (by decide +kernel))) (fun j hj => hN _ (st_w261 j (Nat.lt_of_lt_of_eq hj (by decide +kernel)))) (by decide +kernel)
    exact ⟨a, st_s (vk_R.of (hts (Jvm.Cond.stringRef "MailOfficeLaw" (261 : Nat) " *") (List.mem_of_getElem? (i := 1430) (by decide +kernel))) e), h9⟩
theorem st_xs (hN : ∀ w ∈ NA, w.before #[Value.ref b] s = true) (hts : ∀ w ∈ lw_tbl, w.before #[Value.ref b] s = true) : ∀ q ∈ gXs, ∃ sa, gPs (sG l D idx s) RX9 q.1 q.2 sa := by
  intro q hq
  simp only [gXs, List.mem_cons, List.not_mem_nil, or_false] at hq
  rcases hq with rfl | rfl | rfl | rfl | rfl | rfl | rfl | rfl | rfl | rfl | rfl | rfl | rfl | rfl | rfl | rfl | rfl | rfl | rfl | rfl | rfl | rfl | rfl
  · obtain ⟨a, e⟩ := st_ex (hN (.exactly (.string "MailOffice" 113) "java/lang/String") (List.mem_of_getElem? (i := 415) (by decide +kernel)))
    exact ⟨a, st_s (vk_R.of (hts (Jvm.Cond.stringRef "MailOffice" (113 : Nat) "an argument is out of range") (List.mem_of_getElem? (i := 541) (by decide +kernel))) e)⟩
  · obtain ⟨a, e⟩ := st_ex (hN (.exactly (.string "MailOffice" 120) "java/lang/String") (List.mem_of_getElem? (i := 446) (by decide +kernel)))
    exact ⟨a, st_s (vk_R.of (hts (Jvm.Cond.stringRef "MailOffice" (120 : Nat) "there is no such route") (List.mem_of_getElem? (i := 576) (by decide +kernel))) e)⟩
  · obtain ⟨a, e⟩ := st_ex (hN (.exactly (.string "MailOffice" 125) "java/lang/String") (List.mem_of_getElem? (i := 472) (by decide +kernel)))
    exact ⟨a, st_s (vk_R.of (hts (Jvm.Cond.stringRef "MailOffice" (125 : Nat) "there is no such letter or prefix") (List.mem_of_getElem? (i := 592) (by decide +kernel))) e)⟩
  · obtain ⟨a, e⟩ := st_ex (hN (.exactly (.string "MailOffice" 130) "java/lang/String") (List.mem_of_getElem? (i := 509) (by decide +kernel)))
    exact ⟨a, st_s (vk_R.of (hts (Jvm.Cond.stringRef "MailOffice" (130 : Nat) "the state of the office does not allow this") (List.mem_of_getElem? (i := 608) (by decide +kernel))) e)⟩
  · obtain ⟨a, e⟩ := st_ex (hN (.exactly (.string "MailOffice" 157) "java/lang/String") (List.mem_of_getElem? (i := 630) (by decide +kernel)))
    exact ⟨a, st_s (vk_R.of (hts (Jvm.Cond.stringRef "MailOffice" (157 : Nat) "there is no letter at this position") (List.mem_of_getElem? (i := 979) (by decide +kernel))) e)⟩
  · obtain ⟨a, e⟩ := st_ex (hN (.exactly (.string "MailOffice" 204) "java/lang/String") (List.mem_of_getElem? (i := 669) (by decide +kernel)))
    exact ⟨a, st_s (vk_R.of (hts (Jvm.Cond.stringRef "MailOffice" (204 : Nat) "no letter in the office has this id") (List.mem_of_getElem? (i := 999) (by decide +kernel))) e)⟩
  · obtain ⟨a, e⟩ := st_ex (hN (.exactly (.string "MailOffice" 206) "java/lang/String") (List.mem_of_getElem? (i := 708) (by decide +kernel)))
    exact ⟨a, st_s (vk_R.of (hts (Jvm.Cond.stringRef "MailOffice" (206 : Nat) "the letter is in the tray") (List.mem_of_getElem? (i := 1009) (by decide +kernel))) e)⟩
  · obtain ⟨a, e⟩ := st_ex (hN (.exactly (.string "MailOffice" 215) "java/lang/String") (List.mem_of_getElem? (i := 737) (by decide +kernel)))
    exact ⟨a, st_s (vk_R.of (hts (Jvm.Cond.stringRef "MailOffice" (215 : Nat) "the tray has no such position") (List.mem_of_getElem? (i := 1019) (by decide +kernel))) e)⟩
  · obtain ⟨a, e⟩ := st_ex (hN (.exactly (.string "MailOffice" 224) "java/lang/String") (List.mem_of_getElem? (i := 992) (by decide +kernel)))
    exact ⟨a, st_s (vk_R.of (hts (Jvm.Cond.stringRef "MailOffice" (224 : Nat) "the length or the digits are out of range") (List.mem_of_getElem? (i := 1155) (by decide +kernel))) e)⟩
  · obtain ⟨a, e⟩ := st_ex (hN (.exactly (.string "MailOffice" 262) "java/lang/String") (List.mem_of_getElem? (i := 770) (by decide +kernel)))
    exact ⟨a, st_s (vk_R.of (hts (Jvm.Cond.stringRef "MailOffice" (262 : Nat) "the code is out of range") (List.mem_of_getElem? (i := 1028) (by decide +kernel))) e)⟩
  · obtain ⟨a, e⟩ := st_ex (hN (.exactly (.string "MailOffice" 267) "java/lang/String") (List.mem_of_getElem? (i := 798) (by decide +kernel)))
    exact ⟨a, st_s (vk_R.of (hts (Jvm.Cond.stringRef "MailOffice" (267 : Nat) "the code has no route") (List.mem_of_getElem? (i := 1033) (by decide +kernel))) e)⟩
  · obtain ⟨a, e⟩ := st_ex (hN (.exactly (.string "MailOffice" 304) "java/lang/String") (List.mem_of_getElem? (i := 967) (by decide +kernel)))
    exact ⟨a, st_s (vk_R.of (hts (Jvm.Cond.stringRef "MailOffice" (304 : Nat) "the route has no bags") (List.mem_of_getElem? (i := 1149) (by decide +kernel))) e)⟩
  · obtain ⟨a, e⟩ := st_ex (hN (.exactly (.string "MailOffice" 309) "java/lang/String") (List.mem_of_getElem? (i := 879) (by decide +kernel)))
    exact ⟨a, st_s (vk_R.of (hts (Jvm.Cond.stringRef "MailOffice" (309 : Nat) "there is no such rank") (List.mem_of_getElem? (i := 1130) (by decide +kernel))) e)⟩
  · obtain ⟨a, e⟩ := st_ex (hN (.exactly (.string "MailOffice" 311) "java/lang/String") (List.mem_of_getElem? (i := 823) (by decide +kernel)))
    exact ⟨a, st_s (vk_R.of (hts (Jvm.Cond.stringRef "MailOffice" (311 : Nat) "the route has no such bag") (List.mem_of_getElem? (i := 1085) (by decide +kernel))) e)⟩
  · obtain ⟨a, e⟩ := st_ex (hN (.exactly (.string "MailOffice" 313) "java/lang/String") (List.mem_of_getElem? (i := 852) (by decide +kernel)))
    exact ⟨a, st_s (vk_R.of (hts (Jvm.Cond.stringRef "MailOffice" (313 : Nat) "the letter is missorted") (List.mem_of_getElem? (i := 1104) (by decide +kernel))) e)⟩
  · obtain ⟨a, e⟩ := st_ex (hN (.exactly (.string "MailOffice" 329) "java/lang/String") (List.mem_of_getElem? (i := 1230) (by decide +kernel)))
    exact ⟨a, st_s (vk_R.of (hts (Jvm.Cond.stringRef "MailOffice" (329 : Nat) "the office has no letters") (List.mem_of_getElem? (i := 1580) (by decide +kernel))) e)⟩
  · obtain ⟨a, e⟩ := st_ex (hN (.exactly (.string "MailOffice" 338) "java/lang/String") (List.mem_of_getElem? (i := 1259) (by decide +kernel)))
    exact ⟨a, st_s (vk_R.of (hts (Jvm.Cond.stringRef "MailOffice" (338 : Nat) "no letter has been accepted so far") (List.mem_of_getElem? (i := 1628) (by decide +kernel))) e)⟩
  · obtain ⟨a, e⟩ := st_ex (hN (.exactly (.string "MailOffice" 359) "java/lang/String") (List.mem_of_getElem? (i := 1200) (by decide +kernel)))
    exact ⟨a, st_s (vk_R.of (hts (Jvm.Cond.stringRef "MailOffice" (359 : Nat) "the line has no such index") (List.mem_of_getElem? (i := 1535) (by decide +kernel))) e)⟩
  · obtain ⟨a, e⟩ := st_ex (hN (.exactly (.string "MailOffice" 380) "java/lang/String") (List.mem_of_getElem? (i := 582) (by decide +kernel)))
    exact ⟨a, st_s (vk_R.of (hts (Jvm.Cond.stringRef "MailOffice" (380 : Nat) "the program is malformed") (List.mem_of_getElem? (i := 939) (by decide +kernel))) e)⟩
  · obtain ⟨a, e⟩ := st_ex (hN (.exactly (.string "MailOffice" 391) "java/lang/String") (List.mem_of_getElem? (i := 610) (by decide +kernel)))
    exact ⟨a, st_s (vk_R.of (hts (Jvm.Cond.stringRef "MailOffice" (391 : Nat) "a command failed") (List.mem_of_getElem? (i := 964) (by decide +kernel))) e)⟩
  · obtain ⟨a, e⟩ := st_ex (hN (.exactly (.string "MailOffice" 393) "java/lang/String") (List.mem_of_getElem? (i := 904) (by decide +kernel)))
    exact ⟨a, st_s (vk_R.of (hts (Jvm.Cond.stringRef "MailOffice" (393 : Nat) "no program was malformed so far") (List.mem_of_getElem? (i := 1135) (by decide +kernel))) e)⟩
  · obtain ⟨a, e⟩ := st_ex (hN (.exactly (.string "MailOffice" 395) "java/lang/String") (List.mem_of_getElem? (i := 939) (by decide +kernel)))
    exact ⟨a, st_s (vk_R.of (hts (Jvm.Cond.stringRef "MailOffice" (395 : Nat) "no command failed so far") (List.mem_of_getElem? (i := 1140) (by decide +kernel))) e)⟩
  · obtain ⟨a, e⟩ := st_ex (hN (.exactly (.string "MailOffice" 399) "java/lang/String") (List.mem_of_getElem? (i := 556) (by decide +kernel)))
    exact ⟨a, st_s (vk_R.of (hts (Jvm.Cond.stringRef "MailOffice" (399 : Nat) "there is no saved copy") (List.mem_of_getElem? (i := 642) (by decide +kernel))) e)⟩
theorem st_pt (hN : ∀ w ∈ NA, w.before #[Value.ref b] s = true) (hts : ∀ w ∈ lw_tbl, w.before #[Value.ref b] s = true) : gPt (sG l D idx s) := by
  intro U hU
  exact ⟨st_zq (vx_Zqof (hts (Jvm.Cond.laysStatic "java/lang/Throwable" "UNASSIGNED_STACK" "[Ljava/lang/StackTraceElement;") (List.mem_of_getElem? (i := 523) (by decide +kernel))) (hts (.initialized "java/lang/Throwable") (List.mem_of_getElem? (i := 46) (by decide +kernel))) (hN (.isRef (.static "java/lang/Throwable" "UNASSIGNED_STACK" "[Ljava/lang/StackTraceElement;")) (List.mem_of_getElem? (i := 9) (by decide +kernel))) sA_no) U hU, st_zq (vx_Zqof (hts (Jvm.Cond.laysStatic "java/lang/Throwable" "SUPPRESSED_SENTINEL" "Ljava/util/List;") (List.mem_of_getElem? (i := 525) (by decide +kernel))) (hts (.initialized "java/lang/Throwable") (List.mem_of_getElem? (i := 46) (by decide +kernel))) (hN (.isRef (.static "java/lang/Throwable" "SUPPRESSED_SENTINEL" "Ljava/util/List;")) (List.mem_of_getElem? (i := 10) (by decide +kernel))) sA_no) U hU⟩
theorem st_nci : ∀ i, i < 4 → ∀ j, j < 4 → i ≠ j → NA[([0, 352, 405, 387, 369, 0, 406, 388, 370, 353, 0, 389, 371, 354, 407, 0].getD (4 * i + j) 0)]? = some (Cond.not (.castable (xAll.getD i "") (xAll.getD j ""))) := by decide +kernel
theorem st_nc (hN : ∀ w ∈ NA, w.before #[Value.ref b] s = true) (hts : ∀ w ∈ lw_tbl, w.before #[Value.ref b] s = true) : gPnc (sG l D idx s) := by
  intro E hE T hT hne U hU
  obtain ⟨i, hi, ei⟩ := List.getElem_of_mem hE
  obtain ⟨j, hj, ej⟩ := List.getElem_of_mem hT
  have e1 : xAll.getD i "" = E := by rw [List.getD_eq_getElem?_getD, List.getElem?_eq_getElem hi, ei]; rfl
  have e2 : xAll.getD j "" = T := by rw [List.getD_eq_getElem?_getD, List.getElem?_eq_getElem hj, ej]; rfl
  have hij : i ≠ j := fun z => by
    subst z
    exact hne (e1.symm.trans e2)
  have h := List.mem_of_getElem? (st_nci i hi j hj hij)
  rw [e1, e2] at h
  exact (va_Nc.of (hN _ h)).moved hU.1.alike
theorem st_arr {ty : FieldType} (hno : ∀ C, ty ≠ .object C) (h : (Cond.arrayClass ty).before #[Value.ref b] s = true) : ∃ c, ArrOfT s c ty ∧ va_RA s c ty := by
  obtain ⟨c, k, comp, h1, h2, h3⟩ := Cond.arrayClass_spec h
  refine ⟨c, fun n z => ⟨fun k h => (by cases h), k, h2, comp, h3⟩, ?_⟩
  cases ty <;> first | exact absurd rfl (hno _) | exact h1
theorem st_cls (hts : ∀ w ∈ lw_tbl, w.before #[Value.ref b] s = true) : ∃ D1 : va_G, ∀ (c : Nat) (q : vw_C), vwCl[c]? = some q → u_Kn s q.1 q.2.1 q.2.2 (D1.1 c) (D1.2 c) := by
  have h0 : ∀ c : Nat, ∃ r : ClassId × (Nat → Nat), ∀ q : vw_C, vwCl[c]? = some q → u_Kn s q.1 q.2.1 q.2.2 r.1 r.2 := by
    intro c
    match c with
    | 0 => obtain ⟨a, f, h⟩ := u_known (C := RJ0) (T := TJ0) (N := 4) (n := 4) hts inJ0 (hts _ (List.mem_of_getElem? (i := 683) (by decide +kernel))); exact ⟨(a, f), fun q hq => by cases hq; exact h⟩
    | 1 => obtain ⟨a, f, h⟩ := u_known (C := RJ4) (T := TJ4) (N := 4) (n := 4) hts inJ4 (hts _ (List.mem_of_getElem? (i := 226) (by decide +kernel))); exact ⟨(a, f), fun q hq => by cases hq; exact h⟩
    | 2 => obtain ⟨a, f, h⟩ := u_known (C := RJx00060) (T := TJx00060) (N := 6) (n := 6) hts inJx00060 (hts _ (List.mem_of_getElem? (i := 668) (by decide +kernel))); exact ⟨(a, f), fun q hq => by cases hq; exact h⟩
    | 3 => obtain ⟨a, f, h⟩ := u_known (C := RJx7c733) (T := TJx7c733) (N := 6) (n := 6) hts inJx7c733 (hts _ (List.mem_of_getElem? (i := 1460) (by decide +kernel))); exact ⟨(a, f), fun q hq => by cases hq; exact h⟩
    | 4 => obtain ⟨a, f, h⟩ := u_known (C := RJx4a65c) (T := TJx4a65c) (N := 3) (n := 3) hts inJx4a65c (hts _ (List.mem_of_getElem? (i := 86) (by decide +kernel))); exact ⟨(a, f), fun q hq => by cases hq; exact h⟩
    | 5 => obtain ⟨a, f, h⟩ := u_known (C := RX1) (T := TX1) (N := 4) (n := 4) hts inX1 (hts _ (List.mem_of_getElem? (i := 920) (by decide +kernel))); exact ⟨(a, f), fun q hq => by cases hq; exact h⟩
    | 6 => obtain ⟨a, f, h⟩ := u_known (C := RX3) (T := TX3) (N := 7) (n := 7) hts inX3 (hts _ (List.mem_of_getElem? (i := 321) (by decide +kernel))); exact ⟨(a, f), fun q hq => by cases hq; exact h⟩
    | 7 => obtain ⟨a, f, h⟩ := u_known (C := RX4) (T := TX4) (N := 11) (n := 11) hts inX4 (hts _ (List.mem_of_getElem? (i := 80) (by decide +kernel))); exact ⟨(a, f), fun q hq => by cases hq; exact h⟩
    | 8 => obtain ⟨a, f, h⟩ := u_known (C := RX5) (T := TX5) (N := 4) (n := 4) hts inX5 (hts _ (List.mem_of_getElem? (i := 811) (by decide +kernel))); exact ⟨(a, f), fun q hq => by cases hq; exact h⟩
    | 9 => obtain ⟨a, f, h⟩ := u_known (C := RX6) (T := TX6) (N := 5) (n := 5) hts inX6 (hts _ (List.mem_of_getElem? (i := 120) (by decide +kernel))); exact ⟨(a, f), fun q hq => by cases hq; exact h⟩
    | 10 => obtain ⟨a, f, h⟩ := u_known (C := RX7) (T := TX7) (N := 3) (n := 3) hts inX7 (hts _ (List.mem_of_getElem? (i := 210) (by decide +kernel))); exact ⟨(a, f), fun q hq => by cases hq; exact h⟩
    | 11 => obtain ⟨a, f, h⟩ := u_known (C := RX8) (T := TX8) (N := 2) (n := 2) hts inX8 (hts _ (List.mem_of_getElem? (i := 112) (by decide +kernel))); exact ⟨(a, f), fun q hq => by cases hq; exact h⟩
    | 12 => obtain ⟨a, f, h⟩ := u_known (C := RX9) (T := TX9) (N := 9) (n := 9) hts inX9 (hts _ (List.mem_of_getElem? (i := 72) (by decide +kernel))); exact ⟨(a, f), fun q hq => by cases hq; exact h⟩
    | c + 13 => exact ⟨(default, fun _ => 0), fun q hq => by simp [vwCl] at hq⟩
  obtain ⟨f, hf⟩ := Classical.axiomOfChoice h0
  exact ⟨(fun c => (f c).1, fun c => (f c).2), fun c q hq => hf c q hq⟩
theorem st_arrs (hts : ∀ w ∈ lw_tbl, w.before #[Value.ref b] s = true) : ∃ (ix : Nat → ClassId), ∀ (k : Nat) (q : ClassId × FieldType), ([(ix 0, .int), (ix 1, .byte), (ix 2, .char), (ix 3, .int), (ix 4, .int), (ix 5, .object "java/lang/Object")] : List (ClassId × FieldType))[k]? = some q → ArrOfT s q.1 q.2 ∧ va_RA s q.1 q.2 := by
  obtain ⟨c0, h0⟩ := st_arr (b := b) (s := s) (ty := .int) (fun C z => by cases z) (hts (Jvm.Cond.arrayClass Jvm.ClassFile.FieldType.int) (List.mem_of_getElem? (i := 206) (by decide +kernel)))
  obtain ⟨c1, h1⟩ := st_arr (b := b) (s := s) (ty := .byte) (fun C z => by cases z) (hts (Jvm.Cond.arrayClass Jvm.ClassFile.FieldType.byte) (List.mem_of_getElem? (i := 258) (by decide +kernel)))
  obtain ⟨c2, h2⟩ := st_arr (b := b) (s := s) (ty := .char) (fun C z => by cases z) (hts (Jvm.Cond.arrayClass Jvm.ClassFile.FieldType.char) (List.mem_of_getElem? (i := 257) (by decide +kernel)))
  obtain ⟨comp, c5, k5, y1, y2, y3, y4, y5⟩ := Cond.arrayOver_spec (hts (Jvm.Cond.arrayOver (Jvm.ClassFile.FieldType.object "java/lang/Object")) (List.mem_of_getElem? (i := 417) (by decide +kernel)))
  have h5 : ArrOfT s c5 (.object "java/lang/Object") ∧ va_RA s c5 (.object "java/lang/Object") := ⟨fun n z => ⟨fun k h => (by cases h), k5, y3, comp, y4⟩, k5, comp, y3, y4, y1, y5⟩
  refine ⟨fun k => if k = 0 then c0 else if k = 1 then c1 else if k = 2 then c2 else if k = 3 then c0 else if k = 4 then c0 else c5, ?_⟩
  intro k q hq
  match k, hq with
  | 0, hq => cases hq; exact h0
  | 1, hq => cases hq; exact h1
  | 2, hq => cases hq; exact h2
  | 3, hq => cases hq; exact h0
  | 4, hq => cases hq; exact h0
  | 5, hq => cases hq; exact h5
  | k + 6, hq => simp at hq
theorem st_all (hN : ∀ w ∈ NA, w.before #[Value.ref b] s = true) (hts : ∀ w ∈ lw_tbl, w.before #[Value.ref b] s = true) (hl : l.stackTraces = false) (hX : va_X b L xs s s.heap) (hb : b < s.heap.size) (hL : L ≤ 260) : ∃ (D : va_G) (idx : Nat → ClassId) (de mi d1 d10 : Nat) (vf : Value) (sr ss : Nat), gOk (sG l D idx s) ∧ gHl (sG l D idx s) de mi d1 d10 vf sr ss ∧ gPa (sG l D idx s) .int b L (fun j => .int (xs j)) := by
  obtain ⟨D, hD⟩ := st_cls hts
  obtain ⟨idx, hidx⟩ := st_arrs hts
  have hK : va_K D vwCl (gTys (sG l D idx s)) s := ⟨hD, hidx⟩
  obtain ⟨de, mi, a1⟩ := st_al (l := l) (D := D) (idx := idx) hN hts
  obtain ⟨d1, d10, vf, a2⟩ := st_sb (l := l) (D := D) (idx := idx) hN hts
  obtain ⟨sr, ss, a3⟩ := st_tx (l := l) (D := D) (idx := idx) hN hts
  refine ⟨D, idx, de, mi, d1, d10, vf, sr, ss, ⟨hl, fun U hU => ⟨va_K.moved hU.1.alike hK, fun w hw => ?_⟩, fun u U hW hu hs hq hK9 => ⟨hK9.1.trans hW, Nat.le_trans hK9.2.1 hs, fun q hq9 => (hq q hq9).trans (hK9.2.2 q hq9)⟩⟩, ⟨?_, a1, ⟨st_pt hN hts, st_xs hN hts⟩, a2, a3, st_lw hN hts, st_nc hN hts⟩, ?_⟩
  · have hm := List.mem_filter.mp hw
    have hb9 := hts w hm.1
    refine gFar_warm hm.2 hU.1 (va_Nw.of ?_ hb9)
    have := hm.2
    cases w <;> first | rfl | (simp [gFar] at this; done)
  · intro e
    have h2 := hidx 2 (idx 2, .char) rfl
    have h0 := hidx 0 (idx 0, .int) rfl
    have e2 : idx 2 = idx 0 := e
    obtain ⟨-, k, y1, c, y2⟩ := h2.1 0 (fun _ => .null)
    obtain ⟨-, k9, z1, c9, z2⟩ := h0.1 0 (fun _ => .null)
    have y1 : s.vm.classes[idx 2]? = some k := y1
    have z1 : s.vm.classes[idx 0]? = some k9 := z1
    rw [e2, z1] at y1
    cases y1
    rw [z2] at y2
    cases y2
  · obtain ⟨cell, x1, x2, x3, x4, x5⟩ := hX
    exact st_t ⟨cell, x1, x2, x3, by omega, by rw [x4], x5, sA_no b hb⟩
end GLzj
