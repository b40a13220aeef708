/-! THE LAYER: worlds as functions from addresses to cells; a method's body as a judgement G over them, without the machine's own names; contracts gC -/
section GLayer
abbrev gHp : Type := Nat → Option va_E
def gUp (h : gHp) (a : Nat) (e : va_E) : gHp := fun b => if b = a then some e else h b
def gGr (h : gHp) (ws : va_W) : Prop := ∀ (a : Nat) (e : va_E), h a = some e ↔ (a, e) ∈ ws
theorem gGr_get {h : gHp} {ws : va_W} (g : gGr h ws) {a : Nat} {e : va_E} (ha : h a = some e) : ∃ k : Nat, ws[k]? = some (a, e) := List.getElem?_of_mem ((g a e).mp ha)
theorem gGr_set {h : gHp} {ws : va_W} {A : Nat → Prop} (g : gGr h ws) (hD : va_D A ws) {k a : Nat} {e0 : va_E} (e : va_E) (hk : ws[k]? = some (a, e0)) : gGr (gUp h a e) (ws.set k (a, e)) := by
  have hlt : k < ws.length := (List.getElem?_eq_some_iff.mp hk).1
  intro b f
  unfold gUp
  constructor
  · intro hb
    by_cases hba : b = a
    · rw [if_pos hba] at hb
      cases hb
      subst hba
      exact List.mem_of_getElem? (i := k) (by rw [List.getElem?_set_self hlt])
    · rw [if_neg hba] at hb
      obtain ⟨j, hj⟩ := gGr_get g hb
      have hne : k ≠ j := fun z => by
        subst z
        rw [hk] at hj
        cases hj
        exact hba rfl
      exact List.mem_of_getElem? (i := j) (by rw [List.getElem?_set_ne hne]; exact hj)
  · intro hm
    obtain ⟨j, hj⟩ := List.getElem?_of_mem hm
    by_cases hjk : k = j
    · subst hjk
      rw [List.getElem?_set_self hlt] at hj
      cases hj
      rw [if_pos rfl]
    · rw [List.getElem?_set_ne hjk] at hj
      have hba : b ≠ a := fun z => hjk (hD.1 k j _ _ hk hj z.symm)
      rw [if_neg hba]
      exact (g b f).mpr (List.mem_of_getElem? hj)
theorem gGr_push {h : gHp} {ws : va_W} {A : Nat → Prop} {q : Nat} {e : va_E} (g : gGr h ws) (hD : va_D A (ws ++ [(q, e)])) : gGr (gUp h q e) (ws ++ [(q, e)]) ∧ h q = none := by
  have hn : ∀ f, (q, f) ∉ ws := fun f hm => by
    obtain ⟨j, hj⟩ := List.getElem?_of_mem hm
    have hlt : j < ws.length := (List.getElem?_eq_some_iff.mp hj).1
    have h1 : (ws ++ [(q, e)])[j]? = some (q, f) := by rw [List.getElem?_append_left hlt]; exact hj
    have h2 : (ws ++ [(q, e)])[ws.length]? = some (q, e) := by simp
    have := hD.1 j ws.length _ _ h1 h2 rfl
    omega
  refine ⟨fun b f => ?_, ?_⟩
  · unfold gUp
    by_cases hb : b = q
    · subst hb
      rw [if_pos rfl]
      constructor
      · intro z
        cases z
        exact List.mem_append_right _ List.mem_cons_self
      · intro hm
        rcases List.mem_append.mp hm with z | z
        · exact absurd z (hn f)
        · cases List.mem_singleton.mp z
          rfl
    · rw [if_neg hb]
      constructor
      · intro z
        exact List.mem_append_left _ ((g b f).mp z)
      · intro hm
        rcases List.mem_append.mp hm with z | z
        · exact (g b f).mpr z
        · cases List.mem_singleton.mp z
          exact absurd rfl hb
  · cases hq : h q with
    | none => rfl
    | some f => exact absurd ((g q f).mp hq) (hn f)
theorem gUp_s (h : gHp) (a : Nat) (e : va_E) : gUp h a e a = some e := if_pos rfl
theorem gUp_n (h : gHp) {a b : Nat} (e : va_E) (n : b ≠ a) : gUp h a e b = h b := if_neg n
def lw_good : List Cond := lw_tbl.filter goodWord
theorem gIn {w : Cond} (h : w ∈ lw_tbl) (g : goodWord w = true) : w ∈ lw_good := List.mem_filter.mpr ⟨h, g⟩
theorem gGood : ∀ w ∈ lw_good, goodWord w = true := fun _ h => (List.mem_filter.mp h).2
def gFar : Cond → Bool
  | .fieldLinkNest .. => true
  | .methodLinkNest .. => true
  | .castable .. => true
  | .declares .. => true
  | _ => false
def lw_far : List Cond := lw_tbl.filter gFar
theorem gInF {w : Cond} (h : w ∈ lw_tbl) (g : gFar w = true) : w ∈ lw_far := List.mem_filter.mpr ⟨h, g⟩
theorem gFar_warm {w : Cond} (g : gFar w = true) {s U : State} (hW : s.WarmedH U.vm) (h : va_Nw w s) : va_Nw w U := by
  cases w <;> first | exact va_Nw.warmF hW h | exact va_Nw.warmM hW h | exact va_Nw.warmC hW h | exact va_Nw.warmD hW h | (simp [gFar] at g; done)
/-- what is the same all through the law's run: the launch, the classes' numbers, the arrays' classes, the first address that is ours, what stays of the tables and the old cells -/
abbrev gE : Type := Launch × va_G × (Nat → ClassId) × Nat × (State → Prop)
abbrev gl (Γ : gE) : Launch := Γ.1
abbrev gD (Γ : gE) : va_G := Γ.2.1
abbrev gb (Γ : gE) : Nat := Γ.2.2.2.1
abbrev gK (Γ : gE) : State → Prop := Γ.2.2.2.2
def gTys (Γ : gE) : List (ClassId × FieldType) := [(Γ.2.2.1 0, .int), (Γ.2.2.1 1, .byte), (Γ.2.2.1 2, .char), (Γ.2.2.1 3, .int), (Γ.2.2.1 4, .int), (Γ.2.2.1 5, .object "java/lang/Object")]
def gA (Γ : gE) : Nat → Prop := fun q => gb Γ ≤ q
def gOk (Γ : gE) : Prop := (gl Γ).stackTraces = false ∧ (∀ U, gK Γ U → va_K (gD Γ) vwCl (gTys Γ) U ∧ ∀ w ∈ lw_far, va_Nw w U) ∧ ∀ u U : State, u.WarmedH U.vm → gb Γ ≤ u.heap.size → u.heap.size ≤ U.heap.size → (∀ q, q < gb Γ → U.heap[q]? = u.heap[q]?) → gK Γ u → gK Γ U
/-- cells: int row, byte row, char row, long row, double row, row of references, object -/
def gI (Γ : gE) (n : Nat) (f : Nat → Int32) : va_E := .inl (Γ.2.2.1 0, n, .inl f)
def gB (Γ : gE) (n : Nat) (f : Nat → Int32) : va_E := .inl (Γ.2.2.1 1, n, .inl f)
def gCh (Γ : gE) (n : Nat) (f : Nat → Int32) : va_E := .inl (Γ.2.2.1 2, n, .inl f)
def gLo (Γ : gE) (n : Nat) (f : Nat → Int64) : va_E := .inl (Γ.2.2.1 3, n, .inr (.inl f))
def gDo (Γ : gE) (n : Nat) (f : Nat → UInt64) : va_E := .inl (Γ.2.2.1 4, n, .inr (.inr (.inr (.inl f))))
def gO (Γ : gE) (n : Nat) (f : Nat → Option Nat) : va_E := .inl (Γ.2.2.1 5, n, .inr (.inr (.inr (.inr f))))
def gJ (ci : Nat) (fs : List Value) : va_E := .inr (ci, fs)
/-- a method: its name, bytes, locals, answer, handlers -/
abbrev gM : Type := MethodName × ByteArray × Nat × Option FieldType × List (Nat × Nat × Nat × Nat)
def gCtx (Γ : gE) (M : gM) (p : Program) (s : State) (m : MethodId) (args : Array Value) (meth : Method) (c : Code) : Prop :=
  p.tables.exec = Jvm.exec ∧ c.code = M.2.1 ∧ c.maxLocals = M.2.2.1 ∧ s.vm.findClass M.1.cls = some m.cls ∧ (∀ w ∈ lw_good, w.before args s = true) ∧ meth.sig.returnType = M.2.2.2.1 ∧ meth.locks = false ∧ c.exceptionTable.toList = tableOf M.2.2.2.2 ∧ meth.name = M.1.name ∧ gOk Γ ∧ gK Γ s ∧ gb Γ ≤ s.heap.size
def gAt (Γ : gE) (h : gHp) (s : State) (H : Heap) (locs : List Loc) : Prop := ∃ ws : va_W, gGr h ws ∧ va_P (gD Γ) vwCl ws H ∧ va_D (gA Γ) ws ∧ va_S (gA Γ) s.heap H locs
def gRet (cc : ByteArray) (pc : Nat) (rt : Option FieldType) : Option Value → Prop
  | none => decode cc pc = .ok (.return_, 1) ∧ rt = none
  | some (.int x) => decode cc pc = .ok (.ireturn, 1) ∧ ∃ ty, rt = some ty ∧ narrow ty (.int x) = .int x
  | some (.ref _) => decode cc pc = .ok (.areturn, 1) ∧ ∃ ty, rt = some ty ∧ ((∃ n, ty = .object n) ∨ ∃ t, ty = .array t)
  | some .null => decode cc pc = .ok (.areturn, 1) ∧ ∃ ty, rt = some ty ∧ ((∃ n, ty = .object n) ∨ ∃ t, ty = .array t)
  | some (.double _) => decode cc pc = .ok (.dreturn, 1) ∧ rt = some .double
  | some (.float _) => decode cc pc = .ok (.freturn, 1) ∧ rt = some .float
  | some (.long _) => decode cc pc = .ok (.lreturn, 1) ∧ rt = some .long
  | _ => False
def gAs : Nat → List (Option Value) → List (Nat × Value)
  | _, [] => []
  | i, none :: t => gAs (i + 1) t
  | i, some v :: t => (i, v) :: gAs (i + 1) t
/-- a state of the world -/
def gV (Γ : gE) (h : gHp) (U : State) : Prop := gb Γ ≤ U.heap.size ∧ ∃ ws : va_W, gGr h ws ∧ va_P (gD Γ) vwCl ws U.heap ∧ va_D (gA Γ) ws
def gU (Γ : gE) (h : gHp) (U : State) : Prop := gK Γ U ∧ gV Γ h U
def gQ (Γ : gE) (Z : Option Value → gHp → Prop) : Array Value → State → Outcome → State → Prop := fun _ st oc t => (∃ (v : Option Value) (h : gHp), oc = .returned v ∧ Z v h ∧ gV Γ h t) ∧ va_F (gA Γ) st t
def gQX (Γ : gE) (ZX : String → gHp → Prop) : String → State → State → Prop := fun E st t => (∃ h : gHp, ZX E h ∧ gV Γ h t) ∧ va_F (gA Γ) st t
/-- the judgement: from here (place, locals, operands, cells) the method comes to an end as Z (returned) or ZX (thrown) say, with at most rc more cells of rs slots -/
def G (Γ : gE) (M : gM) (d mc ms : Nat) (Z : Option Value → gHp → Prop) (ZX : String → gHp → Prop) (rc rs pc : Nat) (L : List (Option Value)) (st : List Value) (h : gHp) : Prop :=
  ∀ (p : Program) (e : Env) (R : Room) (s : State) (m : MethodId) (args : Array Value) (below : List Frame) (meth : Method) (c : Code) (H : Heap) (locs : List Loc) (cells slots : Nat) (ls : Array Slot),
    gCtx Γ M p s m args meth c → d ≤ R.frames → 100 * d ≤ R.locals → mc ≤ R.cells → ms ≤ R.slots →
    gAt Γ h s H locs → lv_has ls M.2.2.1 (gAs 0 L) → cells + rc ≤ mc → slots + rs ≤ ms → W p (gl Γ) e R s m args below meth c H locs cells slots (vx_MQ below (gQ Γ Z) (gQX Γ ZX) args s mc ms (gA Γ)) (F0 m pc ls st)
def gRm (d mc ms : Nat) : Room := { frames := d, cells := mc, slots := ms, locals := 100 * d }
def gW (M : gM) : Cond := if M.2.2.2.2 = [] then Cond.code M.1 M.2.1 M.2.2.1 M.2.2.2.1 else Cond.codeWith M.1 M.2.1 M.2.2.1 M.2.2.2.1 M.2.2.2.2
/-- a contract: the method on these values in this world -/
def gC (Γ : gE) (M : gM) (av : List Value) (h : gHp) (d mc ms : Nat) (Z : Option Value → gHp → Prop) (ZX : String → gHp → Prop) : Prop :=
  gOk Γ → vx_Met (gl Γ) M.1 (gW M :: lw_good) (gRm d mc ms) (va_Pc av (gU Γ h)) (gQ Γ Z) (gQX Γ ZX) mc ms (gA Γ)
theorem gAt_V {Γ : gE} {h : gHp} {s : State} {H : Heap} {locs : List Loc} (hb : gb Γ ≤ s.heap.size) (ha : gAt Γ h s H locs) {t : State} (ht : t.heap = H) : gV Γ h t := by
  obtain ⟨ws, g, hP, hD, hS⟩ := ha
  exact ⟨by rw [ht]; exact Nat.le_trans hb hS.1, ws, g, by rw [ht]; exact hP, hD⟩
theorem gAt_U {Γ : gE} {h : gHp} {s : State} {H : Heap} {locs : List Loc} (hok : gOk Γ) (hK : gK Γ s) (hb : gb Γ ≤ s.heap.size) (ha : gAt Γ h s H locs) {t : State} (ht : t.heap = H) (hv : s.WarmedH t.vm) : gU Γ h t := by
  refine ⟨?_, gAt_V hb ha ht⟩
  obtain ⟨ws, g, hP, hD, hS⟩ := ha
  refine hok.2.2 s t hv hb (by rw [ht]; exact hS.1) (fun q hq => ?_) hK
  rw [ht]
  exact hS.2.1 q (by omega) (fun z => by unfold gA at z; omega)
theorem gAt_of {Γ : gE} {h : gHp} {s : State} (hU : gU Γ h s) : gAt Γ h s s.heap [] := by
  obtain ⟨-, -, ws, g, hP, hD⟩ := hU
  exact ⟨ws, g, hP, hD, va_S.rf⟩
/-- the ends of a body -/
theorem g_end {Γ : gE} {M : gM} {d mc ms : Nat} {Z : Option Value → gHp → Prop} {ZX : String → gHp → Prop} {rc rs pc : Nat} {L : List (Option Value)} {st : List Value} {h : gHp} (v : Option Value) (hv : st = v.toList) (hret : gRet M.2.1 pc M.2.2.2.1 v) (hz : Z v h) : G Γ M d mc ms Z ZX rc rs pc L st h := by
  intro p e R s m args below meth c H locs cells slots ls C hd1 hd2 hd3 hd4 ha hl hc hs
  obtain ⟨hx, hb, hml, hown, hts, hr, hlocks, htb, hnm, hok, hK, hbs⟩ := C
  subst hv
  have hloc : ∀ q ∈ locs, gA Γ q.base := by
    obtain ⟨_, _, _, _, hS⟩ := ha
    exact hS.2.2
  have hF : ∀ t : State, t.heap = H → va_F (gA Γ) s t := by
    obtain ⟨_, _, _, _, hS⟩ := ha
    intro t ht
    exact hS.F ht
  have hq : ∀ t : State, t.heap = H → s.WarmedH t.vm → gQ Γ Z args s (.returned v) t := fun t ht hW => ⟨⟨v, h, rfl, hz, gAt_V hbs ha ht⟩, hF t ht⟩
  refine W.widen (k := mc) (n := ms) (by omega) (by omega) (vx_ret ?_)
  match v, hret, hq with
  | none, ⟨hd, hrt⟩, hq => exact W.vret hx hb (hr.trans hrt) hq hloc hd
  | some (.int x), ⟨hd, ty, hrt, hn⟩, hq => exact W.zret hx hb (hr.trans hrt) hn hq hloc hd
  | some (.ref a), ⟨hd, ty, hrt, ho⟩, hq => exact W.aret hx hb (hr.trans hrt) ho (Or.inr ⟨a, rfl⟩) hq hloc hd
  | some .null, ⟨hd, ty, hrt, ho⟩, hq => exact W.aret hx hb (hr.trans hrt) ho (Or.inl rfl) hq hloc hd
  | some (.double x), ⟨hd, hrt⟩, hq => exact W.dret hx hb (hr.trans hrt) hq hloc hd
  | some (.float x), ⟨hd, hrt⟩, hq => exact W.fret hx hb (hr.trans hrt) hq hloc hd
  | some (.long x), ⟨hd, hrt⟩, hq => exact W.lret hx hb (hr.trans hrt) hq hloc hd
/-- a contract out of the judgement at the method's first place -/
theorem gC_of {Γ : gE} {M : gM} {av : List Value} {h : gHp} {d mc ms : Nat} {Z : Option Value → gHp → Prop} {ZX : String → gHp → Prop} (hy : plainName M.1.cls = true) (hh : M.2.2.2.2 = []) (hlen : (lg_sl av).length ≤ M.2.2.1) (L : List (Option Value)) (hL : gAs 0 L = lv_args 0 av)
    (k : G Γ M d mc ms Z ZX mc ms 0 L [] h) : gC Γ M av h d mc ms Z ZX := by
  intro hok
  have hw : gW M :: lw_good = Cond.code M.1 M.2.1 M.2.2.1 M.2.2.2.1 :: lw_good := by unfold gW; rw [if_pos hh]
  refine vx_ofW (cc := M.2.1) (maxL := M.2.2.1) (ret := M.2.2.2.1) hy hw ?_
  intro p e s m args below meth c s₁ B hml htb hv
  obtain ⟨rfl, hU⟩ := hv
  have hts := atoms_spec (ws := gW M :: lw_good) B.pre
  have C : gCtx Γ M p s m av.toArray meth c := ⟨B.exec, B.bytes, hml, findClass_of_methodNamed B.named, fun w h => hts w (List.mem_cons_of_mem _ h), B.returns, B.notSynchronized, (by
    rw [hh]
    cases hq : c.exceptionTable.toList with
    | nil => rfl
    | cons a t => exact (htb a (by rw [hq]; exact List.mem_cons_self)).elim), (name_of_methodNamed B.named B.method).1, hok, hU.1, hU.2.1⟩
  rw [lg_entry_eq]
  exact k p e _ s m av.toArray below meth c s.heap [] 0 0 _ C (Nat.le_refl _) (Nat.le_refl _) (Nat.le_refl _) (Nat.le_refl _) (gAt_of hU) (by rw [hL]; exact lv_entry av hlen) (by omega) (by omega)
theorem gC_ofH {Γ : gE} {M : gM} {av : List Value} {h : gHp} {d mc ms : Nat} {Z : Option Value → gHp → Prop} {ZX : String → gHp → Prop} (hy : plainName M.1.cls = true) (hh : M.2.2.2.2 ≠ []) (hlen : (lg_sl av).length ≤ M.2.2.1) (L : List (Option Value)) (hL : gAs 0 L = lv_args 0 av)
    (k : G Γ M d mc ms Z ZX mc ms 0 L [] h) : gC Γ M av h d mc ms Z ZX := by
  intro hok
  have hw : gW M :: lw_good = Cond.codeWith M.1 M.2.1 M.2.2.1 M.2.2.2.1 M.2.2.2.2 :: lw_good := by unfold gW; rw [if_neg hh]
  refine vx_ofWH (cc := M.2.1) (maxL := M.2.2.1) (ret := M.2.2.2.1) (hh := M.2.2.2.2) hy hw ?_
  intro p e s m args below meth c s₁ B hml hv
  obtain ⟨rfl, hU⟩ := hv
  have hts := atoms_spec (ws := gW M :: lw_good) B.pre
  have hcw := hts (gW M) List.mem_cons_self
  have hg : gW M = Cond.codeWith M.1 M.2.1 M.2.2.1 M.2.2.2.1 M.2.2.2.2 := by unfold gW; rw [if_neg hh]
  rw [hg] at hcw
  have C : gCtx Γ M p s m av.toArray meth c := ⟨B.exec, B.bytes, hml, findClass_of_methodNamed B.named, fun w h => hts w (List.mem_cons_of_mem _ h), B.returns, B.notSynchronized, vx_table (x := M.1) B hcw, (name_of_methodNamed B.named B.method).1, hok, hU.1, hU.2.1⟩
  rw [lg_entry_eq]
  exact k p e _ s m av.toArray below meth c s.heap [] 0 0 _ C (Nat.le_refl _) (Nat.le_refl _) (Nat.le_refl _) (Nat.le_refl _) (gAt_of hU) (by rw [hL]; exact lv_entry av hlen) (by omega) (by omega)

end GLayer
