/-! THE LAYER'S RULES: cells, calls, ends by a throw -/
section GMem
variable {Γ : gE} {M : gM} {d mc ms : Nat} {Z : Option Value → gHp → Prop} {ZX : String → gHp → Prop} {rc rs pc : Nat} {L L' : List (Option Value)} {st st' : List Value} {h : gHp}
/-- a field of a class, as a method of 'own' names it -/
def gFld (own : String) (idx ci k : Nat) (ty : FieldType) (fin : Bool) : Prop := ∃ (C ref : String) (T : u_T) (N : Nat) (ty0 : Nat → FieldType), vwCl[ci]? = some (C, T, N) ∧ k < N ∧ (∀ w ∈ u_ws C T N, w ∈ lw_good) ∧ Cond.fieldLink own idx ref (T k).2.1 (T k).2.2.1 ∈ lw_good ∧ (ref = (T k).1 ∨ Cond.sameField ref (T k).1 (T k).2.1 (T k).2.2.1 ∈ lw_good) ∧ (∀ k, k < N → parseFieldDescriptor (T k).2.2.1 = some (ty0 k)) ∧ (∀ a, a < N → ∀ b, b < N → a ≠ b → (T a).2.1 ≠ (T b).2.1) ∧ ty0 k = ty ∧ (T k).2.2.2 = fin
def gFin (own : String) (ci k : Nat) : Prop := ∃ (C : String) (T : u_T) (N : Nat), vwCl[ci]? = some (C, T, N) ∧ (T k).1 = own
theorem gSame {s : State} {args : Array Value} (hts : ∀ w ∈ lw_good, w.before args s = true) {ref C n d9 : String} (h9 : ref = C ∨ Cond.sameField ref C n d9 ∈ lw_good) : ∀ x, s.fieldFound? C n d9 = some x → s.fieldFound? ref n d9 = some x := by
  rcases h9 with rfl | h9
  · exact fun _ q => q
  · exact fun x hx => u_same (hts _ h9) x hx
theorem g_getf {idx ci k a : Nat} {ty : FieldType} {fin : Bool} {fs : List Value} {v : Value} (hf : gFld M.1.cls idx ci k ty fin) (hd : decode M.2.1 pc = .ok (.getfield idx, 3)) (ho : h a = some (.inr (ci, fs))) (hv : fs[k]? = some v) (kk : G Γ M d mc ms Z ZX rc rs (pc + 3) L (v :: st) h) : G Γ M d mc ms Z ZX rc rs pc L (.ref a :: st) h := by
  intro p e R s m args below meth c H locs cells slots ls C hd1 hd2 hd3 hd4 ha hl hc hs
  obtain ⟨hx, hb, hml, hown, hts, hr, hlocks, htb, hnm, hok, hK, hbs⟩ := id C
  obtain ⟨C9, ref, T, N, ty0, f1, f2, f3, f4, f5, f6, f7, f8, f9⟩ := hf
  obtain ⟨ws, g, hP, hD, hS⟩ := id ha
  obtain ⟨q0, hq0⟩ := gGr_get g ho
  exact va_get hx hb hts f3 hown (hok.2.1 s hK).1 hP q0 hq0 f1 k f2 (hts _ f4) (gSame hts f5) hv hd (kk p e R s m args below meth c H locs cells slots ls C hd1 hd2 hd3 hd4 ha hl hc hs)
theorem g_putf {idx ci k a : Nat} {ty : FieldType} {fs : List Value} {v : Value} (hf : gFld M.1.cls idx ci k ty false) (hd : decode M.2.1 pc = .ok (.putfield idx, 3)) (ho : h a = some (.inr (ci, fs))) (hk : k < fs.length) (hn : narrow ty v = v) (hfit : fits ty v = true) (kk : G Γ M d mc ms Z ZX rc rs (pc + 3) L st (gUp h a (.inr (ci, fs.set k v)))) : G Γ M d mc ms Z ZX rc rs pc L (v :: .ref a :: st) h := by
  intro p e R s m args below meth c H locs cells slots ls C hd1 hd2 hd3 hd4 ha hl hc hs
  obtain ⟨hx, hb, hml, hown, hts, hr, hlocks, htb, hnm, hok, hK, hbs⟩ := id C
  obtain ⟨C9, ref, T, N, ty0, f1, f2, f3, f4, f5, f6, f7, f8, f9⟩ := hf
  obtain ⟨ws, g, hP, hD, hS⟩ := ha
  obtain ⟨q0, hq0⟩ := gGr_get g ho
  exact va_put (ty := ty) hx hb hts f3 ty0 f6 f7 hown (hok.2.1 s hK).1 hP hD hS q0 hq0 f1 k f2 (hts _ f4) (gSame hts f5) f9 (by rw [f6 k f2, f8]) hn hfit hk hd (fun H1 locs1 hP1 hD1 hS1 => kk p e R s m args below meth c H1 locs1 cells slots ls C hd1 hd2 hd3 hd4 ⟨_, gGr_set g hD _ hq0, hP1, hD1, hS1⟩ hl hc hs)
theorem g_putfF {idx ci k a : Nat} {ty : FieldType} {fs : List Value} {v : Value} (hf : gFld M.1.cls idx ci k ty true) (hF : gFin M.1.cls ci k) (hin : M.1.name = "<init>") (hd : decode M.2.1 pc = .ok (.putfield idx, 3)) (ho : h a = some (.inr (ci, fs))) (hk : k < fs.length) (hn : narrow ty v = v) (hfit : fits ty v = true) (kk : G Γ M d mc ms Z ZX rc rs (pc + 3) L st (gUp h a (.inr (ci, fs.set k v)))) : G Γ M d mc ms Z ZX rc rs pc L (v :: .ref a :: st) h := by
  intro p e R s m args below meth c H locs cells slots ls C hd1 hd2 hd3 hd4 ha hl hc hs
  obtain ⟨hx, hb, hml, hown, hts, hr, hlocks, htb, hnm, hok, hK, hbs⟩ := id C
  obtain ⟨C9, ref, T, N, ty0, f1, f2, f3, f4, f5, f6, f7, f8, f9⟩ := hf
  obtain ⟨ws, g, hP, hD, hS⟩ := ha
  obtain ⟨q0, hq0⟩ := gGr_get g ho
  obtain ⟨C8, T8, N8, f11, f12⟩ := hF
  cases Option.some.inj (f1.symm.trans f11)
  exact va_putF (ty := ty) hx hb hts f3 ty0 f6 f7 hown (hok.2.1 s hK).1 hP hD hS q0 hq0 f1 k f2 (hts _ f4) (gSame hts f5) f9 (hnm.trans hin) f12 (by rw [f6 k f2, f8]) hn hfit hk hd (fun H1 locs1 hP1 hD1 hS1 => kk p e R s m args below meth c H1 locs1 cells slots ls C hd1 hd2 hd3 hd4 ⟨_, gGr_set g hD _ hq0, hP1, hD1, hS1⟩ hl hc hs)

theorem g_iaload {a n : Nat} {f : Nat → Int32} {i : Int32} (hd : decode M.2.1 pc = .ok (.iaload, 1)) (ho : h a = some (gI Γ n f)) (hin : vp_in i n) (kk : G Γ M d mc ms Z ZX rc rs (pc + 1) L (.int (f i.toNatClampNeg) :: st) h) : G Γ M d mc ms Z ZX rc rs pc L (.int i :: .ref a :: st) h := by
  intro p e R s m args below meth c H locs cells slots ls C hd1 hd2 hd3 hd4 ha hl hc hs
  obtain ⟨hx, hb, hml, hown, hts, hr, hlocks, htb, hnm, hok, hK, hbs⟩ := id C
  obtain ⟨ws, g, hP, hD, hS⟩ := id ha
  obtain ⟨q0, hq0⟩ := gGr_get g ho
  exact va_iald hx hb (hok.2.1 s hK).1 hP q0 0 hq0 rfl hin hd (kk p e R s m args below meth c H locs cells slots ls C hd1 hd2 hd3 hd4 ha hl hc hs)
theorem g_iastore {a n : Nat} {f : Nat → Int32} {i : Int32} {x : Int32} (hd : decode M.2.1 pc = .ok (.iastore, 1)) (ho : h a = some (gI Γ n f)) (hin : vp_in i n) (kk : G Γ M d mc ms Z ZX rc rs (pc + 1) L st (gUp h a (gI Γ n (upd f i.toNatClampNeg x)))) : G Γ M d mc ms Z ZX rc rs pc L (.int x :: .int i :: .ref a :: st) h := by
  intro p e R s m args below meth c H locs cells slots ls C hd1 hd2 hd3 hd4 ha hl hc hs
  obtain ⟨hx, hb, hml, hown, hts, hr, hlocks, htb, hnm, hok, hK, hbs⟩ := id C
  obtain ⟨ws, g, hP, hD, hS⟩ := id ha
  obtain ⟨q0, hq0⟩ := gGr_get g ho
  exact va_iast hx hb (hok.2.1 s hK).1 hP hD hS q0 0 hq0 rfl hin hd (fun H1 locs1 hP1 hD1 hS1 => kk p e R s m args below meth c H1 locs1 cells slots ls C hd1 hd2 hd3 hd4 ⟨_, gGr_set g hD _ hq0, hP1, hD1, hS1⟩ hl hc hs)
theorem g_alen_i {a n : Nat} {f : Nat → Int32} (hd : decode M.2.1 pc = .ok (.arraylength, 1)) (ho : h a = some (gI Γ n f)) (kk : G Γ M d mc ms Z ZX rc rs (pc + 1) L (.int (Int32.ofNat n) :: st) h) : G Γ M d mc ms Z ZX rc rs pc L (.ref a :: st) h := by
  intro p e R s m args below meth c H locs cells slots ls C hd1 hd2 hd3 hd4 ha hl hc hs
  obtain ⟨hx, hb, hml, hown, hts, hr, hlocks, htb, hnm, hok, hK, hbs⟩ := id C
  obtain ⟨ws, g, hP, hD, hS⟩ := id ha
  obtain ⟨q0, hq0⟩ := gGr_get g ho
  exact va_alen hx hb (hok.2.1 s hK).1 hP q0 0 hq0 (ty := .int) rfl rfl hd (kk p e R s m args below meth c H locs cells slots ls C hd1 hd2 hd3 hd4 ha hl hc hs)
theorem g_baload {a n : Nat} {f : Nat → Int32} {i : Int32} (hd : decode M.2.1 pc = .ok (.baload, 1)) (ho : h a = some (gB Γ n f)) (hin : vp_in i n) (kk : G Γ M d mc ms Z ZX rc rs (pc + 1) L (.int (f i.toNatClampNeg) :: st) h) : G Γ M d mc ms Z ZX rc rs pc L (.int i :: .ref a :: st) h := by
  intro p e R s m args below meth c H locs cells slots ls C hd1 hd2 hd3 hd4 ha hl hc hs
  obtain ⟨hx, hb, hml, hown, hts, hr, hlocks, htb, hnm, hok, hK, hbs⟩ := id C
  obtain ⟨ws, g, hP, hD, hS⟩ := id ha
  obtain ⟨q0, hq0⟩ := gGr_get g ho
  exact va_bald hx hb (hok.2.1 s hK).1 hP q0 1 hq0 rfl hin hd (kk p e R s m args below meth c H locs cells slots ls C hd1 hd2 hd3 hd4 ha hl hc hs)
theorem g_bastore {a n : Nat} {f : Nat → Int32} {i : Int32} {x : Int32} (hd : decode M.2.1 pc = .ok (.bastore, 1)) (ho : h a = some (gB Γ n f)) (hin : vp_in i n) (kk : G Γ M d mc ms Z ZX rc rs (pc + 1) L st (gUp h a (gB Γ n (upd f i.toNatClampNeg (vp_nar .byte x))))) : G Γ M d mc ms Z ZX rc rs pc L (.int x :: .int i :: .ref a :: st) h := by
  intro p e R s m args below meth c H locs cells slots ls C hd1 hd2 hd3 hd4 ha hl hc hs
  obtain ⟨hx, hb, hml, hown, hts, hr, hlocks, htb, hnm, hok, hK, hbs⟩ := id C
  obtain ⟨ws, g, hP, hD, hS⟩ := id ha
  obtain ⟨q0, hq0⟩ := gGr_get g ho
  exact va_bast hx hb (hok.2.1 s hK).1 hP hD hS q0 1 hq0 rfl hin hd (fun H1 locs1 hP1 hD1 hS1 => kk p e R s m args below meth c H1 locs1 cells slots ls C hd1 hd2 hd3 hd4 ⟨_, gGr_set g hD _ hq0, hP1, hD1, hS1⟩ hl hc hs)
theorem g_alen_b {a n : Nat} {f : Nat → Int32} (hd : decode M.2.1 pc = .ok (.arraylength, 1)) (ho : h a = some (gB Γ n f)) (kk : G Γ M d mc ms Z ZX rc rs (pc + 1) L (.int (Int32.ofNat n) :: st) h) : G Γ M d mc ms Z ZX rc rs pc L (.ref a :: st) h := by
  intro p e R s m args below meth c H locs cells slots ls C hd1 hd2 hd3 hd4 ha hl hc hs
  obtain ⟨hx, hb, hml, hown, hts, hr, hlocks, htb, hnm, hok, hK, hbs⟩ := id C
  obtain ⟨ws, g, hP, hD, hS⟩ := id ha
  obtain ⟨q0, hq0⟩ := gGr_get g ho
  exact va_alen hx hb (hok.2.1 s hK).1 hP q0 1 hq0 (ty := .byte) rfl rfl hd (kk p e R s m args below meth c H locs cells slots ls C hd1 hd2 hd3 hd4 ha hl hc hs)
theorem g_caload {a n : Nat} {f : Nat → Int32} {i : Int32} (hd : decode M.2.1 pc = .ok (.caload, 1)) (ho : h a = some (gCh Γ n f)) (hin : vp_in i n) (kk : G Γ M d mc ms Z ZX rc rs (pc + 1) L (.int (f i.toNatClampNeg) :: st) h) : G Γ M d mc ms Z ZX rc rs pc L (.int i :: .ref a :: st) h := by
  intro p e R s m args below meth c H locs cells slots ls C hd1 hd2 hd3 hd4 ha hl hc hs
  obtain ⟨hx, hb, hml, hown, hts, hr, hlocks, htb, hnm, hok, hK, hbs⟩ := id C
  obtain ⟨ws, g, hP, hD, hS⟩ := id ha
  obtain ⟨q0, hq0⟩ := gGr_get g ho
  exact va_cald hx hb (hok.2.1 s hK).1 hP q0 2 hq0 rfl hin hd (kk p e R s m args below meth c H locs cells slots ls C hd1 hd2 hd3 hd4 ha hl hc hs)
theorem g_castore {a n : Nat} {f : Nat → Int32} {i : Int32} {x : Int32} (hd : decode M.2.1 pc = .ok (.castore, 1)) (ho : h a = some (gCh Γ n f)) (hin : vp_in i n) (kk : G Γ M d mc ms Z ZX rc rs (pc + 1) L st (gUp h a (gCh Γ n (upd f i.toNatClampNeg (vp_nar .char x))))) : G Γ M d mc ms Z ZX rc rs pc L (.int x :: .int i :: .ref a :: st) h := by
  intro p e R s m args below meth c H locs cells slots ls C hd1 hd2 hd3 hd4 ha hl hc hs
  obtain ⟨hx, hb, hml, hown, hts, hr, hlocks, htb, hnm, hok, hK, hbs⟩ := id C
  obtain ⟨ws, g, hP, hD, hS⟩ := id ha
  obtain ⟨q0, hq0⟩ := gGr_get g ho
  exact va_cast hx hb (hok.2.1 s hK).1 hP hD hS q0 2 hq0 rfl hin hd (fun H1 locs1 hP1 hD1 hS1 => kk p e R s m args below meth c H1 locs1 cells slots ls C hd1 hd2 hd3 hd4 ⟨_, gGr_set g hD _ hq0, hP1, hD1, hS1⟩ hl hc hs)
theorem g_alen_c {a n : Nat} {f : Nat → Int32} (hd : decode M.2.1 pc = .ok (.arraylength, 1)) (ho : h a = some (gCh Γ n f)) (kk : G Γ M d mc ms Z ZX rc rs (pc + 1) L (.int (Int32.ofNat n) :: st) h) : G Γ M d mc ms Z ZX rc rs pc L (.ref a :: st) h := by
  intro p e R s m args below meth c H locs cells slots ls C hd1 hd2 hd3 hd4 ha hl hc hs
  obtain ⟨hx, hb, hml, hown, hts, hr, hlocks, htb, hnm, hok, hK, hbs⟩ := id C
  obtain ⟨ws, g, hP, hD, hS⟩ := id ha
  obtain ⟨q0, hq0⟩ := gGr_get g ho
  exact va_alen hx hb (hok.2.1 s hK).1 hP q0 2 hq0 (ty := .char) rfl rfl hd (kk p e R s m args below meth c H locs cells slots ls C hd1 hd2 hd3 hd4 ha hl hc hs)
theorem g_alen_q {a n : Nat} {f : Nat → Option Nat} (hd : decode M.2.1 pc = .ok (.arraylength, 1)) (ho : h a = some (gO Γ n f)) (kk : G Γ M d mc ms Z ZX rc rs (pc + 1) L (.int (Int32.ofNat n) :: st) h) : G Γ M d mc ms Z ZX rc rs pc L (.ref a :: st) h := by
  intro p e R s m args below meth c H locs cells slots ls C hd1 hd2 hd3 hd4 ha hl hc hs
  obtain ⟨hx, hb, hml, hown, hts, hr, hlocks, htb, hnm, hok, hK, hbs⟩ := id C
  obtain ⟨ws, g, hP, hD, hS⟩ := id ha
  obtain ⟨q0, hq0⟩ := gGr_get g ho
  exact va_alen hx hb (hok.2.1 s hK).1 hP q0 5 hq0 (ty := .object "java/lang/Object") rfl rfl hd (kk p e R s m args below meth c H locs cells slots ls C hd1 hd2 hd3 hd4 ha hl hc hs)
theorem g_aaload {a n : Nat} {f : Nat → Option Nat} {i : Int32} (hd : decode M.2.1 pc = .ok (.aaload, 1)) (ho : h a = some (gO Γ n f)) (hin : vp_in i n) (kk : G Γ M d mc ms Z ZX rc rs (pc + 1) L (va_rf (f i.toNatClampNeg) :: st) h) : G Γ M d mc ms Z ZX rc rs pc L (.int i :: .ref a :: st) h := by
  intro p e R s m args below meth c H locs cells slots ls C hd1 hd2 hd3 hd4 ha hl hc hs
  obtain ⟨hx, hb, hml, hown, hts, hr, hlocks, htb, hnm, hok, hK, hbs⟩ := id C
  obtain ⟨ws, g, hP, hD, hS⟩ := id ha
  obtain ⟨q0, hq0⟩ := gGr_get g ho
  exact va_aldq hx hb (hok.2.1 s hK).1 hP q0 5 hq0 rfl hin hd (kk p e R s m args below meth c H locs cells slots ls C hd1 hd2 hd3 hd4 ha hl hc hs)
theorem gBytes (ty : FieldType) {N : Nat} (h : N ≤ 1000000) : N * componentBytes ty ≤ 536870912 := by
  have h8 : componentBytes ty ≤ 8 := by cases ty <;> first | decide | simp [componentBytes]
  have := Nat.mul_le_mul h h8
  omega
theorem gTysNo {ty : FieldType} {cA : ClassId} {s : State} (hK : va_K (gD Γ) vwCl (gTys Γ ++ [(cA, ty)]) s) (j : Nat) (cB : ClassId) (hj : (gTys Γ)[j]? = some (cB, ty)) : cA = cB := by
  have h1 := (hK.2 (gTys Γ).length (cA, ty) (by simp)).2
  have h2 := (hK.2 j (cB, ty) (by rw [List.getElem?_append_left (List.getElem?_eq_some_iff.mp hj).1]; exact hj)).2
  unfold va_RA at h1 h2
  cases ty with
  | object C =>
    obtain ⟨_, _, _, _, _, a4⟩ := h1
    obtain ⟨_, _, _, _, _, b4⟩ := h2
    exact Option.some.inj (a4.symm.trans b4)
  | _ => exact Option.some.inj (h1.symm.trans h2)
theorem g_newarr_i {n : Int32} {N rc' rs' : Nat} (hd : decode M.2.1 pc = .ok (.newarray .int, 2)) (hw : Cond.arrayClass .int ∈ lw_good) (hn : ¬ n < 0) (hN : n.toNatClampNeg = N) (hsm : N ≤ 1000000) (h1 : rc' + 1 ≤ rc) (h2 : rs' + N ≤ rs) (kk : ∀ q : Nat, h q = none → G Γ M d mc ms Z ZX rc' rs' (pc + 2) L (.ref q :: st) (gUp h q (gI Γ N (fun _ => 0)))) : G Γ M d mc ms Z ZX rc rs pc L (.int n :: st) h := by
  intro p e R s m args below meth c H locs cells slots ls C hd1 hd2 hd3 hd4 ha hl hc hs
  obtain ⟨hx, hb, hml, hown, hts, hr, hlocks, htb, hnm, hok, hK, hbs⟩ := id C
  obtain ⟨ws, g, hP, hD, hS⟩ := id ha
  have hA : ∀ q, s.heap.size ≤ q → gA Γ q := fun q z => Nat.le_trans hbs z
  refine va_newa (atype := .int) (ty := .int) (a0 := (N, .inl (fun _ => 0))) hx hb (hts _ hw) rfl (hok.2.1 s hK).1 hP hD hS hA (fun cA => rfl) hn hN (gBytes .int hsm) (by omega) (by omega) hd (fun q cA H1 hK1 hP1 hD1 hS1 => ?_)
  have e := gTysNo hK1 0 _ rfl
  subst e
  obtain ⟨g1, g2⟩ := gGr_push g hD1
  exact kk q g2 p e R s m args below meth c H1 locs (cells + 1) (slots + N) ls C hd1 hd2 hd3 hd4 ⟨_, g1, hP1, hD1, hS1⟩ hl (by omega) (by omega)
theorem g_newarr_b {n : Int32} {N rc' rs' : Nat} (hd : decode M.2.1 pc = .ok (.newarray .byte, 2)) (hw : Cond.arrayClass .byte ∈ lw_good) (hn : ¬ n < 0) (hN : n.toNatClampNeg = N) (hsm : N ≤ 1000000) (h1 : rc' + 1 ≤ rc) (h2 : rs' + N ≤ rs) (kk : ∀ q : Nat, h q = none → G Γ M d mc ms Z ZX rc' rs' (pc + 2) L (.ref q :: st) (gUp h q (gB Γ N (fun _ => 0)))) : G Γ M d mc ms Z ZX rc rs pc L (.int n :: st) h := by
  intro p e R s m args below meth c H locs cells slots ls C hd1 hd2 hd3 hd4 ha hl hc hs
  obtain ⟨hx, hb, hml, hown, hts, hr, hlocks, htb, hnm, hok, hK, hbs⟩ := id C
  obtain ⟨ws, g, hP, hD, hS⟩ := id ha
  have hA : ∀ q, s.heap.size ≤ q → gA Γ q := fun q z => Nat.le_trans hbs z
  refine va_newa (atype := .byte) (ty := .byte) (a0 := (N, .inl (fun _ => 0))) hx hb (hts _ hw) rfl (hok.2.1 s hK).1 hP hD hS hA (fun cA => rfl) hn hN (gBytes .byte hsm) (by omega) (by omega) hd (fun q cA H1 hK1 hP1 hD1 hS1 => ?_)
  have e := gTysNo hK1 1 _ rfl
  subst e
  obtain ⟨g1, g2⟩ := gGr_push g hD1
  exact kk q g2 p e R s m args below meth c H1 locs (cells + 1) (slots + N) ls C hd1 hd2 hd3 hd4 ⟨_, g1, hP1, hD1, hS1⟩ hl (by omega) (by omega)
theorem g_newarr_c {n : Int32} {N rc' rs' : Nat} (hd : decode M.2.1 pc = .ok (.newarray .char, 2)) (hw : Cond.arrayClass .char ∈ lw_good) (hn : ¬ n < 0) (hN : n.toNatClampNeg = N) (hsm : N ≤ 1000000) (h1 : rc' + 1 ≤ rc) (h2 : rs' + N ≤ rs) (kk : ∀ q : Nat, h q = none → G Γ M d mc ms Z ZX rc' rs' (pc + 2) L (.ref q :: st) (gUp h q (gCh Γ N (fun _ => 0)))) : G Γ M d mc ms Z ZX rc rs pc L (.int n :: st) h := by
  intro p e R s m args below meth c H locs cells slots ls C hd1 hd2 hd3 hd4 ha hl hc hs
  obtain ⟨hx, hb, hml, hown, hts, hr, hlocks, htb, hnm, hok, hK, hbs⟩ := id C
  obtain ⟨ws, g, hP, hD, hS⟩ := id ha
  have hA : ∀ q, s.heap.size ≤ q → gA Γ q := fun q z => Nat.le_trans hbs z
  refine va_newa (atype := .char) (ty := .char) (a0 := (N, .inl (fun _ => 0))) hx hb (hts _ hw) rfl (hok.2.1 s hK).1 hP hD hS hA (fun cA => rfl) hn hN (gBytes .char hsm) (by omega) (by omega) hd (fun q cA H1 hK1 hP1 hD1 hS1 => ?_)
  have e := gTysNo hK1 2 _ rfl
  subst e
  obtain ⟨g1, g2⟩ := gGr_push g hD1
  exact kk q g2 p e R s m args below meth c H1 locs (cells + 1) (slots + N) ls C hd1 hd2 hd3 hd4 ⟨_, g1, hP1, hD1, hS1⟩ hl (by omega) (by omega)
/-- an object made anew: all its fields as they are born -/
def gNew (own : String) (idx ci : Nat) (fs : List Value) : Prop := ∃ (C : String) (T : u_T) (N : Nat) (ty0 : Nat → FieldType), vwCl[ci]? = some (C, T, N) ∧ (∀ w ∈ u_ws C T N, w ∈ lw_good) ∧ Cond.classLink own idx C ∈ lw_good ∧ Cond.instantiable C N ∈ lw_good ∧ Cond.initialized C ∈ lw_good ∧ (∀ k, k < N → parseFieldDescriptor (T k).2.2.1 = some (ty0 k)) ∧ (∀ j, j < N → defaultValue (ty0 j) = vp_V fs j) ∧ N = fs.length
theorem g_new {idx ci rc' rs' : Nat} {fs : List Value} (hf : gNew M.1.cls idx ci fs) (hd : decode M.2.1 pc = .ok (.new idx, 3)) (h1 : rc' + 1 ≤ rc) (h2 : rs' + fs.length ≤ rs) (kk : ∀ q : Nat, h q = none → G Γ M d mc ms Z ZX rc' rs' (pc + 3) L (.ref q :: st) (gUp h q (.inr (ci, fs)))) : G Γ M d mc ms Z ZX rc rs pc L st h := by
  intro p e R s m args below meth c H locs cells slots ls C hd1 hd2 hd3 hd4 ha hl hc hs
  obtain ⟨hx, hb, hml, hown, hts, hr, hlocks, htb, hnm, hok, hK, hbs⟩ := id C
  obtain ⟨ws, g, hP, hD, hS⟩ := id ha
  obtain ⟨C9, T, N, ty0, f1, f2, f3, f4, f5, f6, f7, f8⟩ := hf
  have hA : ∀ q, s.heap.size ≤ q → gA Γ q := fun q z => Nat.le_trans hbs z
  subst f8
  refine va_new hx hb hts f2 ty0 f6 hown (hts _ f3) (hts _ f4) (hts _ f5) (hok.2.1 s hK).1 hP hD hS hA f1 f7 (by omega) (by omega) hd (fun q H1 hP1 hD1 hS1 => ?_)
  obtain ⟨g1, g2⟩ := gGr_push g hD1
  exact kk q g2 p e R s m args below meth c H1 locs (cells + 1) (slots + fs.length) ls C hd1 hd2 hd3 hd4 ⟨_, g1, hP1, hD1, hS1⟩ hl (by omega) (by omega)
theorem g_after {p : Program} {e : Env} {R : Room} {s : State} {m : MethodId} {args : Array Value} {below : List Frame} {meth : Method} {c : Code} {H : Heap} {locs : List Loc} {cells slots mc' ms' rc' rs' : Nat} {ls : Array Slot} {st0 rest : List Value} {Z' : Option Value → gHp → Prop} {ZX' : String → gHp → Prop} {av : Array Value}
    (hr : vx_Run p (gl Γ) e R s m args below meth c H locs cells slots mc' ms' (F0 m pc ls st0) rest (gQ Γ Z' av) (gQX Γ ZX') (gA Γ))
    (C : gCtx Γ M p s m args meth c) (hd1 : d ≤ R.frames) (hd2 : 100 * d ≤ R.locals) (hd3 : mc ≤ R.cells) (hd4 : ms ≤ R.slots) (ha : gAt Γ h s H locs) (hl : lv_has ls M.2.2.1 (gAs 0 L)) (hc : cells + mc' + rc' ≤ mc) (hs : slots + ms' + rs' ≤ ms)
    (kx : ∀ (E : String) (q : Addr) (h' : gHp) (H1 : Heap) (locs1 : List Loc) (ce : Cell), ZX' E h' → gAt Γ h' s H1 locs1 → H1[q]? = some ce → ce.vm = .none → s.vm.findClass E = some ce.cls → vx_W p (gl Γ) e R s m args below meth c H1 locs1 (cells + mc') (slots + ms') (vx_MQ below (gQ Γ Z) (gQX Γ ZX) args s mc ms (gA Γ)) (F0 m pc ls rest) q)
    (kk : ∀ (v : Option Value) (h' : gHp), Z' v h' → G Γ M d mc ms Z ZX rc' rs' (pc + 3) L (v.toList ++ rest) h') : W p (gl Γ) e R s m args below meth c H locs cells slots (vx_MQ below (gQ Γ Z) (gQX Γ ZX) args s mc ms (gA Γ)) (F0 m pc ls st0) := by
  obtain ⟨ws, g, hP, hD, hS⟩ := id ha
  have hA : ∀ q, q < H.size → gA Γ q → gA Γ q := fun _ _ z => z
  intro T hT X
  rcases hr T hT X with ⟨v, st₀, t, T', L9, h0, X', hL, e1, e2, ⟨⟨v', h', hv, hz, hU⟩, hF⟩, go⟩ | ⟨q, st₀, t, T', L9, E, ce, h0, X', hL, e1, e2, ⟨⟨h', hz, hU⟩, hF⟩, hce, hcv, hcl, go⟩
  · cases hv
    obtain ⟨k1, k2, k3⟩ := vx_keep h0 e1 hS hA (fun _ z => z) hL hF
    obtain ⟨-, ws', g', hP', hD'⟩ := hU
    obtain ⟨t2, a1, b1⟩ := kk v h' hz p e R s m args below meth c T'.heap (locs ++ L9) (cells + mc') (slots + ms') ls C hd1 hd2 hd3 hd4 ⟨ws', g', by rw [e1]; exact hP', hD', k3⟩ hl hc hs T' rfl X'
    exact ⟨t2, go t2 a1, b1⟩
  · obtain ⟨k1, k2, k3⟩ := vx_keep h0 e1 hS hA (fun _ z => z) hL hF
    obtain ⟨-, ws', g', hP', hD'⟩ := hU
    obtain ⟨t2, a1, b1⟩ := kx E q h' T'.heap (locs ++ L9) ce hz ⟨ws', g', by rw [e1]; exact hP', hD', k3⟩ (by rw [e1]; exact hce) hcv hcl T' rfl X'
    exact ⟨t2, go.trans a1, b1⟩
theorem g_outx {p : Program} {e : Env} {R : Room} {s : State} {m : MethodId} {args : Array Value} {below : List Frame} {meth : Method} {c : Code} {H : Heap} {locs : List Loc} {cells slots : Nat} {ls : Array Slot} {rest : List Value} {E : String} {q : Addr} {ce : Cell} (hh : M.2.2.2.2 = []) (C : gCtx Γ M p s m args meth c) (ha : gAt Γ h s H locs) (hz : ZX E h) (h1 : H[q]? = some ce) (h2 : ce.vm = .none) (h3 : s.vm.findClass E = some ce.cls) (hc : cells ≤ mc) (hs : slots ≤ ms) : vx_W p (gl Γ) e R s m args below meth c H locs cells slots (vx_MQ below (gQ Γ Z) (gQX Γ ZX) args s mc ms (gA Γ)) (F0 m pc ls rest) q := by
  obtain ⟨hx, hb, hml, hown, hts, hr, hlocks, htb, hnm, hok, hK, hbs⟩ := C
  have hloc : ∀ q ∈ locs, gA Γ q.base := by
    obtain ⟨_, _, _, _, hS⟩ := ha
    exact hS.2.2
  have hF : ∀ t : State, t.heap = H → va_F (gA Γ) s t := by
    obtain ⟨_, _, _, _, hS⟩ := ha
    intro t ht
    exact hS.F ht
  exact vx_out (fun x hx9 => by rw [htb, hh] at hx9; cases hx9) hlocks h1 h2 h3 (fun t ht _ => ⟨⟨h, hz, gAt_V hbs ha ht⟩, hF t ht⟩) hloc hc hs
theorem gBlind {av : List Value} (hok : gOk Γ) : FrameBlind (va_Pc av (gU Γ h)) := by
  intro a U g mk hp
  obtain ⟨h1, h2, h3, ws, h4, h5, h6⟩ := hp
  exact ⟨h1, hok.2.2 U _ (State.WarmedH.refl U) h3 (Nat.le_refl _) (fun _ _ => rfl) h2, h3, ws, h4, h5, h6⟩
theorem gGoodW {M' : gM} (hw : gW M' ∈ lw_good) : GoodIn lw_good (gW M' :: lw_good) := by
  intro w hw9
  rcases List.mem_cons.mp hw9 with rfl | h9
  · exact ⟨hw, good_of_word (gGood _ hw)⟩
  · exact ⟨h9, good_of_word (gGood _ h9)⟩
def gDesc (M' : gM) (n : Nat) : Prop := M'.1.cls ≠ "java/lang/invoke/MethodHandle" ∧ M'.1.cls ≠ "java/lang/invoke/VarHandle" ∧ (parseMethodDescriptor M'.1.desc).map (fun d => d.parameters.length) = some n
/-- a static call: of a method without handlers; of one with -/
def gLkS (own : String) (idx : Nat) (M' : gM) (n : Nat) : Prop := Cond.methodLink own idx M'.1 ∈ lw_good ∧ Cond.static M'.1 ∈ lw_good ∧ Cond.initialized M'.1.cls ∈ lw_good ∧ gW M' ∈ lw_good ∧ M'.2.2.2.2 = [] ∧ gDesc M' n
def gLkSN (own host : String) (idx : Nat) (M' : gM) (n : Nat) : Prop := Cond.methodLinkNest own idx M'.1 host ∈ lw_far ∧ Cond.static M'.1 ∈ lw_good ∧ Cond.initialized M'.1.cls ∈ lw_good ∧ gW M' ∈ lw_good ∧ M'.2.2.2.2 = [] ∧ gDesc M' n
def gLkSH (own : String) (idx : Nat) (M' : gM) (n : Nat) : Prop := Cond.methodLink own idx M'.1 ∈ lw_good ∧ Cond.static M'.1 ∈ lw_good ∧ Cond.initialized M'.1.cls ∈ lw_good ∧ gW M' ∈ lw_good ∧ M'.2.2.2.2 ≠ [] ∧ gDesc M' n
def gLkV (own : String) (idx ci : Nat) (M' : gM) (n : Nat) : Prop := ∃ (T : u_T) (N : Nat), vwCl[ci]? = some (M'.1.cls, T, N) ∧ Cond.methodLink own idx M'.1 ∈ lw_good ∧ Cond.instanceMethod M'.1 ∈ lw_good ∧ Cond.selects M'.1.cls M'.1 M'.1 ∈ lw_good ∧ Cond.initialized M'.1.cls ∈ lw_good ∧ gW M' ∈ lw_good ∧ M'.2.2.2.2 = [] ∧ gDesc M' n
def gLkI (own : String) (idx : Nat) (M' : gM) (n : Nat) : Prop := Cond.methodLink own idx M'.1 ∈ lw_good ∧ M'.1.name = "<init>" ∧ M'.2.2.2.1 = none ∧ Cond.instanceMethod M'.1 ∈ lw_good ∧ Cond.initialized M'.1.cls ∈ lw_good ∧ gW M' ∈ lw_good ∧ M'.2.2.2.2 = [] ∧ gDesc M' n
def gLkIN (own host : String) (idx : Nat) (M' : gM) (n : Nat) : Prop := Cond.methodLinkNest own idx M'.1 host ∈ lw_far ∧ M'.1.name = "<init>" ∧ M'.2.2.2.1 = none ∧ Cond.instanceMethod M'.1 ∈ lw_good ∧ Cond.initialized M'.1.cls ∈ lw_good ∧ gW M' ∈ lw_good ∧ M'.2.2.2.2 = [] ∧ gDesc M' n
/-- a method of the class above, called by the name of the class below (owner: where it is) -/
def gLkU (own : String) (idx ci : Nat) (x : MethodName) (M' : gM) (n : Nat) : Prop := ∃ (C : String) (T : u_T) (N : Nat), vwCl[ci]? = some (C, T, N) ∧ (∀ w ∈ va_wsU own idx C M'.1.cls x M'.1 [], w ∈ lw_good) ∧ gW M' ∈ lw_good ∧ M'.2.2.2.2 = [] ∧ M'.1 = ⟨M'.1.cls, x.name, x.desc⟩ ∧ M'.1.cls ≠ "java/lang/invoke/MethodHandle" ∧ M'.1.cls ≠ "java/lang/invoke/VarHandle" ∧ (parseMethodDescriptor x.desc).map (fun d => d.parameters.length) = some n
def gLkSU (own : String) (idx ci : Nat) (M' : gM) (n : Nat) : Prop := ∃ (T : u_T) (N : Nat), vwCl[ci]? = some (own, T, N) ∧ (∀ w ∈ va_wsSU own idx M'.1 [], w ∈ lw_good) ∧ gW M' ∈ lw_good ∧ M'.2.2.2.2 = [] ∧ M'.1.name ≠ "<init>" ∧ (parseMethodDescriptor M'.1.desc).map (fun d => d.parameters.length) = some n
theorem gWno {M' : gM} (hh : M'.2.2.2.2 = []) : gW M' = Cond.code M'.1 M'.2.1 M'.2.2.1 M'.2.2.2.1 := by unfold gW; rw [if_pos hh]
theorem gWyes {M' : gM} (hh : M'.2.2.2.2 ≠ []) : gW M' = Cond.codeWith M'.1 M'.2.1 M'.2.2.1 M'.2.2.2.1 M'.2.2.2.2 := by unfold gW; rw [if_neg hh]
theorem gGoodA {pre : List Cond} {M' : gM} (hp : ∀ w ∈ pre, w ∈ lw_good) (hw : gW M' ∈ lw_good) : GoodIn lw_good (pre ++ (gW M' :: lw_good)) := by
  intro w h9
  rcases List.mem_append.mp h9 with h9 | h9
  · exact ⟨hp w h9, good_of_word (gGood _ (hp w h9))⟩
  · exact gGoodW hw w h9

theorem g_callS {idx n d' mc' ms' rc' rs' : Nat} {M' : gM} {av : List Value} {Z' : Option Value → gHp → Prop} {ZX' : String → gHp → Prop} (hlk : gLkS M.1.cls idx M' n) (hC : gC Γ M' av h d' mc' ms' Z' ZX') (hd : decode M.2.1 pc = .ok (.invokestatic idx, 3)) (hst : st' = av.reverse ++ st) (hn : av.length = n) (hdd : d' + 1 ≤ d) (hnl : M'.2.2.1 ≤ 80) (hcat : (st.map fun v => v.category).sum ≤ 8) (h1 : rc' + mc' ≤ rc) (h2 : rs' + ms' ≤ rs) (hh : M.2.2.2.2 = []) (kx : ∀ (E : String) (h' : gHp), ZX' E h' → ZX E h') (kk : ∀ (v : Option Value) (h' : gHp), Z' v h' → G Γ M d mc ms Z ZX rc' rs' (pc + 3) L (v.toList ++ st) h') : G Γ M d mc ms Z ZX rc rs pc L st' h := by
  intro p e R s m args below meth c H locs cells slots ls C hd1 hd2 hd3 hd4 ha hl hc hs
  obtain ⟨hx, hb, hml, hown, hts, hr, hlocks, htb, hnm, hok, hK, hbs⟩ := id C
  obtain ⟨ws, g, hP, hD, hS⟩ := id ha
  have hA : ∀ q, s.heap.size ≤ q → gA Γ q := fun q z => Nat.le_trans hbs z
  subst hst
  have hroom : (gRm d' mc' ms').frames + 1 ≤ R.frames ∧ 8 + (M'.2.2.1 + 11) + (gRm d' mc' ms').locals ≤ R.locals := by
    unfold gRm
    dsimp only
    omega
  have hPc : ∀ U : State, U.heap = H → s.WarmedH U.vm → va_Pc av (gU Γ h) av.toArray U := fun U hU hW => ⟨rfl, gAt_U hok hK hbs ha hU hW⟩
  refine g_after (av := av.toArray) (mc' := mc') (ms' := ms') (rc' := rc') (rs' := rs') ?_ C hd1 hd2 hd3 hd4 ha hl (by omega) (by omega) (fun E q h' H1 locs1 ce hz ha1 e1 e2 e3 => g_outx hh C ha1 (kx E h' hz) e1 e2 e3 (by omega) (by omega)) kk
  obtain ⟨l1, l2, l3, l4, l5, l6⟩ := hlk
  have hw := gWno l5
  exact vx_runS ⟨hx, hb, hml, hown, hts⟩ (hC hok) ⟨callB_of (ws' := lw_good) n hts (gGoodW l4) (by rw [hw]) rfl rfl (hts _ l3) (hts _ l1) l6 hroom, hts _ l2⟩ ⟨gBlind hok, hPc⟩ rfl hn hl.1 rfl (lv_room hcat) hd ⟨by omega, by omega⟩
theorem g_callSN {idx n d' mc' ms' rc' rs' : Nat} {M' : gM} {av : List Value} {Z' : Option Value → gHp → Prop} {ZX' : String → gHp → Prop} {host : String} (hlk : gLkSN M.1.cls host idx M' n) (hC : gC Γ M' av h d' mc' ms' Z' ZX') (hd : decode M.2.1 pc = .ok (.invokestatic idx, 3)) (hst : st' = av.reverse ++ st) (hn : av.length = n) (hdd : d' + 1 ≤ d) (hnl : M'.2.2.1 ≤ 80) (hcat : (st.map fun v => v.category).sum ≤ 8) (h1 : rc' + mc' ≤ rc) (h2 : rs' + ms' ≤ rs) (hh : M.2.2.2.2 = []) (kx : ∀ (E : String) (h' : gHp), ZX' E h' → ZX E h') (kk : ∀ (v : Option Value) (h' : gHp), Z' v h' → G Γ M d mc ms Z ZX rc' rs' (pc + 3) L (v.toList ++ st) h') : G Γ M d mc ms Z ZX rc rs pc L st' h := by
  intro p e R s m args below meth c H locs cells slots ls C hd1 hd2 hd3 hd4 ha hl hc hs
  obtain ⟨hx, hb, hml, hown, hts, hr, hlocks, htb, hnm, hok, hK, hbs⟩ := id C
  obtain ⟨ws, g, hP, hD, hS⟩ := id ha
  have hA : ∀ q, s.heap.size ≤ q → gA Γ q := fun q z => Nat.le_trans hbs z
  subst hst
  have hroom : (gRm d' mc' ms').frames + 1 ≤ R.frames ∧ 8 + (M'.2.2.1 + 11) + (gRm d' mc' ms').locals ≤ R.locals := by
    unfold gRm
    dsimp only
    omega
  have hPc : ∀ U : State, U.heap = H → s.WarmedH U.vm → va_Pc av (gU Γ h) av.toArray U := fun U hU hW => ⟨rfl, gAt_U hok hK hbs ha hU hW⟩
  refine g_after (av := av.toArray) (mc' := mc') (ms' := ms') (rc' := rc') (rs' := rs') ?_ C hd1 hd2 hd3 hd4 ha hl (by omega) (by omega) (fun E q h' H1 locs1 ce hz ha1 e1 e2 e3 => g_outx hh C ha1 (kx E h' hz) e1 e2 e3 (by omega) (by omega)) kk
  obtain ⟨l1, l2, l3, l4, l5, l6⟩ := hlk
  have hw := gWno l5
  exact vx_runSN ⟨hx, hb, hml, hown, hts⟩ (hC hok) ⟨va_cnB (ws' := lw_good) n hts (gGoodW l4) (by rw [hw]) rfl rfl ((hok.2.1 s hK).2 _ l1) (hts _ l3) l6 hroom, hts _ l2, trivial⟩ ⟨gBlind hok, hPc⟩ rfl hn hl.1 rfl (lv_room hcat) hd ⟨by omega, by omega⟩
theorem g_callSH {idx n d' mc' ms' rc' rs' : Nat} {M' : gM} {av : List Value} {Z' : Option Value → gHp → Prop} {ZX' : String → gHp → Prop} (hlk : gLkSH M.1.cls idx M' n) (hC : gC Γ M' av h d' mc' ms' Z' ZX') (hd : decode M.2.1 pc = .ok (.invokestatic idx, 3)) (hst : st' = av.reverse ++ st) (hn : av.length = n) (hdd : d' + 1 ≤ d) (hnl : M'.2.2.1 ≤ 80) (hcat : (st.map fun v => v.category).sum ≤ 8) (h1 : rc' + mc' ≤ rc) (h2 : rs' + ms' ≤ rs) (hh : M.2.2.2.2 = []) (kx : ∀ (E : String) (h' : gHp), ZX' E h' → ZX E h') (kk : ∀ (v : Option Value) (h' : gHp), Z' v h' → G Γ M d mc ms Z ZX rc' rs' (pc + 3) L (v.toList ++ st) h') : G Γ M d mc ms Z ZX rc rs pc L st' h := by
  intro p e R s m args below meth c H locs cells slots ls C hd1 hd2 hd3 hd4 ha hl hc hs
  obtain ⟨hx, hb, hml, hown, hts, hr, hlocks, htb, hnm, hok, hK, hbs⟩ := id C
  obtain ⟨ws, g, hP, hD, hS⟩ := id ha
  have hA : ∀ q, s.heap.size ≤ q → gA Γ q := fun q z => Nat.le_trans hbs z
  subst hst
  have hroom : (gRm d' mc' ms').frames + 1 ≤ R.frames ∧ 8 + (M'.2.2.1 + 11) + (gRm d' mc' ms').locals ≤ R.locals := by
    unfold gRm
    dsimp only
    omega
  have hPc : ∀ U : State, U.heap = H → s.WarmedH U.vm → va_Pc av (gU Γ h) av.toArray U := fun U hU hW => ⟨rfl, gAt_U hok hK hbs ha hU hW⟩
  refine g_after (av := av.toArray) (mc' := mc') (ms' := ms') (rc' := rc') (rs' := rs') ?_ C hd1 hd2 hd3 hd4 ha hl (by omega) (by omega) (fun E q h' H1 locs1 ce hz ha1 e1 e2 e3 => g_outx hh C ha1 (kx E h' hz) e1 e2 e3 (by omega) (by omega)) kk
  obtain ⟨l1, l2, l3, l4, l5, l6⟩ := hlk
  have hw := gWyes l5
  exact vx_runSX ⟨hx, hb, hml, hown, hts⟩ (hC hok) (vx_cwSW (ws' := lw_good) n hts (gGoodA (pre := [.methodLink M.1.cls idx M'.1, .static M'.1, .initialized M'.1.cls]) (by simp [l1, l2, l3]) l4) (by rw [hw]) rfl rfl l6 hroom) ⟨gBlind hok, hPc⟩ rfl hn hl.1 rfl (lv_room hcat) hd ⟨by omega, by omega⟩
theorem g_callV {idx n d' mc' ms' rc' rs' : Nat} {M' : gM} {av : List Value} {Z' : Option Value → gHp → Prop} {ZX' : String → gHp → Prop} {ci b : Nat} {As fs : List Value} (hlk : gLkV M.1.cls idx ci M' n) (hC : gC Γ M' av h d' mc' ms' Z' ZX') (hd : decode M.2.1 pc = .ok (.invokevirtual idx, 3)) (hst : st' = av.reverse ++ st) (hav : av = .ref b :: As) (ho : h b = some (.inr (ci, fs))) (hn : av.length = n + 1) (hdd : d' + 1 ≤ d) (hnl : M'.2.2.1 ≤ 80) (hcat : (st.map fun v => v.category).sum ≤ 8) (h1 : rc' + mc' ≤ rc) (h2 : rs' + ms' ≤ rs) (hh : M.2.2.2.2 = []) (kx : ∀ (E : String) (h' : gHp), ZX' E h' → ZX E h') (kk : ∀ (v : Option Value) (h' : gHp), Z' v h' → G Γ M d mc ms Z ZX rc' rs' (pc + 3) L (v.toList ++ st) h') : G Γ M d mc ms Z ZX rc rs pc L st' h := by
  intro p e R s m args below meth c H locs cells slots ls C hd1 hd2 hd3 hd4 ha hl hc hs
  obtain ⟨hx, hb, hml, hown, hts, hr, hlocks, htb, hnm, hok, hK, hbs⟩ := id C
  obtain ⟨ws, g, hP, hD, hS⟩ := id ha
  have hA : ∀ q, s.heap.size ≤ q → gA Γ q := fun q z => Nat.le_trans hbs z
  subst hst
  have hroom : (gRm d' mc' ms').frames + 1 ≤ R.frames ∧ 8 + (M'.2.2.1 + 11) + (gRm d' mc' ms').locals ≤ R.locals := by
    unfold gRm
    dsimp only
    omega
  have hPc : ∀ U : State, U.heap = H → s.WarmedH U.vm → va_Pc av (gU Γ h) av.toArray U := fun U hU hW => ⟨rfl, gAt_U hok hK hbs ha hU hW⟩
  refine g_after (av := av.toArray) (mc' := mc') (ms' := ms') (rc' := rc') (rs' := rs') ?_ C hd1 hd2 hd3 hd4 ha hl (by omega) (by omega) (fun E q h' H1 locs1 ce hz ha1 e1 e2 e3 => g_outx hh C ha1 (kx E h' hz) e1 e2 e3 (by omega) (by omega)) kk
  obtain ⟨T9, N9, c1, l1, l2, l3, l4, l5, l6, l7⟩ := hlk
  have hw := gWno l6
  subst hav
  obtain ⟨q0, hq0⟩ := gGr_get g ho
  exact vx_runV (As := As) ⟨hx, hb, hml, hown, hts⟩ (hC hok) ⟨callB_of (ws' := lw_good) n hts (gGoodW l5) (by rw [hw]) rfl rfl (hts _ l4) (hts _ l1) l7 hroom, hts _ l2, hts _ l3⟩ ⟨gBlind hok, va_recv (hok.2.1 s hK).1 hP c1 hq0, hPc⟩ rfl (by simpa using hn) hl.1 (by simp) (lv_room hcat) hd ⟨by omega, by omega⟩
theorem g_callI {idx n d' mc' ms' rc' rs' : Nat} {M' : gM} {av : List Value} {Z' : Option Value → gHp → Prop} {ZX' : String → gHp → Prop} {b : Nat} {As : List Value} (hlk : gLkI M.1.cls idx M' n) (hC : gC Γ M' av h d' mc' ms' Z' ZX') (hd : decode M.2.1 pc = .ok (.invokespecial idx, 3)) (hst : st' = av.reverse ++ st) (hav : av = .ref b :: As) (hn : av.length = n + 1) (hdd : d' + 1 ≤ d) (hnl : M'.2.2.1 ≤ 80) (hcat : (st.map fun v => v.category).sum ≤ 8) (h1 : rc' + mc' ≤ rc) (h2 : rs' + ms' ≤ rs) (hh : M.2.2.2.2 = []) (kx : ∀ (E : String) (h' : gHp), ZX' E h' → ZX E h') (kk : ∀ (v : Option Value) (h' : gHp), Z' v h' → G Γ M d mc ms Z ZX rc' rs' (pc + 3) L (v.toList ++ st) h') : G Γ M d mc ms Z ZX rc rs pc L st' h := by
  intro p e R s m args below meth c H locs cells slots ls C hd1 hd2 hd3 hd4 ha hl hc hs
  obtain ⟨hx, hb, hml, hown, hts, hr, hlocks, htb, hnm, hok, hK, hbs⟩ := id C
  obtain ⟨ws, g, hP, hD, hS⟩ := id ha
  have hA : ∀ q, s.heap.size ≤ q → gA Γ q := fun q z => Nat.le_trans hbs z
  subst hst
  have hroom : (gRm d' mc' ms').frames + 1 ≤ R.frames ∧ 8 + (M'.2.2.1 + 11) + (gRm d' mc' ms').locals ≤ R.locals := by
    unfold gRm
    dsimp only
    omega
  have hPc : ∀ U : State, U.heap = H → s.WarmedH U.vm → va_Pc av (gU Γ h) av.toArray U := fun U hU hW => ⟨rfl, gAt_U hok hK hbs ha hU hW⟩
  refine g_after (av := av.toArray) (mc' := mc') (ms' := ms') (rc' := rc') (rs' := rs') ?_ C hd1 hd2 hd3 hd4 ha hl (by omega) (by omega) (fun E q h' H1 locs1 ce hz ha1 e1 e2 e3 => g_outx hh C ha1 (kx E h' hz) e1 e2 e3 (by omega) (by omega)) kk
  obtain ⟨l1, l2, l3, l4, l5, l6, l7, l8⟩ := hlk
  have hw := gWno l7
  rw [l3] at hw
  subst hav
  exact vx_runI (As := As) ⟨hx, hb, hml, hown, hts⟩ (hC hok) ⟨callB_of (ws' := lw_good) n hts (gGoodW l6) (by rw [hw]) rfl rfl (hts _ l5) (hts _ l1) l8 hroom, l2, hts _ l4⟩ ⟨gBlind hok, hPc⟩ rfl (by simpa using hn) hl.1 (by simp) (lv_room hcat) hd ⟨by omega, by omega⟩
theorem g_callIN {idx n d' mc' ms' rc' rs' : Nat} {M' : gM} {av : List Value} {Z' : Option Value → gHp → Prop} {ZX' : String → gHp → Prop} {b : Nat} {As : List Value} {host : String} (hlk : gLkIN M.1.cls host idx M' n) (hC : gC Γ M' av h d' mc' ms' Z' ZX') (hd : decode M.2.1 pc = .ok (.invokespecial idx, 3)) (hst : st' = av.reverse ++ st) (hav : av = .ref b :: As) (hn : av.length = n + 1) (hdd : d' + 1 ≤ d) (hnl : M'.2.2.1 ≤ 80) (hcat : (st.map fun v => v.category).sum ≤ 8) (h1 : rc' + mc' ≤ rc) (h2 : rs' + ms' ≤ rs) (hh : M.2.2.2.2 = []) (kx : ∀ (E : String) (h' : gHp), ZX' E h' → ZX E h') (kk : ∀ (v : Option Value) (h' : gHp), Z' v h' → G Γ M d mc ms Z ZX rc' rs' (pc + 3) L (v.toList ++ st) h') : G Γ M d mc ms Z ZX rc rs pc L st' h := by
  intro p e R s m args below meth c H locs cells slots ls C hd1 hd2 hd3 hd4 ha hl hc hs
  obtain ⟨hx, hb, hml, hown, hts, hr, hlocks, htb, hnm, hok, hK, hbs⟩ := id C
  obtain ⟨ws, g, hP, hD, hS⟩ := id ha
  have hA : ∀ q, s.heap.size ≤ q → gA Γ q := fun q z => Nat.le_trans hbs z
  subst hst
  have hroom : (gRm d' mc' ms').frames + 1 ≤ R.frames ∧ 8 + (M'.2.2.1 + 11) + (gRm d' mc' ms').locals ≤ R.locals := by
    unfold gRm
    dsimp only
    omega
  have hPc : ∀ U : State, U.heap = H → s.WarmedH U.vm → va_Pc av (gU Γ h) av.toArray U := fun U hU hW => ⟨rfl, gAt_U hok hK hbs ha hU hW⟩
  refine g_after (av := av.toArray) (mc' := mc') (ms' := ms') (rc' := rc') (rs' := rs') ?_ C hd1 hd2 hd3 hd4 ha hl (by omega) (by omega) (fun E q h' H1 locs1 ce hz ha1 e1 e2 e3 => g_outx hh C ha1 (kx E h' hz) e1 e2 e3 (by omega) (by omega)) kk
  obtain ⟨l1, l2, l3, l4, l5, l6, l7, l8⟩ := hlk
  have hw := gWno l7
  rw [l3] at hw
  subst hav
  exact vx_runIN (As := As) ⟨hx, hb, hml, hown, hts⟩ (hC hok) ⟨va_cnB (ws' := lw_good) n hts (gGoodW l6) (by rw [hw]) rfl rfl ((hok.2.1 s hK).2 _ l1) (hts _ l5) l8 hroom, l2, hts _ l4⟩ ⟨gBlind hok, hPc⟩ rfl (by simpa using hn) hl.1 (by simp) (lv_room hcat) hd ⟨by omega, by omega⟩
theorem g_callU {idx n d' mc' ms' rc' rs' : Nat} {M' : gM} {av : List Value} {Z' : Option Value → gHp → Prop} {ZX' : String → gHp → Prop} {ci b : Nat} {As fs : List Value} {x : MethodName} (hlk : gLkU M.1.cls idx ci x M' n) (hC : gC Γ M' av h d' mc' ms' Z' ZX') (hd : decode M.2.1 pc = .ok (.invokevirtual idx, 3)) (hst : st' = av.reverse ++ st) (hav : av = .ref b :: As) (ho : h b = some (.inr (ci, fs))) (hn : av.length = n + 1) (hdd : d' + 1 ≤ d) (hnl : M'.2.2.1 ≤ 80) (hcat : (st.map fun v => v.category).sum ≤ 8) (h1 : rc' + mc' ≤ rc) (h2 : rs' + ms' ≤ rs) (hh : M.2.2.2.2 = []) (kx : ∀ (E : String) (h' : gHp), ZX' E h' → ZX E h') (kk : ∀ (v : Option Value) (h' : gHp), Z' v h' → G Γ M d mc ms Z ZX rc' rs' (pc + 3) L (v.toList ++ st) h') : G Γ M d mc ms Z ZX rc rs pc L st' h := by
  intro p e R s m args below meth c H locs cells slots ls C hd1 hd2 hd3 hd4 ha hl hc hs
  obtain ⟨hx, hb, hml, hown, hts, hr, hlocks, htb, hnm, hok, hK, hbs⟩ := id C
  obtain ⟨ws, g, hP, hD, hS⟩ := id ha
  have hA : ∀ q, s.heap.size ≤ q → gA Γ q := fun q z => Nat.le_trans hbs z
  subst hst
  have hroom : (gRm d' mc' ms').frames + 1 ≤ R.frames ∧ 8 + (M'.2.2.1 + 11) + (gRm d' mc' ms').locals ≤ R.locals := by
    unfold gRm
    dsimp only
    omega
  have hPc : ∀ U : State, U.heap = H → s.WarmedH U.vm → va_Pc av (gU Γ h) av.toArray U := fun U hU hW => ⟨rfl, gAt_U hok hK hbs ha hU hW⟩
  refine g_after (av := av.toArray) (mc' := mc') (ms' := ms') (rc' := rc') (rs' := rs') ?_ C hd1 hd2 hd3 hd4 ha hl (by omega) (by omega) (fun E q h' H1 locs1 ce hz ha1 e1 e2 e3 => g_outx hh C ha1 (kx E h' hz) e1 e2 e3 (by omega) (by omega)) kk
  obtain ⟨C9, T9, N9, c1, l1, l5, l6, lx, l7, l8, l9⟩ := hlk
  have hw := gWno l6
  subst hav
  obtain ⟨q0, hq0⟩ := gGr_get g ho
  exact vx_runU (x := x) (As := As) ⟨hx, hb, hml, hown, hts⟩ (hC hok) (va_cwU (C := C9) (owner := M'.1.cls) (ws' := lw_good) n hts (gGoodA (pre := va_wsU M.1.cls idx C9 M'.1.cls x M'.1 []) l1 l5) (by rw [hw]) rfl rfl lx ⟨l7, l8, l9⟩ hroom) ⟨gBlind hok, va_recv (hok.2.1 s hK).1 hP c1 hq0, hPc⟩ rfl (by simpa using hn) hl.1 (by simp) (lv_room hcat) hd ⟨by omega, by omega⟩
theorem g_callSU {idx n d' mc' ms' rc' rs' : Nat} {M' : gM} {av : List Value} {Z' : Option Value → gHp → Prop} {ZX' : String → gHp → Prop} {ci b : Nat} {As fs : List Value} (hlk : gLkSU M.1.cls idx ci M' n) (hC : gC Γ M' av h d' mc' ms' Z' ZX') (hd : decode M.2.1 pc = .ok (.invokespecial idx, 3)) (hst : st' = av.reverse ++ st) (hav : av = .ref b :: As) (ho : h b = some (.inr (ci, fs))) (hn : av.length = n + 1) (hdd : d' + 1 ≤ d) (hnl : M'.2.2.1 ≤ 80) (hcat : (st.map fun v => v.category).sum ≤ 8) (h1 : rc' + mc' ≤ rc) (h2 : rs' + ms' ≤ rs) (hh : M.2.2.2.2 = []) (kx : ∀ (E : String) (h' : gHp), ZX' E h' → ZX E h') (kk : ∀ (v : Option Value) (h' : gHp), Z' v h' → G Γ M d mc ms Z ZX rc' rs' (pc + 3) L (v.toList ++ st) h') : G Γ M d mc ms Z ZX rc rs pc L st' h := by
  intro p e R s m args below meth c H locs cells slots ls C hd1 hd2 hd3 hd4 ha hl hc hs
  obtain ⟨hx, hb, hml, hown, hts, hr, hlocks, htb, hnm, hok, hK, hbs⟩ := id C
  obtain ⟨ws, g, hP, hD, hS⟩ := id ha
  have hA : ∀ q, s.heap.size ≤ q → gA Γ q := fun q z => Nat.le_trans hbs z
  subst hst
  have hroom : (gRm d' mc' ms').frames + 1 ≤ R.frames ∧ 8 + (M'.2.2.1 + 11) + (gRm d' mc' ms').locals ≤ R.locals := by
    unfold gRm
    dsimp only
    omega
  have hPc : ∀ U : State, U.heap = H → s.WarmedH U.vm → va_Pc av (gU Γ h) av.toArray U := fun U hU hW => ⟨rfl, gAt_U hok hK hbs ha hU hW⟩
  refine g_after (av := av.toArray) (mc' := mc') (ms' := ms') (rc' := rc') (rs' := rs') ?_ C hd1 hd2 hd3 hd4 ha hl (by omega) (by omega) (fun E q h' H1 locs1 ce hz ha1 e1 e2 e3 => g_outx hh C ha1 (kx E h' hz) e1 e2 e3 (by omega) (by omega)) kk
  obtain ⟨T9, N9, c1, l1, l5, l6, l7, l8⟩ := hlk
  have hw := gWno l6
  subst hav
  obtain ⟨q0, hq0⟩ := gGr_get g ho
  exact vx_runSU (As := As) (((hok.2.1 s hK).1.1 ci _ c1).2) ⟨hx, hb, hml, hown, hts⟩ (hC hok) (va_cwSU (ws' := lw_good) n hts (gGoodA (pre := va_wsSU M.1.cls idx M'.1 []) l1 l5) (by rw [hw]) rfl rfl ⟨l7, l8⟩ hroom) ⟨gBlind hok, va_recv (hok.2.1 s hK).1 hP c1 hq0, hPc⟩ rfl (by simpa using hn) hl.1 (by simp) (lv_room hcat) hd ⟨by omega, by omega⟩
theorem g_objInit {idx a : Nat} (hlk : Cond.methodLink M.1.cls idx Lib.objectInit ∈ lw_good) (hin : Cond.instanceMethod Lib.objectInit ∈ lw_good) (hcd : Cond.code Lib.objectInit ⟨#[0xb1]⟩ 1 none ∈ lw_good) (hd : decode M.2.1 pc = .ok (.invokespecial idx, 3)) (hd0 : 1 ≤ d) (hcat : (st.map fun v => v.category).sum ≤ 8) (kk : G Γ M d mc ms Z ZX rc rs (pc + 3) L st h) : G Γ M d mc ms Z ZX rc rs pc L (.ref a :: st) h := by
  intro p e R s m args below meth c H locs cells slots ls C hd1 hd2 hd3 hd4 ha hl hc hs
  obtain ⟨hx, hb, hml, hown, hts, hr, hlocks, htb, hnm, hok, hK, hbs⟩ := id C
  obtain ⟨ws, g, hP, hD, hS⟩ := id ha
  refine W.objInit (g := F0 m pc ls (.ref a :: st)) hx hb hown (hts _ hlk) (hts _ hin) (hts _ hcd) rfl (by rw [hml]; exact hl.1) rfl hd (by omega) ?_ (kk p e R s m args below meth c H locs cells slots ls C hd1 hd2 hd3 hd4 ha hl hc hs)
  have := lv_room (m := m) (pc := pc) (ls := ls) (rest := (.ref a :: st)) hcat
  omega
end GMem
