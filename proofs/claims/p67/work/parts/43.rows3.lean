/-! ROWS OF REFERENCES, CLASSES, CASTS -/
section GR3
variable {Γ : gE} {M : gM} {d mc ms : Nat} {Z : Option Value → gHp → Prop} {ZX : String → gHp → Prop} {rc rs pc : Nat} {L L' : List (Option Value)} {st st' : List Value} {h : gHp}
theorem gCast {Γ : gE} {s : State} (hok : gOk Γ) (hK : gK Γ s) {C E : String} (hw : Cond.castable C E ∈ lw_far) : va_Nw (.castable C E) s := (hok.2.1 s hK).2 _ hw
theorem g_aastore {a n v ci : Nat} {r : vw_C} {vs : List Value} {f : Nat → Option Nat} {i : Int32} (hd : decode M.2.1 pc = .ok (.aastore, 1)) (ho : h a = some (gO Γ n f)) (hv : h v = some (gJ ci vs)) (hc9 : vwCl[ci]? = some r) (hw : Cond.castable r.1 "java/lang/Object" ∈ lw_far) (hin : vp_in i n) (kk : G Γ M d mc ms Z ZX rc rs (pc + 1) L st (gUp h a (gO Γ n (va_up f i.toNatClampNeg (some v))))) : G Γ M d mc ms Z ZX rc rs pc L (.ref v :: .int i :: .ref a :: st) h := by
  intro p e R s m args below meth c H locs cells slots ls C hd1 hd2 hd3 hd4 ha hl hc hs
  obtain ⟨hx, hb, hml, hown, hts, hr, hlocks, htb, hnm, hok, hK, hbs⟩ := id C
  obtain ⟨ws, g, hP, hD, hS⟩ := id ha
  obtain ⟨q0, hq0⟩ := gGr_get g ho
  obtain ⟨q1, hq1⟩ := gGr_get g hv
  exact va_astqO hx hb (hok.2.1 s hK).1 hP hD hS q0 5 q1 ci hq0 rfl (gCast hok hK hw) hq1 hc9 hin hd (fun H1 locs1 hP1 hD1 hS1 => kk p e R s m args below meth c H1 locs1 cells slots ls C hd1 hd2 hd3 hd4 ⟨_, gGr_set g hD _ hq0, hP1, hD1, hS1⟩ hl hc hs)
theorem g_aastoreN {a n : Nat} {f : Nat → Option Nat} {i : Int32} (hd : decode M.2.1 pc = .ok (.aastore, 1)) (ho : h a = some (gO Γ n f)) (hin : vp_in i n) (kk : G Γ M d mc ms Z ZX rc rs (pc + 1) L st (gUp h a (gO Γ n (va_up f i.toNatClampNeg none)))) : G Γ M d mc ms Z ZX rc rs pc L (.null :: .int i :: .ref a :: st) h := by
  intro p e R s m args below meth c H locs cells slots ls C hd1 hd2 hd3 hd4 ha hl hc hs
  obtain ⟨hx, hb, hml, hown, hts, hr, hlocks, htb, hnm, hok, hK, hbs⟩ := id C
  obtain ⟨ws, g, hP, hD, hS⟩ := id ha
  obtain ⟨q0, hq0⟩ := gGr_get g ho
  exact va_astqN hx hb (hok.2.1 s hK).1 hP hD hS q0 5 hq0 rfl hin hd (fun H1 locs1 hP1 hD1 hS1 => kk p e R s m args below meth c H1 locs1 cells slots ls C hd1 hd2 hd3 hd4 ⟨_, gGr_set g hD _ hq0, hP1, hD1, hS1⟩ hl hc hs)
def gPao (Γ : gE) : Prop := ∀ U, gK Γ U → va_AO "java/lang/Object" U
theorem g_newarr_q {idx N rc' rs' : Nat} {n : Int32} (hd : decode M.2.1 pc = .ok (.anewarray idx, 3)) (hw : Cond.classLink M.1.cls idx "java/lang/Object" ∈ lw_good) (hw2 : gPao Γ) (hn : ¬ n < 0) (hN : n.toNatClampNeg = N) (hsm : N ≤ 1000000) (h1 : rc' + 1 ≤ rc) (h2 : rs' + N ≤ rs) (kk : ∀ q : Nat, h q = none → G Γ M d mc ms Z ZX rc' rs' (pc + 3) L (.ref q :: st) (gUp h q (gO Γ N (fun _ => none)))) : G Γ M d mc ms Z ZX rc rs pc L (.int n :: st) h := by
  intro p e R s m args below meth c H locs cells slots ls C hd1 hd2 hd3 hd4 ha hl hc hs
  obtain ⟨hx, hb, hml, hown, hts, hr, hlocks, htb, hnm, hok, hK, hbs⟩ := id C
  obtain ⟨ws, g, hP, hD, hS⟩ := id ha
  have hA : ∀ q, s.heap.size ≤ q → gA Γ q := fun q z => Nat.le_trans hbs z
  refine va_newq (C := "java/lang/Object") hx hb hown (hts _ hw) (hw2 s hK) (hok.2.1 s hK).1 hP hD hS hA hn hN (by omega) (by omega) (by omega) hd (fun q cA H1 hK1 hP1 hD1 hS1 => ?_)
  have e9 := gTysNo hK1 5 _ rfl
  subst e9
  obtain ⟨g1, g2⟩ := gGr_push g hD1
  exact kk q g2 p e R s m args below meth c H1 locs (cells + 1) (slots + N) ls C hd1 hd2 hd3 hd4 ⟨_, g1, hP1, hD1, hS1⟩ hl (by omega) (by omega)
/-- a Class object -/
def gPm (Γ : gE) (C : String) (a : Nat) : Prop := ∀ U, gK Γ U → va_Mi C a U
theorem g_ldcM {idx mi : Nat} {C9 : String} (hM : gPm Γ C9 mi) (hw : Cond.classLink M.1.cls idx C9 ∈ lw_good) (hd : decode M.2.1 pc = .ok (.ldc idx, 2)) (kk : G Γ M d mc ms Z ZX rc rs (pc + 2) L (.ref mi :: st) h) : G Γ M d mc ms Z ZX rc rs pc L st h := by
  intro p e R s m args below meth c H locs cells slots ls C hd1 hd2 hd3 hd4 ha hl hc hs
  obtain ⟨hx, hb, hml, hown, hts, hr, hlocks, htb, hnm, hok, hK, hbs⟩ := id C
  obtain ⟨ws, g, hP, hD, hS⟩ := id ha
  exact va_ldcM hx hb hown (hts _ hw) (hM s hK) hd (kk p e R s m args below meth c H locs cells slots ls C hd1 hd2 hd3 hd4 ha hl hc hs)
theorem gRcv {Γ : gE} {s : State} {ws : va_W} {H : Heap} {h : gHp} (hK1 : va_K (gD Γ) vwCl (gTys Γ) s) (g : gGr h ws) (hP : va_P (gD Γ) vwCl ws H) {a n : Nat} {f : Nat → Option Nat} (ho : h a = some (gO Γ n f)) : ∃ cell : Cell, H[a]? = some cell ∧ cell.vm.isStatics = false ∧ s.vm.findClass "[Ljava/lang/Object;" = some cell.cls := by
  obtain ⟨q0, hq0⟩ := gGr_get g ho
  have h1 := hP q0 _ hq0
  obtain ⟨_, _, _, _, _, h4⟩ := (hK1.2 5 _ rfl).2
  exact ⟨_, h1, rfl, h4⟩
theorem g_getClassO {idx mi a n : Nat} {f : Nat → Option Nat} (hM : gPm Γ "[Ljava/lang/Object;" mi) (ho : h a = some (gO Γ n f)) (hw1 : Cond.methodLink M.1.cls idx ⟨"java/lang/Object", "getClass", "()Ljava/lang/Class;"⟩ ∈ lw_good) (hw2 : Cond.declares ⟨"java/lang/Object", "getClass", "()Ljava/lang/Class;"⟩ ∈ lw_far) (hw3 : Cond.selects "[Ljava/lang/Object;" ⟨"java/lang/Object", "getClass", "()Ljava/lang/Class;"⟩ ⟨"java/lang/Object", "getClass", "()Ljava/lang/Class;"⟩ ∈ lw_good) (hw4 : Cond.instanceMethod ⟨"java/lang/Object", "getClass", "()Ljava/lang/Class;"⟩ ∈ lw_good) (hw5 : Cond.native ⟨"java/lang/Object", "getClass", "()Ljava/lang/Class;"⟩ ∈ lw_good) (hdd : 1 ≤ d) (hcat : (st.map fun v => v.category).sum ≤ 8) (hd : decode M.2.1 pc = .ok (.invokevirtual idx, 3)) (kk : G Γ M d mc ms Z ZX rc rs (pc + 3) L (.ref mi :: st) h) : G Γ M d mc ms Z ZX rc rs pc L (.ref a :: st) h := by
  intro p e R s m args below meth c H locs cells slots ls C hd1 hd2 hd3 hd4 ha hl hc hs
  obtain ⟨hx, hb, hml, hown, hts, hr, hlocks, htb, hnm, hok, hK, hbs⟩ := id C
  obtain ⟨ws, g, hP, hD, hS⟩ := id ha
  exact va_getC hx hb (by rw [hl.1, hml]) hown (hts _ hw1) (va_Nw.use (gFar_on (List.mem_filter.mp hw2).2) ((hok.2.1 s hK).2 _ hw2)) (hts _ hw3) (hts _ hw4) (hts _ hw5) (hM s hK) (gRcv (hok.2.1 s hK).1 g hP ho) (by omega) (by omega) hd (kk p e R s m args below meth c H locs cells slots ls C hd1 hd2 hd3 hd4 ha hl hc hs)
theorem g_castO {idx a ci : Nat} {nm : String} {r : vw_C} {vs : List Value} (ho : h a = some (gJ ci vs)) (hc9 : vwCl[ci]? = some r) (hnm9 : r.1 = nm) (hw : Cond.classLink M.1.cls idx nm ∈ lw_good) (hd : decode M.2.1 pc = .ok (.checkcast idx, 3)) (kk : G Γ M d mc ms Z ZX rc rs (pc + 3) L (.ref a :: st) h) : G Γ M d mc ms Z ZX rc rs pc L (.ref a :: st) h := by
  intro p e R s m args below meth c H locs cells slots ls C hd1 hd2 hd3 hd4 ha hl hc hs
  obtain ⟨hx, hb, hml, hown, hts, hr, hlocks, htb, hnm, hok, hK, hbs⟩ := id C
  obtain ⟨ws, g, hP, hD, hS⟩ := id ha
  obtain ⟨q0, hq0⟩ := gGr_get g ho
  subst hnm9
  exact va_castS hx hb hown (hts _ hw) ((hok.2.1 s hK).1.1 ci r hc9).2 (va_recv (hok.2.1 s hK).1 hP hc9 hq0) hd (kk p e R s m args below meth c H locs cells slots ls C hd1 hd2 hd3 hd4 ha hl hc hs)
theorem g_copyq {idx a0 a1 n0 n1 ci : Nat} {r : vw_C} {f g0 : Nat → Option Nat} {sp dp n : Int32} (hd : decode M.2.1 pc = .ok (.invokestatic idx, 3)) (hw1 : Cond.methodLink M.1.cls idx arraycopyName ∈ lw_good) (hw2 : Cond.native arraycopyName ∈ lw_good) (hw3 : Cond.static arraycopyName ∈ lw_good) (hw4 : Cond.initialized "java/lang/System" ∈ lw_good) (ho0 : h a0 = some (gO Γ n0 f)) (ho1 : h a1 = some (gO Γ n1 g0)) (h1 : ¬ sp < 0) (h2 : ¬ dp < 0) (h3 : ¬ n < 0) (h4 : sp.toNatClampNeg + n.toNatClampNeg ≤ n0) (h5 : dp.toNatClampNeg + n.toNatClampNeg ≤ n1) (hc9 : vwCl[ci]? = some r) (hw : Cond.castable r.1 "java/lang/Object" ∈ lw_far) (hel : ∀ i : Nat, i < n.toNatClampNeg → ∀ y : Nat, f (sp.toNatClampNeg + i) = some y → ∃ vs, h y = some (gJ ci vs)) (hdd : 1 ≤ d) (hcat : (st.map fun v => v.category).sum ≤ 8) (kk : G Γ M d mc ms Z ZX rc rs (pc + 3) L st (gUp h a1 (gO Γ n1 (va_cpy f g0 sp.toNatClampNeg dp.toNatClampNeg n.toNatClampNeg)))) : G Γ M d mc ms Z ZX rc rs pc L (.int n :: .int dp :: .ref a1 :: .int sp :: .ref a0 :: st) h := by
  intro p e R s m args below meth c H locs cells slots ls C hd1 hd2 hd3 hd4 ha hl hc hs
  obtain ⟨hx, hb, hml, hown, hts, hr, hlocks, htb, hnm, hok, hK, hbs⟩ := id C
  obtain ⟨ws, g, hP, hD, hS⟩ := id ha
  obtain ⟨q0, hq0⟩ := gGr_get g ho1
  obtain ⟨q1, hq1⟩ := gGr_get g ho0
  refine va_copyq (C := r.1) hx hb (by rw [hl.1, hml]) hown (hts _ hw1) (hts _ hw2) (hts _ hw3) (hts _ hw4) (hok.2.1 s hK).1 hP hD hS q1 q0 5 5 hq1 hq0 rfl rfl h1 h2 h3 h4 h5 (fun i hi y hy => ?_) (fun comp c0 e1 e2 => vb_asgC (gCast hok hK hw) comp c0 e1 e2) (by omega) ?_ hd (fun H1 locs1 hP1 hD1 hS1 => kk p e R s m args below meth c H1 locs1 cells slots ls C hd1 hd2 hd3 hd4 ⟨_, gGr_set g hD _ hq0, hP1, hD1, hS1⟩ hl hc hs)
  · obtain ⟨vs, hvs⟩ := hel i hi y hy
    obtain ⟨q2, hq2⟩ := gGr_get g hvs
    exact va_recv (hok.2.1 s hK).1 hP hc9 hq2
  · have e9 : nativeFrameWords "java/lang/System" "arraycopy" 5 ≤ 60 := by decide +kernel
    omega
end GR3
