/-! THE LAW: what stands between two rows of the script; how a row ends -/
section GLzf
variable {Γ : gE} {de : Nat} {h h1 h2 h3 : gHp} {m o out outD B B' : Nat} {ad : Nat → Nat} {V V' V1 : Nat → Int32} {F F' F1 : Nat → Nat → Int32}
theorem fo_self {d : FP.Core.Datum} (hn : d ≠ .nan) : FP.Core.order d d = some .eq := by
  cases d with
  | nan => exact absurd rfl hn
  | inf s => simp [FP.Core.order, compare, compareOfLessAndEq]
  | fin s c q => simp [FP.Core.order, compare, compareOfLessAndEq]
theorem fd_n32 {x : UInt32} (h : vf_n32 x) : FP.Core.decode FP.Core.b32 x.toNat ≠ .nan := by
  unfold vf_n32 at h
  rw [UInt32.le_iff_toNat_le, UInt32.toNat_and, show (0x7fffffff : UInt32).toNat = 2 ^ 31 - 1 by decide, Nat.and_two_pow_sub_one_eq_mod, show (0x7f800000 : UInt32).toNat = 2139095040 by decide] at h
  intro z
  unfold FP.Core.decode FP.Core.fieldE FP.Core.fieldT at z
  rw [show FP.Core.b32.tails = 8388608 by decide +kernel, show FP.Core.b32.exps = 256 by decide +kernel] at z
  split at z
  · split at z
    · cases z
    · omega
  · split at z <;> cases z
theorem fd_n64 {x : UInt64} (h : vf_n64 x) : FP.Core.decode FP.Core.b64 x.toNat ≠ .nan := by
  unfold vf_n64 at h
  rw [UInt64.le_iff_toNat_le, UInt64.toNat_and, show (0x7fffffffffffffff : UInt64).toNat = 2 ^ 63 - 1 by decide, Nat.and_two_pow_sub_one_eq_mod, show (0x7ff0000000000000 : UInt64).toNat = 9218868437227405312 by decide] at h
  intro z
  unfold FP.Core.decode FP.Core.fieldE FP.Core.fieldT at z
  rw [show FP.Core.b64.tails = 4503599627370496 by decide +kernel, show FP.Core.b64.exps = 2048 by decide +kernel] at z
  split at z
  · split at z
    · cases z
    · omega
  · split at z <;> cases z
theorem f2d_n64 {x : UInt32} (h : vf_n32 x) : vf_n64 (FP.f2d x) := by
  have hm : ∃ m, (FP.Core.encode FP.Core.b64 (FP.Core.round FP.Core.b64 (FP.Core.decode FP.Core.b32 x.toNat)) = m ∨ FP.Core.encode FP.Core.b64 (FP.Core.round FP.Core.b64 (FP.Core.decode FP.Core.b32 x.toNat)) = 9223372036854775808 + m) ∧ m ≤ 9218868437227405312 := by
    cases hd : FP.Core.decode FP.Core.b32 x.toNat with
    | nan => exact absurd hd (fd_n32 h)
    | inf s => exact fi64
    | fin s c q => exact fr64
  obtain ⟨m, h1, h2⟩ := hm
  unfold vf_n64
  have e9 : FP.f2d x = UInt64.ofNat (FP.Core.encode FP.Core.b64 (FP.Core.round FP.Core.b64 (FP.Core.decode FP.Core.b32 x.toNat))) := by
    have en : ¬ FP.Core.fIsNaN x = true := by
      intro z
      exact fd_n32 h (of_decide_eq_true z)
    show (if FP.Core.fIsNaN x = true then _ else FP.Core.f2d x) = _
    rw [if_neg en]
    rfl
  rw [e9]
  rw [UInt64.le_iff_toNat_le, UInt64.toNat_and, UInt64.toNat_ofNat', show (0x7fffffffffffffff : UInt64).toNat = 2 ^ 63 - 1 by decide, Nat.and_two_pow_sub_one_eq_mod, show (0x7ff0000000000000 : UInt64).toNat = 9218868437227405312 by decide]
  rcases h1 with z | z <;> rw [z] <;> omega
theorem dcmp_0 {y : UInt64} (h : vf_n64 y) : Op.cmpValue (FP.dcmp y y) .l = 0 := by
  rw [show FP.dcmp y y = FP.Core.order (FP.Core.decode FP.Core.b64 y.toNat) (FP.Core.decode FP.Core.b64 y.toNat) from rfl, fo_self (fd_n64 h)]
  rfl
/-- what stands between two rows -/
def LI (Γ : gE) (de : Nat) (h : gHp) (m o : Nat) (ad : Nat → Nat) (out outD : Nat) (V : Nat → Int32) (F : Nat → Nat → Int32) (B : Nat) : Prop := gMO Γ de h m V F B ∧ MR Γ o ad V F h ∧ (∃ f, h out = some (gLo Γ 1 f)) ∧ ∃ f, h outD = some (gDo Γ 1 f)
/-- behind the class's answer: the class is where the reference will be -/
def LJ (Γ : gE) (de : Nat) (h : gHp) (m o : Nat) (ad : Nat → Nat) (V : Nat → Int32) (F : Nat → Nat → Int32) (Ph : (Nat → Int32) → (Nat → Nat → Int32) → Prop) (B : Nat) : Prop := (∀ V1 F1, Ph V1 F1 → gMO Γ de h m V1 F1 B) ∧ MR Γ o ad V F h
def LO (Γ : gE) (h : gHp) (out : Nat) (τ : Int32) (y : Int64) : Prop := ∃ f, h out = some (gLo Γ 1 f) ∧ (τ = 0 → f 0 = y)
def LD (Γ : gE) (h : gHp) (outD : Nat) (τ : Int32) (y : UInt64) : Prop := ∃ f, h outD = some (gDo Γ 1 f) ∧ (τ = 0 → f 0 = y)
theorem LO.any {τ : Int32} {y : Int64} (H : LO Γ h out τ y) : ∃ f, h out = some (gLo Γ 1 f) := by
  obtain ⟨f, a, -⟩ := H
  exact ⟨f, a⟩
theorem LD.any {τ : Int32} {y : UInt64} (H : LD Γ h out τ y) : ∃ f, h out = some (gDo Γ 1 f) := by
  obtain ⟨f, a, -⟩ := H
  exact ⟨f, a⟩
def isLo : va_E → Bool
  | .inl (_, _, .inr (.inl _)) => true
  | _ => false
theorem lo_do {n k : Nat} {f : Nat → Int64} {g : Nat → UInt64} (z : gLo Γ n f = gDo Γ k g) : False := by
  have y : isLo (gLo Γ n f) = isLo (gDo Γ k g) := by rw [z]
  exact Bool.noConfusion (show true = false from y)
theorem kM_nL {e : va_E} (z : kM Γ e) : ¬ kL e := by
  intro y
  match e, z, y with
  | .inr x, _, y => exact y
  | .inl (c, n, .inl f), _, y => exact y
  | .inl (c, n, .inr f), z, _ => exact z
theorem LO.tr {τ : Int32} {y : Int64} {K : va_E → Prop} (H : LO Γ h out τ y) (k : gFr K h h1) (hK : ∀ f, ¬ K (gLo Γ 1 f)) : LO Γ h1 out τ y := by
  obtain ⟨f, a, b⟩ := H
  exact ⟨f, k _ _ a (hK f), b⟩
theorem LD.tr {τ : Int32} {y : UInt64} {K : va_E → Prop} (H : LD Γ h outD τ y) (k : gFr K h h1) (hK : ∀ f, ¬ K (gDo Γ 1 f)) : LD Γ h1 outD τ y := by
  obtain ⟨f, a, b⟩ := H
  exact ⟨f, k _ _ a (hK f), b⟩
theorem nC_lo {n : Nat} {f : Nat → Int64} : ¬ kC Γ (gLo Γ n f) := fun z => z.2 True.intro
theorem nC_do {n : Nat} {f : Nat → UInt64} : ¬ kC Γ (gDo Γ n f) := fun z => z.2 True.intro
theorem nM_lo {n : Nat} {f : Nat → Int64} : ¬ kM Γ (gLo Γ n f) := fun z => z
theorem nM_do {n : Nat} {f : Nat → UInt64} : ¬ kM Γ (gDo Γ n f) := fun z => z
theorem LI.lo (I : LI Γ de h m o ad out outD V F B) : ∃ f, h out = some (gLo Γ 1 f) := I.2.2.1
theorem LI.do_ (I : LI Γ de h m o ad out outD V F B) : ∃ f, h outD = some (gDo Γ 1 f) := I.2.2.2
/-- the class alone moved -/
theorem LI.cl {Ph : (Nat → Int32) → (Nat → Nat → Int32) → Prop} (I : LI Γ de h m o ad out outD V F B) (hG : ∀ V1 F1, Ph V1 F1 → gMO Γ de h1 m V1 F1 B') (k : gFr (kC Γ) h h1) : LJ Γ de h1 m o ad V F Ph B' := ⟨hG, I.2.1.fr k (fun _ z n => n.1 z)⟩
theorem LJ.up {Ph : (Nat → Int32) → (Nat → Nat → Int32) → Prop} {q : Nat} {e e' : va_E} (hd : gDi Γ) (J : LJ Γ de h m o ad V F Ph B) (hq : h q = some e) (he : kL e) : LJ Γ de (gUp h q e') m o ad V F Ph B := by
  have fr : gFr kL h (gUp h q e') := gFr.of (gKeep.up rfl : gKeep (fun z => z = q) h (gUp h q e')) (fun z hz e9 y => by
    rw [hz, hq] at y; cases y; exact he)
  exact ⟨fun V1 F1 p => (J.1 V1 F1 p).fr hd fr (fun e z => z.2), J.2.fr fr (fun e z => kM_nL z)⟩
theorem LI.wr {Ph : (Nat → Int32) → (Nat → Nat → Int32) → Prop} {P : gHp → Prop} {τ : Int32} {y : Int64} {f : Nat → Int64} {v : Option Value} (hd : gDi Γ) (I : LI Γ de h m o ad out outD V F B) (hf : h out = some (gLo Γ 1 f)) (hP : ∀ h1, P h1 → (∀ V1 F1, Ph V1 F1 → gMO Γ de h1 m V1 F1 B') ∧ gFr (kC Γ) h h1) (hz : wZ Γ τ y out f P v h2) : v = some (.int τ) ∧ LJ Γ de h2 m o ad V F Ph B' ∧ LO Γ h2 out τ y ∧ LD Γ h2 outD 1 0 := by
  obtain ⟨rfl, h1, p, e⟩ := hz
  obtain ⟨g, k⟩ := hP h1 p
  obtain ⟨fd, hfd⟩ := I.do_
  have J := I.cl g k
  have ho := k _ _ hf nC_lo
  have hod := k _ _ hfd nC_do
  refine ⟨rfl, ?_⟩
  by_cases h0 : τ = 0
  · rw [if_pos h0] at e
    subst e
    refine ⟨J.up hd ho True.intro, ⟨_, gUp_s _ _ _, fun _ => if_pos rfl⟩, ⟨fd, ?_, fun z => absurd z (by decide)⟩⟩
    rw [gUp_n]
    · exact hod
    · intro z
      rw [z, ho] at hod
      exact lo_do (Option.some.inj hod)
  · rw [if_neg h0] at e
    subst e
    exact ⟨J, ⟨f, ho, fun z => absurd z h0⟩, ⟨fd, hod, fun z => absurd z (by decide)⟩⟩
theorem LI.wrD {Ph : (Nat → Int32) → (Nat → Nat → Int32) → Prop} {P : gHp → Prop} {τ : Int32} {y : UInt64} {f : Nat → UInt64} {v : Option Value} (hd : gDi Γ) (I : LI Γ de h m o ad out outD V F B) (hf : h outD = some (gDo Γ 1 f)) (hP : ∀ h1, P h1 → (∀ V1 F1, Ph V1 F1 → gMO Γ de h1 m V1 F1 B') ∧ gFr (kC Γ) h h1) (hz : wD Γ τ y outD f P v h2) : v = some (.int τ) ∧ LJ Γ de h2 m o ad V F Ph B' ∧ LO Γ h2 out 1 0 ∧ LD Γ h2 outD τ y := by
  obtain ⟨rfl, h1, p, e⟩ := hz
  obtain ⟨g, k⟩ := hP h1 p
  obtain ⟨fl, hfl⟩ := I.lo
  have J := I.cl g k
  have hod := k _ _ hf nC_do
  have ho := k _ _ hfl nC_lo
  refine ⟨rfl, ?_⟩
  by_cases h0 : τ = 0
  · rw [if_pos h0] at e
    subst e
    refine ⟨J.up hd hod True.intro, ⟨fl, ?_, fun z => absurd z (by decide)⟩, ⟨_, gUp_s _ _ _, fun _ => if_pos rfl⟩⟩
    rw [gUp_n]
    · exact ho
    · intro z
      rw [z, hod] at ho
      exact lo_do (Option.some.inj ho).symm
  · rw [if_neg h0] at e
    subst e
    exact ⟨J, ⟨fl, ho, fun z => absurd z (by decide)⟩, ⟨f, hod, fun z => absurd z h0⟩⟩
/-- the reference moved after the class -/
theorem LJ.md {Ph : (Nat → Int32) → (Nat → Nat → Int32) → Prop} (hd : gDi Γ) (J : LJ Γ de h2 m o ad V F Ph B) (hM : MR Γ o ad V1 F1 h3) (k : gKeep (mS o ad) h2 h3) (p : Ph V1 F1) : gMO Γ de h3 m V1 F1 B ∧ MR Γ o ad V1 F1 h3 ∧ gFr (kM Γ) h2 h3 :=
  ⟨(J.1 V1 F1 p).fr hd (J.2.keep k) (fun e z => z.1), hM, J.2.keep k⟩
theorem LI.th (hd : gDi Γ) (I : LI Γ de h m o ad out outD V F B) (hM : MR Γ o ad V F h1) (k : gKeep (mS o ad) h h1) : LI Γ de h1 m o ad out outD V F B ∧ gFr (kM Γ) h h1 := by
  have fr := I.2.1.keep k
  obtain ⟨f, hf⟩ := I.lo
  obtain ⟨g, hg⟩ := I.do_
  exact ⟨⟨I.1.fr hd fr (fun e z => z.1), hM, ⟨f, fr _ _ hf nM_lo⟩, ⟨g, fr _ _ hg nM_do⟩⟩, fr⟩
def lDs (cc : ByteArray) : Nat → List (Instr × Nat) → Prop
  | _, [] => True
  | pc, (i, n) :: t => decode cc pc = .ok (i, n) ∧ lDs cc (pc + n) t
variable {sc i mc ms rc rs pc : Nat} {Z : Option Value → gHp → Prop} {ZX : String → gHp → Prop} {τ w : Int32}
abbrev L0 (sc m o out outD i : Nat) : List (Option Value) := [some (.ref sc), some (.ref m), some (.ref o), some (.ref out), some (.ref outD), some (.int (nI i)), none, none, none]
abbrev L6 (sc m o out outD i : Nat) (τ : Int32) : List (Option Value) := [some (.ref sc), some (.ref m), some (.ref o), some (.ref out), some (.ref outD), some (.int (nI i)), some (.int τ), none, none]
/-- the rest of a row whose answers are ints -/
theorem lt_i {og : Int} {y : Int64} (hd : gDi Γ) (D : lDs cL_law pc [(.istore 7, 2), (.aload_n 2, 1), (.invokevirtual 184, 3), (.iload 6, 2), (.if_icmp .eq 5, 3), (.iconst 0, 1), (.ireturn, 1), (.iload 6, 2), (.ifCond .ne 15, 3), (.aload_n 3, 1), (.iconst 0, 1), (.laload, 1), (.iload 7, 2), (.i2l, 1), (.lcmp, 1), (.ifCond .eq 5, 3), (.iconst 0, 1), (.ireturn, 1), (.goto og, 3)]) (hg : ((pc + 30 : Nat) : Int) + og = 3368) (I : LI Γ de h m o ad out outD V F B) (ho : LO Γ h out τ y) (ht : V 13 = τ) (hw : τ = 0 → y = w.toInt64) (K : ∀ h', LI Γ de h' m o ad out outD V F B → G Γ M_L_law 32 mc ms Z ZX rc rs 3368 (L0 sc m o out outD i) [] h') : G Γ M_L_law 32 mc ms Z ZX rc rs pc (L6 sc m o out outD i τ) [.int w] h := by
  obtain ⟨d0, d1, d2, d3, d4, d5, d6, d7, d8, d9, d10, d11, d12, d13, d14, d15, d16, d17, d18, -⟩ := D
  refine g_istore d0 (Nat.le_of_ble_eq_true rfl) rfl ?_
  refine g_aload_n d1 rfl ?_
  refine g_callV (av := [.ref o]) (rc' := rc) (rs' := rs) kL_184 (r_thrown h I.2.1) d2 rfl rfl I.2.1.1 rfl (Nat.le_of_ble_eq_true rfl) (Nat.le_of_ble_eq_true rfl) (Nat.le_of_ble_eq_true rfl) (by omega) (by omega) rfl (fun _ _ z => z.elim) (fun v9 h5 hz => ?_)
  obtain ⟨rfl, hM, hk⟩ := hz
  obtain ⟨I5, fr⟩ := I.th hd hM hk
  obtain ⟨f, hf, hfy⟩ := ho.tr fr (fun _ => nM_lo)
  simp only [Option.toList_some, List.cons_append, List.nil_append]
  have X : G Γ M_L_law 32 mc ms Z ZX rc rs (pc + 30) [some (.ref sc), some (.ref m), some (.ref o), some (.ref out), some (.ref outD), some (.int (nI i)), some (.int τ), some (.int w), none] [] h5 := by
    refine g_goto d18 hg ?_
    exact g_weak (L' := L0 sc m o out outD i) ⟨rfl, rfl, rfl, rfl, rfl, rfl, True.intro⟩ (Nat.le_refl _) (Nat.le_refl _) (K h5 I5)
  refine g_iload d3 rfl ?_
  refine g_icmp_eq (tgt := pc + 2 + 1 + 3 + 2 + 3 + 1 + 1) d4 (by omega) (fun _ => ?_) (fun z => absurd ht z)
  refine g_iload d7 rfl ?_
  refine g_if_ne (tgt := pc + 30) d8 (by omega) (fun _ => X) (fun z0 => ?_)
  refine g_aload_n d9 rfl ?_
  refine g_iconst (x := nI 0) d10 rfl ?_
  refine g_laload d11 hf (vp_in_nI (by omega) (by omega)) ?_
  refine g_iload d12 rfl ?_
  refine g_i2l d13 ?_
  refine g_lcmp d14 ?_
  refine g_if_eq (tgt := pc + 30) d15 (by omega) (fun _ => X) (fun z => absurd ((lg_cmp_eq _ _).mpr ?_) z)
  rw [nI_clamp (by omega), hfy z0, hw z0]
/-- the rest of a row whose answers are booleans -/
theorem lt_z {y : Int64} {og : Int} (hd : gDi Γ) (D : lDs cL_law pc [(.istore 7, 2), (.aload_n 2, 1), (.invokevirtual 184, 3), (.iload 6, 2), (.if_icmp .eq 5, 3), (.iconst 0, 1), (.ireturn, 1), (.iload 6, 2), (.ifCond .ne 22, 3), (.aload_n 3, 1), (.iconst 0, 1), (.laload, 1), (.iload 7, 2), (.ifCond .eq 7, 3), (.lconst 1, 1), (.goto 4, 3), (.lconst 0, 1), (.lcmp, 1), (.ifCond .eq 5, 3), (.iconst 0, 1), (.ireturn, 1), (.goto og, 3)]) (hg : ((pc + 37 : Nat) : Int) + og = 3368) (I : LI Γ de h m o ad out outD V F B) (ho : LO Γ h out τ y) (hw : τ = 0 → y = bL w) (ht : V 13 = τ) (K : ∀ h', LI Γ de h' m o ad out outD V F B → G Γ M_L_law 32 mc ms Z ZX rc rs 3368 (L0 sc m o out outD i) [] h') : G Γ M_L_law 32 mc ms Z ZX rc rs pc (L6 sc m o out outD i τ) [.int w] h := by
  obtain ⟨d0, d1, d2, d3, d4, d5, d6, d7, d8, d9, d10, d11, d12, d13, d14, d15, d16, d17, d18, d19, d20, d21, -⟩ := D
  refine g_istore d0 (Nat.le_of_ble_eq_true rfl) rfl ?_
  refine g_aload_n d1 rfl ?_
  refine g_callV (av := [.ref o]) (rc' := rc) (rs' := rs) kL_184 (r_thrown h I.2.1) d2 rfl rfl I.2.1.1 rfl (Nat.le_of_ble_eq_true rfl) (Nat.le_of_ble_eq_true rfl) (Nat.le_of_ble_eq_true rfl) (by omega) (by omega) rfl (fun _ _ z => z.elim) (fun v9 h5 hz => ?_)
  obtain ⟨rfl, hM, hk⟩ := hz
  obtain ⟨I5, fr⟩ := I.th hd hM hk
  obtain ⟨f, hf, hfy⟩ := ho.tr fr (fun _ => nM_lo)
  simp only [Option.toList_some, List.cons_append, List.nil_append]
  have X : G Γ M_L_law 32 mc ms Z ZX rc rs (pc + 37) [some (.ref sc), some (.ref m), some (.ref o), some (.ref out), some (.ref outD), some (.int (nI i)), some (.int τ), some (.int w), none] [] h5 := by
    refine g_goto d21 hg ?_
    exact g_weak (L' := L0 sc m o out outD i) ⟨rfl, rfl, rfl, rfl, rfl, rfl, True.intro⟩ (Nat.le_refl _) (Nat.le_refl _) (K h5 I5)
  refine g_iload d3 rfl ?_
  refine g_icmp_eq (tgt := pc + 2 + 1 + 3 + 2 + 3 + 1 + 1) d4 (by omega) (fun _ => ?_) (fun z => absurd ht z)
  refine g_iload d7 rfl ?_
  refine g_if_ne (tgt := pc + 37) d8 (by omega) (fun _ => X) (fun z0 => ?_)
  have E : ∀ b : Int64, b = y → G Γ M_L_law 32 mc ms Z ZX rc rs (pc + 31) [some (.ref sc), some (.ref m), some (.ref o), some (.ref out), some (.ref outD), some (.int (nI i)), some (.int τ), some (.int w), none] [.long b, .long (f 0)] h5 := fun b hb => by
    refine g_lcmp d17 ?_
    refine g_if_eq (tgt := pc + 37) d18 (by omega) (fun _ => X) (fun z => absurd ((lg_cmp_eq _ _).mpr ?_) z)
    rw [hfy z0, hb]
  refine g_aload_n d9 rfl ?_
  refine g_iconst (x := nI 0) d10 rfl ?_
  refine g_laload d11 hf (vp_in_nI (by omega) (by omega)) ?_
  rw [nI_clamp (by omega)]
  refine g_iload d12 rfl ?_
  refine g_if_eq (tgt := pc + 30) d13 (by omega) (fun q => ?_) (fun q => ?_)
  · refine g_lconst (x := 0) d16 rfl ?_
    exact E 0 (by rw [hw z0]; unfold bL; rw [if_pos q])
  · refine g_lconst (x := 1) d14 rfl ?_
    refine g_goto (tgt := pc + 31) d15 (by omega) ?_
    exact E 1 (by rw [hw z0]; unfold bL; rw [if_neg q])
/-- the row of the mean weight -/
theorem lt_d {y x : UInt64} {og : Int} (hd : gDi Γ) (D : lDs cL_law pc [(.dstore 7, 2), (.aload_n 2, 1), (.invokevirtual 184, 3), (.iload 6, 2), (.if_icmp .eq 5, 3), (.iconst 0, 1), (.ireturn, 1), (.iload 6, 2), (.ifCond .ne 35, 3), (.aload 4, 2), (.iconst 0, 1), (.daload, 1), (.dload 7, 2), (.dcmp .l, 1), (.ifCond .eq 25, 3), (.aload 4, 2), (.iconst 0, 1), (.daload, 1), (.aload 4, 2), (.iconst 0, 1), (.daload, 1), (.dcmp .l, 1), (.ifCond .eq 11, 3), (.dload 7, 2), (.dload 7, 2), (.dcmp .l, 1), (.ifCond .ne 5, 3), (.iconst 0, 1), (.ireturn, 1), (.goto og, 3)]) (hg : ((pc + 50 : Nat) : Int) + og = 3368) (I : LI Γ de h m o ad out outD V F B) (ho : LD Γ h outD τ y) (hw : τ = 0 → y = x) (ht : V 13 = τ) (K : ∀ h', LI Γ de h' m o ad out outD V F B → G Γ M_L_law 32 mc ms Z ZX rc rs 3368 (L0 sc m o out outD i) [] h') : G Γ M_L_law 32 mc ms Z ZX rc rs pc (L6 sc m o out outD i τ) [.double x] h := by
  obtain ⟨d0, d1, d2, d3, d4, d5, d6, d7, d8, d9, d10, d11, d12, d13, d14, d15, d16, d17, d18, d19, d20, d21, d22, d23, d24, d25, d26, d27, d28, d29, -⟩ := D
  refine g_dstore d0 (Nat.le_of_ble_eq_true rfl) rfl ?_
  refine g_aload_n d1 rfl ?_
  refine g_callV (av := [.ref o]) (rc' := rc) (rs' := rs) kL_184 (r_thrown h I.2.1) d2 rfl rfl I.2.1.1 rfl (Nat.le_of_ble_eq_true rfl) (Nat.le_of_ble_eq_true rfl) (Nat.le_of_ble_eq_true rfl) (by omega) (by omega) rfl (fun _ _ z => z.elim) (fun v9 h5 hz => ?_)
  obtain ⟨rfl, hM, hk⟩ := hz
  obtain ⟨I5, fr⟩ := I.th hd hM hk
  obtain ⟨f, hf, hfy⟩ := ho.tr fr (fun _ => nM_do)
  simp only [Option.toList_some, List.cons_append, List.nil_append]
  have X : G Γ M_L_law 32 mc ms Z ZX rc rs (pc + 50) [some (.ref sc), some (.ref m), some (.ref o), some (.ref out), some (.ref outD), some (.int (nI i)), some (.int τ), some (.double x), none] [] h5 := by
    refine g_goto d29 hg ?_
    exact g_weak (L' := L0 sc m o out outD i) ⟨rfl, rfl, rfl, rfl, rfl, rfl, True.intro⟩ (Nat.le_refl _) (Nat.le_refl _) (K h5 I5)
  refine g_iload d3 rfl ?_
  refine g_icmp_eq (tgt := pc + 2 + 1 + 3 + 2 + 3 + 1 + 1) d4 (by omega) (fun _ => ?_) (fun z => absurd ht z)
  refine g_iload d7 rfl ?_
  refine g_if_ne (tgt := pc + 50) d8 (by omega) (fun _ => X) (fun z0 => ?_)
  have e : f (nI 0).toNatClampNeg = x := by rw [nI_clamp (by omega), hfy z0, hw z0]
  refine g_aload d9 rfl ?_
  refine g_iconst (x := nI 0) d10 rfl ?_
  refine g_daload d11 hf (vp_in_nI (by omega) (by omega)) ?_
  rw [e]
  refine g_dload d12 rfl ?_
  refine g_dcmp d13 ?_
  refine g_if_eq (tgt := pc + 50) d14 (by omega) (fun _ => X) (fun z => ?_)
  refine g_aload d15 rfl ?_
  refine g_iconst (x := nI 0) d16 rfl ?_
  refine g_daload d17 hf (vp_in_nI (by omega) (by omega)) ?_
  rw [e]
  refine g_aload d18 rfl ?_
  refine g_iconst (x := nI 0) d19 rfl ?_
  refine g_daload d20 hf (vp_in_nI (by omega) (by omega)) ?_
  rw [e]
  refine g_dcmp d21 ?_
  refine g_if_eq (tgt := pc + 48) d22 (by omega) (fun q => absurd q z) (fun _ => ?_)
  refine g_dload d23 rfl ?_
  refine g_dload d24 rfl ?_
  refine g_dcmp d25 ?_
  exact g_if_ne (tgt := pc + 50) d26 (by omega) (fun _ => X) (fun q => absurd q z)
/-- the row of the share delivered -/
theorem lt_f {y : UInt64} {x : UInt32} {og : Int} (hd : gDi Γ) (D : lDs cL_law pc [(.fstore 7, 2), (.aload_n 2, 1), (.invokevirtual 184, 3), (.iload 6, 2), (.if_icmp .eq 5, 3), (.iconst 0, 1), (.ireturn, 1), (.iload 6, 2), (.ifCond .ne 36, 3), (.aload 4, 2), (.iconst 0, 1), (.daload, 1), (.fload 7, 2), (.f2d, 1), (.dcmp .l, 1), (.ifCond .eq 25, 3), (.aload 4, 2), (.iconst 0, 1), (.daload, 1), (.aload 4, 2), (.iconst 0, 1), (.daload, 1), (.dcmp .l, 1), (.ifCond .eq 11, 3), (.fload 7, 2), (.fload 7, 2), (.fcmp .l, 1), (.ifCond .ne 5, 3), (.iconst 0, 1), (.ireturn, 1), (.goto og, 3)]) (hg : ((pc + 51 : Nat) : Int) + og = 3368) (I : LI Γ de h m o ad out outD V F B) (ho : LD Γ h outD τ y) (hw : τ = 0 → y = FP.f2d x) (hn : τ = 0 → vf_n32 x) (ht : V 13 = τ) (K : ∀ h', LI Γ de h' m o ad out outD V F B → G Γ M_L_law 32 mc ms Z ZX rc rs 3368 (L0 sc m o out outD i) [] h') : G Γ M_L_law 32 mc ms Z ZX rc rs pc (L6 sc m o out outD i τ) [.float x] h := by
  obtain ⟨d0, d1, d2, d3, d4, d5, d6, d7, d8, d9, d10, d11, d12, d13, d14, d15, d16, d17, d18, d19, d20, d21, d22, d23, d24, d25, d26, d27, d28, d29, d30, -⟩ := D
  refine g_fstore d0 (Nat.le_of_ble_eq_true rfl) rfl ?_
  refine g_aload_n d1 rfl ?_
  refine g_callV (av := [.ref o]) (rc' := rc) (rs' := rs) kL_184 (r_thrown h I.2.1) d2 rfl rfl I.2.1.1 rfl (Nat.le_of_ble_eq_true rfl) (Nat.le_of_ble_eq_true rfl) (Nat.le_of_ble_eq_true rfl) (by omega) (by omega) rfl (fun _ _ z => z.elim) (fun v9 h5 hz => ?_)
  obtain ⟨rfl, hM, hk⟩ := hz
  obtain ⟨I5, fr⟩ := I.th hd hM hk
  obtain ⟨f, hf, hfy⟩ := ho.tr fr (fun _ => nM_do)
  simp only [Option.toList_some, List.cons_append, List.nil_append]
  have X : G Γ M_L_law 32 mc ms Z ZX rc rs (pc + 51) [some (.ref sc), some (.ref m), some (.ref o), some (.ref out), some (.ref outD), some (.int (nI i)), some (.int τ), some (.float x), none] [] h5 := by
    refine g_goto d30 hg ?_
    exact g_weak (L' := L0 sc m o out outD i) ⟨rfl, rfl, rfl, rfl, rfl, rfl, True.intro⟩ (Nat.le_refl _) (Nat.le_refl _) (K h5 I5)
  refine g_iload d3 rfl ?_
  refine g_icmp_eq (tgt := pc + 2 + 1 + 3 + 2 + 3 + 1 + 1) d4 (by omega) (fun _ => ?_) (fun z => absurd ht z)
  refine g_iload d7 rfl ?_
  refine g_if_ne (tgt := pc + 51) d8 (by omega) (fun _ => X) (fun z0 => ?_)
  have e : f (nI 0).toNatClampNeg = FP.f2d x := by rw [nI_clamp (by omega), hfy z0, hw z0]
  refine g_aload d9 rfl ?_
  refine g_iconst (x := nI 0) d10 rfl ?_
  refine g_daload d11 hf (vp_in_nI (by omega) (by omega)) ?_
  rw [e]
  refine g_fload d12 rfl ?_
  refine g_f2d (f2d_n64 (hn z0)) d13 ?_
  refine g_dcmp d14 ?_
  exact g_if_eq (tgt := pc + 51) d15 (by omega) (fun _ => X) (fun z => absurd (dcmp_0 (f2d_n64 (hn z0))) z)
end GLzf
