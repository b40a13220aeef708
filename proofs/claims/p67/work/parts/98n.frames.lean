/-! THE FACE: FRAMES BY KIND, ROOM, THE PICTURE -/
section GFn
variable {Γ : gE} {de : Nat} {h h' h1 h2 : gHp}
theorem hasRoom_le {s : State} {pl : Platform} {r r' : Room} (h1 : r.frames ≤ r'.frames) (h2 : r.cells ≤ r'.cells) (h3 : r.slots ≤ r'.slots) (h4 : r.locals ≤ r'.locals) (h : s.hasRoom pl r' = true) : s.hasRoom pl r = true := by
  unfold State.hasRoom at h ⊢
  simp only [Bool.and_eq_true, decide_eq_true_eq] at h ⊢
  obtain ⟨⟨⟨⟨a, b1, b2, b3, b4, b5⟩, c⟩, d⟩, e⟩ := h
  exact ⟨⟨⟨⟨by omega, by omega, by omega, by omega, by omega, b5⟩, by omega⟩, by omega⟩, e⟩
/-- a contract in a wider room -/
theorem gC_wide {M : gM} {av : List Value} {d mc ms d2 mc2 ms2 : Nat} {Z : Option Value → gHp → Prop} {ZX : String → gHp → Prop} (c : gC Γ M av h d mc ms Z ZX) (h1 : d ≤ d2) (h2 : mc ≤ mc2) (h3 : ms ≤ ms2) : gC Γ M av h d2 mc2 ms2 Z ZX := by
  intro hok p e ha hc hk s m args below hf happ hP hT
  have happ' : (headSpec (gW M :: lw_good) (gRm d mc ms)).appliesLoose M.1 e.platform s = true := by
    rw [Spec.appliesLoose_iff hf] at happ ⊢
    obtain ⟨a1, a2, a3, a4, a5, a6, a7, a8⟩ := happ
    exact ⟨a1, a2, a3, a4, a5, a6, hasRoom_le (r := gRm d mc ms) (r' := gRm d2 mc2 ms2) h1 h2 h3 (Nat.mul_le_mul_left 100 h1) a7, a8⟩
  obtain ⟨k, o, b1, b2, b3, b4⟩ := c hok p e ha hc hk s m args below hf happ' hP hT
  refine ⟨k, o, b1, b2, b3, ?_⟩
  rcases b4 with ⟨q, L, ⟨f1, f2, f3⟩, f4⟩ | ⟨q, e1, E, ce, L, x1, x2, x3, x4, x5, x6, x7⟩
  · exact Or.inl ⟨q, L, ⟨f1, f2, f3.mono h2 h3⟩, f4⟩
  · exact Or.inr ⟨q, e1, E, ce, L, x1, x2, x3, x4, x5, x6.mono h2 h3, x7⟩
/-- kinds of cells: the reference's, the law's own, the class's -/
def kM (Γ : gE) : va_E → Prop
  | .inr x => x.1 = 13
  | .inl (c, n, .inl _) => n = 202 ∨ n = 1616 ∨ n = 120 ∨ (n = 60 ∧ c = Γ.2.2.1 0)
  | .inl (_, _, .inr _) => False
def kL : va_E → Prop
  | .inr _ => False
  | .inl (_, _, .inl _) => False
  | .inl (_, _, .inr (.inl _)) => True
  | .inl (_, _, .inr (.inr (.inl _))) => False
  | .inl (_, _, .inr (.inr (.inr (.inl _)))) => True
  | .inl (_, _, .inr (.inr (.inr (.inr _)))) => False
def kC (Γ : gE) (e : va_E) : Prop := ¬ kM Γ e ∧ ¬ kL e
def gFr (K : va_E → Prop) (h h' : gHp) : Prop := ∀ a e, h a = some e → ¬ K e → h' a = some e
theorem gFr.rf {K : va_E → Prop} : gFr K h h := fun _ _ z _ => z
theorem gFr.tr {K : va_E → Prop} (a : gFr K h h1) (b : gFr K h1 h2) : gFr K h h2 := fun x e z n => b x e (a x e z n) n
theorem gFr.of {K : va_E → Prop} {S : Nat → Prop} (k : gKeep S h h') (hS : ∀ q, S q → ∀ e, h q = some e → K e) : gFr K h h' := fun a e z n => k a e (fun y => n (hS a y e z)) z
theorem gFr.all {K : va_E → Prop} (k : gAll h h') : gFr K h h' := fun a e z _ => k a e (fun y => y) z
theorem gFr.kp {K : va_E → Prop} (k : gFr K h h') : gKeep (fun q => ∃ e, h q = some e ∧ K e) h h' := fun a e n z => k a e z (fun y => n ⟨e, z, y⟩)
/-- the char rows' class is not the int rows' -/
def gDi (Γ : gE) : Prop := ¬ Γ.2.2.1 2 = Γ.2.2.1 0
theorem kC_J {ci : Nat} {fs : List Value} (hc : ci ≠ 13) : kC Γ (gJ ci fs) := ⟨hc, fun z => z⟩
theorem kC_I {n : Nat} {f : Nat → Int32} (h1 : n = 6 ∨ n = 49 ∨ n = 490) : kC Γ (gI Γ n f) := ⟨fun z => by
  have z : n = 202 ∨ n = 1616 ∨ n = 120 ∨ (n = 60 ∧ Γ.2.2.1 0 = Γ.2.2.1 0) := z
  omega, fun z => z⟩
theorem kC_C {f : Nat → Int32} (hd : gDi Γ) : kC Γ (gCh Γ 60 f) := ⟨fun z => by
  have z : (60 : Nat) = 202 ∨ (60 : Nat) = 1616 ∨ (60 : Nat) = 120 ∨ ((60 : Nat) = 60 ∧ Γ.2.2.1 2 = Γ.2.2.1 0) := z
  rcases z with z | z | z | z
  · omega
  · omega
  · omega
  · exact hd z.2, fun z => z⟩
theorem kC_B {n : Nat} {f : Nat → Int32} (h1 : n = 16 ∨ n = 34) : kC Γ (gB Γ n f) := ⟨fun z => by
  have z : n = 202 ∨ n = 1616 ∨ n = 120 ∨ (n = 60 ∧ Γ.2.2.1 1 = Γ.2.2.1 0) := z
  omega, fun z => z⟩
theorem kC_O {n : Nat} {f : Nat → Option Nat} : kC Γ (gO Γ n f) := ⟨fun z => z, fun z => z⟩
theorem gAL_kc {a : Nat} {fp xs : List Nat} (H : gAL Γ de h a fp xs) : ∀ q ∈ fp, ∀ e, h q = some e → kC Γ e := fun q hq e y => by
  rcases gAL_nk H q hq with ⟨fs, z⟩ | ⟨n, f, z⟩
  · rw [z] at y; cases y; exact kC_J (by decide)
  · rw [z] at y; cases y; exact kC_O
theorem gOf.kc {N : Nat → Int32} {c t o : Nat} {fp : List Nat} (H : gOf Γ de h N c t o fp) : ∀ q ∈ fp, ∀ e, h q = some e → kC Γ e := by
  obtain ⟨la, ta, ca, da, ba, pa, ep, fl, fq, ls, ps, H, rfl, nd⟩ := H
  obtain ⟨ho, HL, hlc, hls, hta, HP, hpc, hps, hep, ⟨fc, hca, hfc⟩, ⟨fd, hda, hfd⟩, ⟨fb, hba, hfb⟩⟩ := H
  intro q hq e y
  unfold gFp at hq
  simp only [List.mem_cons, List.mem_append] at hq
  rcases hq with rfl | rfl | rfl | rfl | rfl | z | z | z
  · rw [ho] at y; cases y; exact kC_J (by decide)
  · rw [hta] at y; cases y; exact kC_J (by decide)
  · rw [hca] at y; cases y; exact kC_I (by decide)
  · rw [hda] at y; cases y; exact kC_I (by decide)
  · rw [hba] at y; cases y; exact kC_I (by decide)
  · exact gAL_kc HL q z e y
  · exact gAL_kc HP q z e y
  · obtain ⟨i, hi⟩ := List.getElem?_of_mem z
    have := hls i q hi
    unfold gLet at this
    rw [this] at y; cases y; exact kC_J (by decide)
theorem gOf.fr {N : Nat → Int32} {c t o : Nat} {fp : List Nat} {K : va_E → Prop} (H : gOf Γ de h N c t o fp) (k : gFr K h h') (hK : ∀ e, kC Γ e → ¬ K e) : gOf Γ de h' N c t o fp :=
  H.kp k.kp (fun q hq z => by
    obtain ⟨e, z1, z2⟩ := z
    exact hK e (H.kc q hq e z1) z2) (fun q z fs y => by
    obtain ⟨e, z1, z2⟩ := z
    rw [z1] at y
    cases y
    exact hK _ (kC_J (by decide)) z2)
theorem gAL_fr {a : Nat} {fp xs : List Nat} {K : va_E → Prop} (H : gAL Γ de h a fp xs) (k : gFr K h h') (hK : ∀ e, kC Γ e → ¬ K e) : gAL Γ de h' a fp xs :=
  gAL_kp H k.kp (fun q hq z => by
    obtain ⟨e, z1, z2⟩ := z
    exact hK e (gAL_kc H q hq e z1) z2)
theorem gTR_fr {tt ch ro k9 : Nat} {C : Nat → Nat} {R : Nat → Int32} {K : va_E → Prop} (H : gTR Γ h tt ch ro C R k9) (k : gFr K h h') (hK : ∀ e, kC Γ e → ¬ K e) : gTR Γ h' tt ch ro C R k9 := by
  obtain ⟨a, ⟨f, b1, b2⟩, ⟨g, c1, c2⟩, d⟩ := H
  exact ⟨k _ _ a (hK _ (kC_J (by decide))), ⟨f, k _ _ b1 (hK _ (kC_I (by decide))), b2⟩, ⟨g, k _ _ c1 (hK _ (kC_I (by decide))), c2⟩, d⟩
theorem gSB_fr {a v m : Nat} {xs : List Nat} {K : va_E → Prop} (H : gSB Γ h a v m xs) (k : gFr K h h') (hK : ∀ e, kC Γ e → ¬ K e) : gSB Γ h' a v m xs := by
  obtain ⟨ml, f, h1, h2, h3, h4, h5, h6, h7⟩ := H
  exact ⟨ml, f, k _ _ h1 (hK _ (kC_J (by decide))), k _ _ h2 (hK _ (kC_B h5)), h3, h4, h5, h6, h7⟩
/-- an office's picture: its row, its place, its footprint -/
abbrev oT : Type := (Nat → Int32) × Nat × List Nat
def gOne (Γ : gE) (de : Nat) (h : gHp) (B : Nat) (x : oT) : Prop := ∃ c t nx, gOf Γ de h x.1 c t x.2.1 x.2.2 ∧ rIV x.1 c t nx ∧ nx ≤ B
def gApart (x y : oT) : Prop := ∀ q ∈ x.2.2, q ∉ y.2.2
theorem gOne.fr {B : Nat} {x : oT} {K : va_E → Prop} (H : gOne Γ de h B x) (k : gFr K h h') (hK : ∀ e, kC Γ e → ¬ K e) : gOne Γ de h' B x := by
  obtain ⟨c, t, nx, a, b⟩ := H
  exact ⟨c, t, nx, a.fr k hK, b⟩
theorem gOne.mono {B B' : Nat} {x : oT} (H : gOne Γ de h B x) (hB : B ≤ B') : gOne Γ de h B' x := by
  obtain ⟨c, t, nx, a, b, d⟩ := H
  exact ⟨c, t, nx, a, b, Nat.le_trans d hB⟩
/-- a cell's tag -/
def tg : va_E → Nat
  | .inr x => x.1
  | .inl (_, n, .inl _) => 100 + n
  | .inl (_, _, .inr (.inl _)) => 60
  | .inl (_, _, .inr (.inr (.inl _))) => 61
  | .inl (_, _, .inr (.inr (.inr (.inl _)))) => 62
  | .inl (_, _, .inr (.inr (.inr (.inr _)))) => 50
theorem gAL_tg {a : Nat} {fp xs : List Nat} (H : gAL Γ de h a fp xs) : ∀ q ∈ fp, ∃ e, h q = some e ∧ (tg e = 4 ∨ tg e = 50) := fun q hq => by
  rcases gAL_nk H q hq with ⟨fs, z⟩ | ⟨n, f, z⟩
  · exact ⟨_, z, Or.inl rfl⟩
  · exact ⟨_, z, Or.inr rfl⟩
def tgO (e : va_E) : Prop := tg e = 7 ∨ tg e = 11 ∨ tg e = 106 ∨ tg e = 4 ∨ tg e = 50 ∨ tg e = 6
theorem gOf.tgs {N : Nat → Int32} {c t o : Nat} {fp : List Nat} (H : gOf Γ de h N c t o fp) : ∀ q ∈ fp, ∃ e, h q = some e ∧ tgO e := by
  obtain ⟨la, ta, ca, da, ba, pa, ep, fl, fq, ls, ps, H, rfl, nd⟩ := H
  obtain ⟨ho, HL, hlc, hls, hta, HP, hpc, hps, hep, ⟨fc, hca, hfc⟩, ⟨fd, hda, hfd⟩, ⟨fb, hba, hfb⟩⟩ := H
  intro q hq
  unfold gFp at hq
  simp only [List.mem_cons, List.mem_append] at hq
  rcases hq with rfl | rfl | rfl | rfl | rfl | z | z | z
  · exact ⟨_, ho, Or.inl rfl⟩
  · exact ⟨_, hta, Or.inr (Or.inl rfl)⟩
  · exact ⟨_, hca, Or.inr (Or.inr (Or.inl rfl))⟩
  · exact ⟨_, hda, Or.inr (Or.inr (Or.inl rfl))⟩
  · exact ⟨_, hba, Or.inr (Or.inr (Or.inl rfl))⟩
  · obtain ⟨e, z1, z2⟩ := gAL_tg HL q z
    exact ⟨e, z1, by unfold tgO; omega⟩
  · obtain ⟨e, z1, z2⟩ := gAL_tg HP q z
    exact ⟨e, z1, by unfold tgO; omega⟩
  · obtain ⟨i, hi⟩ := List.getElem?_of_mem z
    exact ⟨_, hls i q hi, Or.inr (Or.inr (Or.inr (Or.inr (Or.inr rfl))))⟩
theorem gOf.ft {N : Nat → Int32} {c t o : Nat} {fp : List Nat} {K : va_E → Prop} (H : gOf Γ de h N c t o fp) (k : gFr K h h') (hK : ∀ e, (tgO e ∨ tg e = 9) → ¬ K e) : gOf Γ de h' N c t o fp :=
  H.kp k.kp (fun q hq z => by
    obtain ⟨e, z1, z2⟩ := z
    obtain ⟨e1, y1, y2⟩ := H.tgs q hq
    rw [z1] at y1
    cases y1
    exact hK e (Or.inl y2) z2) (fun q z fs y => by
    obtain ⟨e, z1, z2⟩ := z
    rw [z1] at y
    cases y
    exact hK _ (Or.inr rfl) z2)
theorem gAL_ft {a : Nat} {fp xs : List Nat} {K : va_E → Prop} (H : gAL Γ de h a fp xs) (k : gFr K h h') (hK : ∀ e, (tg e = 4 ∨ tg e = 50) → ¬ K e) : gAL Γ de h' a fp xs :=
  gAL_kp H k.kp (fun q hq z => by
    obtain ⟨e, z1, z2⟩ := z
    obtain ⟨e1, y1, y2⟩ := gAL_tg H q hq
    rw [z1] at y1
    cases y1
    exact hK e y2 z2)
theorem gOne.ft {B : Nat} {x : oT} {K : va_E → Prop} (H : gOne Γ de h B x) (k : gFr K h h') (hK : ∀ e, (tgO e ∨ tg e = 9) → ¬ K e) : gOne Γ de h' B x := by
  obtain ⟨c, t, nx, a, b⟩ := H
  exact ⟨c, t, nx, a.ft k hK, b⟩
def gTree (Γ : gE) (h : gHp) (tt : Nat) : Prop := ∃ (ch ro k9 : Nat) (C : Nat → Nat) (R : Nat → Int32), gTR Γ h tt ch ro C R k9 ∧ ∀ q, q < 490 → C q ≤ 48
def gBuf (Γ : gE) (h : gHp) (V : Nat → Int32) (F : Nat → Nat → Int32) (bu : Nat) : Prop := ∃ (n : Nat) (tx : Nat → Nat) (f9 : Nat → Int32), V 10 = nI n ∧ n ≤ 60 ∧ h bu = some (gCh Γ 60 f9) ∧ ∀ i, i < n → F 9 i = nI (tx i) ∧ tx i < 128 ∧ f9 i = nI (tx i)
def gLin (Γ : gE) (h : gHp) (V : Nat → Int32) (F : Nat → Nat → Int32) (sb : Nat) : Prop := ∃ (lv lm : Nat) (xs : List Nat), gSB Γ h sb lv lm xs ∧ xs.length ≤ 34 ∧ V 12 = nI xs.length ∧ ∀ i x, xs[i]? = some x → F 11 i = nI x ∧ x < 128
/-- tree, buffer and line -/
def gTl (Γ : gE) (h : gHp) (V : Nat → Int32) (F : Nat → Nat → Int32) (tt bu sb : Nat) : Prop := gTree Γ h tt ∧ gBuf Γ h V F bu ∧ gLin Γ h V F sb
def tgT (e : va_E) : Prop := tg e = 10 ∨ tg e = 590 ∨ tg e = 149
def tgB (e : va_E) : Prop := tg e = 160
def tgL (e : va_E) : Prop := tg e = 1 ∨ tg e = 116 ∨ tg e = 134
section Tl
variable {V : Nat → Int32} {F : Nat → Nat → Int32} {tt bu sb : Nat} {K : va_E → Prop}
theorem gTree.ft (H : gTree Γ h tt) (k : gFr K h h') (hK : ∀ e, tgT e → ¬ K e) : gTree Γ h' tt := by
  obtain ⟨ch, ro, k9, C, R, ⟨a, ⟨f, b1, b2⟩, ⟨g, c1, c2⟩, d⟩, e⟩ := H
  exact ⟨ch, ro, k9, C, R, ⟨k _ _ a (hK _ (Or.inl rfl)), ⟨f, k _ _ b1 (hK _ (Or.inr (Or.inl rfl))), b2⟩, ⟨g, k _ _ c1 (hK _ (Or.inr (Or.inr rfl))), c2⟩, d⟩, e⟩
theorem gBuf.ft (H : gBuf Γ h V F bu) (k : gFr K h h') (hK : ∀ e, tgB e → ¬ K e) : gBuf Γ h' V F bu := by
  obtain ⟨n, tx, f9, a, b, c, d⟩ := H
  exact ⟨n, tx, f9, a, b, k _ _ c (hK _ rfl), d⟩
theorem gLin.ft (H : gLin Γ h V F sb) (k : gFr K h h') (hK : ∀ e, tgL e → ¬ K e) : gLin Γ h' V F sb := by
  obtain ⟨lv, lm, xs, ⟨ml, f, h1, h2, h3, h4, h5, h6⟩, b⟩ := H
  refine ⟨lv, lm, xs, ⟨ml, f, k _ _ h1 (hK _ (Or.inl rfl)), k _ _ h2 (hK _ ?_), h3, h4, h5, h6⟩, b⟩
  unfold tgL
  show 100 + lm = 1 ∨ 100 + lm = 116 ∨ 100 + lm = 134
  omega
theorem gTl.ft (H : gTl Γ h V F tt bu sb) (k : gFr K h h') (hK : ∀ e, (tgT e ∨ tgB e ∨ tgL e) → ¬ K e) : gTl Γ h' V F tt bu sb :=
  ⟨H.1.ft k (fun e z => hK e (Or.inl z)), H.2.1.ft k (fun e z => hK e (Or.inr (Or.inl z))), H.2.2.ft k (fun e z => hK e (Or.inr (Or.inr z)))⟩
theorem gTl.fr (H : gTl Γ h V F tt bu sb) (hd : gDi Γ) (k : gFr K h h') (hK : ∀ e, kC Γ e → ¬ K e) : gTl Γ h' V F tt bu sb := by
  obtain ⟨⟨ch, ro, k9, C, R, a9, a10⟩, ⟨n, tx, f9, a11, a12, a13, a14⟩, ⟨lv, lm, xs, a15, a16⟩⟩ := H
  exact ⟨⟨ch, ro, k9, C, R, gTR_fr a9 k hK, a10⟩, ⟨n, tx, f9, a11, a12, k _ _ a13 (hK _ (kC_C hd)), a14⟩, ⟨lv, lm, xs, gSB_fr a15 k hK, a16⟩⟩
end Tl
/-- the face's picture; ex: offices beside it -/
def gMX (Γ : gE) (de : Nat) (h : gHp) (m : Nat) (V : Nat → Int32) (F : Nat → Nat → Int32) (B : Nat) (ex : List oT) : Prop :=
  ∃ (o : Nat) (fo : List Nat) (sv fr : List oT) (svv : Value) (hl tt bu sb : Nat) (fl : List Nat),
    gMc h m o svv hl tt bu (V 10) sb (V 7) (V 8) ∧
    (∀ x ∈ ex ++ ((F 0, o, fo) :: (sv ++ fr)), gOne Γ de h B x) ∧ (ex ++ ((F 0, o, fo) :: (sv ++ fr))).Pairwise gApart ∧
    ((V 5 = nI 0 ∧ sv = [] ∧ svv = .null) ∨ (V 5 = nI 1 ∧ ∃ os fs, sv = [(F 3, os, fs)] ∧ svv = .ref os)) ∧
    (V 6 = nI fr.length ∧ fr.length ≤ 8 ∧ ∀ i x, fr[i]? = some x → ∀ q, q < 202 → x.1 q = F 4 (202 * i + q)) ∧
    (gAL Γ de h hl fl (fr.map (fun x => x.2.1)) ∧ ∀ q ∈ fl, ∀ x ∈ ex ++ ((F 0, o, fo) :: (sv ++ fr)), q ∉ x.2.2) ∧
    gTl Γ h V F tt bu sb
def gMO (Γ : gE) (de : Nat) (h : gHp) (m : Nat) (V : Nat → Int32) (F : Nat → Nat → Int32) (B : Nat) : Prop := gMX Γ de h m V F B []
variable {m B : Nat} {V V' : Nat → Int32} {F F' : Nat → Nat → Int32} {ex : List oT}
theorem gMX.eqv (H : gMX Γ de h m V F B ex) (hV : ∀ j, j < 13 → V' j = V j) (hF : ∀ j, j = 0 ∨ j = 3 ∨ j = 4 ∨ j = 9 ∨ j = 11 → F' j = F j) : gMX Γ de h m V' F' B ex := by
  unfold gMX gTl gBuf gLin at H ⊢
  rw [hV 5 (by decide), hV 6 (by decide), hV 7 (by decide), hV 8 (by decide), hV 10 (by decide), hV 12 (by decide), hF 0 (by decide), hF 3 (by decide), hF 4 (by decide), hF 9 (by decide), hF 11 (by decide)]
  exact H
theorem gMX.fr {K : va_E → Prop} (H : gMX Γ de h m V F B ex) (hd : gDi Γ) (k : gFr K h h') (hK : ∀ e, kC Γ e → ¬ K e) : gMX Γ de h' m V F B ex := by
  obtain ⟨o, fo, sv, fr, svv, hl, tt, bu, sb, fl, a1, a2, a3, a4, a5, ⟨a6, a7⟩, a8⟩ := H
  exact ⟨o, fo, sv, fr, svv, hl, tt, bu, sb, fl, k _ _ a1 (hK _ (kC_J (by decide))), fun x hx => (a2 x hx).fr k hK, a3, a4, a5, ⟨gAL_fr a6 k hK, a7⟩, a8.fr hd k hK⟩
theorem gMX.mono {B' : Nat} (H : gMX Γ de h m V F B ex) (hB : B ≤ B') : gMX Γ de h m V F B' ex := by
  obtain ⟨o, fo, sv, fr, svv, hl, tt, bu, sb, fl, a1, a2, a3⟩ := H
  exact ⟨o, fo, sv, fr, svv, hl, tt, bu, sb, fl, a1, fun x hx => (a2 x hx).mono hB, a3⟩
theorem gMO.eqv (H : gMO Γ de h m V F B) (hV : ∀ j, j < 13 → V' j = V j) (hF : ∀ j, j = 0 ∨ j = 3 ∨ j = 4 ∨ j = 9 ∨ j = 11 → F' j = F j) : gMO Γ de h m V' F' B := gMX.eqv H hV hF
theorem gMO.fr {K : va_E → Prop} (H : gMO Γ de h m V F B) (hd : gDi Γ) (k : gFr K h h') (hK : ∀ e, kC Γ e → ¬ K e) : gMO Γ de h' m V F B := gMX.fr H hd k hK
theorem gMO.mono {B' : Nat} (H : gMO Γ de h m V F B) (hB : B ≤ B') : gMO Γ de h m V F B' := gMX.mono H hB
/-- the office now, as one thing; as the reads take it -/
theorem gMO.ro (H : gMO Γ de h m V F B) : ∃ nx o svv hl tt bu sb fo, gMc h m o svv hl tt bu (V 10) sb (V 7) (V 8) ∧ gOf Γ de h (F 0) (rc (F 0)) (rtt (F 0)) o fo ∧ rIV (F 0) (rc (F 0)) (rtt (F 0)) nx ∧ nx ≤ B := by
  obtain ⟨o, fo, sv, fr, svv, hl, tt, bu, sb, fl, a1, a2, a3⟩ := H
  obtain ⟨c, t, nx, b1, b4, b5⟩ := a2 (F 0, o, fo) (List.mem_append_right _ List.mem_cons_self)
  have e1 := b4.c_eq
  have e2 := b4.t_eq
  rw [← e1, ← e2] at b1 b4
  exact ⟨nx, o, svv, hl, tt, bu, sb, fo, a1, b1, b4, b5⟩
theorem gMO.rd (H : gMO Γ de h m V F B) : ∃ nx o svv hl tt bu sb la ta ca da ba pa ep fl fq ls ps, gMc h m o svv hl tt bu (V 10) sb (V 7) (V 8) ∧ gOx Γ de h o (F 0) (rc (F 0)) (rtt (F 0)) la ta ca da ba pa ep fl fq ls ps ∧ rIV (F 0) (rc (F 0)) (rtt (F 0)) nx ∧ nx ≤ B := by
  obtain ⟨nx, o, svv, hl, tt, bu, sb, fo, a1, ⟨la, ta, ca, da, ba, pa, ep, fl2, fq, ls, ps, b1, b2, b3⟩, b4, b5⟩ := H.ro
  exact ⟨nx, o, svv, hl, tt, bu, sb, la, ta, ca, da, ba, pa, ep, fl2, fq, ls, ps, a1, b1, b4, b5⟩
/-- a call of the face: the reference's code τ; 0: it returns x; else it throws what nm says; behind it P -/
def fZ (τ : Int32) (x : Value) (P : gHp → Prop) : Option Value → gHp → Prop := fun v h' => τ = 0 ∧ v = some x ∧ P h'
def fX (τ : Int32) (nm : Int32 → String) (P : gHp → Prop) : String → gHp → Prop := fun E h' => ¬ τ = 0 ∧ E = nm τ ∧ P h'
/-- cells of a room of W slots -/
def cW (W : Nat) : Nat := W / 36 + min W 1
def fC (Γ : gE) (M : gM) (av : List Value) (h : gHp) (W : Nat) (τ : Int32) (x : Value) (nm : Int32 → String) (P : gHp → Prop) : Prop := gC Γ M av h 30 (cW W) W (fZ τ x P) (fX τ nm P)
def nmOf (a b c : String) (τ : Int32) : String := if τ = nI 1 then a else if τ = nI 2 then b else c
/-- behind a call: the new picture; all but the class's cells as before -/
def fP (Γ : gE) (de : Nat) (h : gHp) (m : Nat) (V : Nat → Int32) (F : Nat → Nat → Int32) (B : Nat) : gHp → Prop := fun h' => gMO Γ de h' m V F B ∧ gFr (kC Γ) h h'
theorem gMO.same (H : gMO Γ de h m V F B) (hV : ∀ j, j < 13 → V' j = V j) (hF : ∀ j, j = 0 ∨ j = 3 ∨ j = 4 ∨ j = 9 ∨ j = 11 → F' j = F j) : fP Γ de h m V' F' B h := ⟨H.eqv hV hF, gFr.rf⟩
theorem gMO.self (H : gMO Γ de h m V F B) {τ : Int32} : fP Γ de h m (vU V 13 τ) F B h := H.same (fun j hj => vU_n (by omega)) (fun _ _ => rfl)
variable {M : gM} {av : List Value} {d mc ms W : Nat} {Z : Option Value → gHp → Prop} {ZX : String → gHp → Prop} {τ : Int32} {x : Value} {nm : Int32 → String} {P : gHp → Prop}
theorem fC_ok (c : gC Γ M av h d mc ms Z (fun _ _ => False)) (hd : d ≤ 30) (hmc : mc ≤ cW W) (hms : ms ≤ W) (ht : τ = 0) (hz : ∀ v h', Z v h' → v = some x ∧ P h') : fC Γ M av h W τ x nm P :=
  gC_wide (gC_post c (fun v h' z => ⟨ht, hz v h' z⟩) (fun _ _ z => z.elim)) hd hmc hms
theorem fC_pure (c : pC Γ M av h d (some x)) (hd : d ≤ 30) (ht : τ = 0) (hP : P h) : fC Γ M av h W τ x nm P :=
  fC_ok c hd (Nat.zero_le _) (Nat.zero_le _) ht (fun v h' z => by obtain ⟨rfl, rfl⟩ := z; exact ⟨rfl, hP⟩)
theorem fC_no {E0 : String} (c : gC Γ M av h d mc ms (fun _ _ => False) (fun E h' => E = E0 ∧ h' = h)) (hd : d ≤ 30) (hmc : mc ≤ cW W) (hms : ms ≤ W) (ht : ¬ τ = 0) (hE : nm τ = E0) (hP : P h) : fC Γ M av h W τ x nm P :=
  gC_wide (gC_post c (fun _ _ z => z.elim) (fun E h' z => by obtain ⟨rfl, rfl⟩ := z; exact ⟨ht, hE.symm, hP⟩)) hd hmc hms
theorem fC_x {y : Value} (c : fC Γ M av h W τ x nm P) (e : τ = 0 → x = y) : fC Γ M av h W τ y nm P :=
  gC_post c (fun v h' z => ⟨z.1, by rw [← e z.1]; exact z.2.1, z.2.2⟩) (fun _ _ z => z)
theorem fC_t {τ' : Int32} (c : fC Γ M av h W τ x nm P) (e : τ = τ') : fC Γ M av h W τ' x nm P := e ▸ c
theorem fC_P {P' : gHp → Prop} (c : fC Γ M av h W τ x nm P) (e : ∀ h', P h' → P' h') : fC Γ M av h W τ x nm P' :=
  gC_post c (fun v h' z => ⟨z.1, z.2.1, e _ z.2.2⟩) (fun _ _ z => ⟨z.1, z.2.1, e _ z.2.2⟩)
/-- a call that only asks: it answers x and leaves the heap as it is, or throws -/
def fQ (Γ : gE) (M : gM) (av : List Value) (h : gHp) (τ : Int32) (x : Value) (nm : Int32 → String) : Prop := (τ = 0 → pC Γ M av h 30 (some x)) ∧ (¬ τ = 0 → gC Γ M av h 30 1 6 (fun _ _ => False) (fun E h' => E = nm τ ∧ h' = h))
theorem fQ_pure (c : pC Γ M av h d (some x)) (hd : d ≤ 30) (ht : τ = 0) (_ : h = h) : fQ Γ M av h τ x nm := ⟨fun _ => gC_wide c hd (Nat.le_refl _) (Nat.le_refl _), fun z => absurd ht z⟩
theorem fQ_no {E0 : String} (c : gC Γ M av h d mc ms (fun _ _ => False) (fun E h' => E = E0 ∧ h' = h)) (hd : d ≤ 30) (hmc : mc ≤ 1) (hms : ms ≤ 6) (ht : ¬ τ = 0) (hE : nm τ = E0) (_ : h = h) : fQ Γ M av h τ x nm :=
  ⟨fun z => absurd z ht, fun _ => gC_wide (gC_post c (fun _ _ z => z) (fun E h' z => ⟨z.1.trans hE.symm, z.2⟩)) hd hmc hms⟩
theorem fQ_x {y : Value} (c : fQ Γ M av h τ x nm) (e : τ = 0 → x = y) : fQ Γ M av h τ y nm := ⟨fun z => e z ▸ c.1 z, c.2⟩
abbrev fAn (Γ : gE) (M : gM) (av : List Value) (h : gHp) (x : Value) : Prop := pC Γ M av h 30 (some x)
theorem fAn_pure (c : pC Γ M av h d (some x)) (hd : d ≤ 30) (_ : h = h) : fAn Γ M av h x := gC_wide c hd (Nat.le_refl _) (Nat.le_refl _)
theorem fAn_x {y : Value} (c : fAn Γ M av h x) (e : x = y) : fAn Γ M av h y := e ▸ c
end GFn
