/-! THE REFERENCE: its cells as numbers (V: its whole numbers by field; F: its rows by field), its judgement mG -/
section MLayer
def gKeep (S : Nat → Prop) (h h' : gHp) : Prop := ∀ a e, ¬ S a → h a = some e → h' a = some e
theorem gKeep.rf {S : Nat → Prop} {h : gHp} : gKeep S h h := fun _ _ _ q => q
theorem gKeep.tr {S : Nat → Prop} {h h1 h2 : gHp} (a : gKeep S h h1) (b : gKeep S h1 h2) : gKeep S h h2 := fun x e n q => b x e n (a x e n q)
theorem gKeep.up {S : Nat → Prop} {h : gHp} {a : Nat} {e : va_E} (n : S a) : gKeep S h (gUp h a e) := fun x f hn q => by
  rw [gUp_n h e (fun (z : x = a) => hn (by rw [z]; exact n))]
  exact q
def mIs (j : Nat) : Bool := j == 0 || j == 1 || j == 2 || j == 3 || j == 4 || j == 9 || j == 11 || j == 19
def mLen (j : Nat) : Nat := if j ≤ 3 then 202 else if j = 4 then 1616 else if j = 19 then 120 else 60
def mFs (ad : Nat → Nat) (V : Nat → Int32) : List Value := [.ref (ad 0), .ref (ad 1), .ref (ad 2), .ref (ad 3), .ref (ad 4), .int (V 5), .int (V 6), .int (V 7), .int (V 8), .ref (ad 9), .int (V 10), .ref (ad 11), .int (V 12), .int (V 13), .int (V 14), .int (V 15), .int (V 16), .int (V 17), .int (V 18), .ref (ad 19)]
def mS (o : Nat) (ad : Nat → Nat) : Nat → Prop := fun a => a = o ∨ ∃ j, mIs j = true ∧ a = ad j
def MR (Γ : gE) (o : Nat) (ad : Nat → Nat) (V : Nat → Int32) (F : Nat → Nat → Int32) (h : gHp) : Prop :=
  h o = some (gJ 13 (mFs ad V)) ∧ (∀ j, mIs j = true → ∃ g, h (ad j) = some (gI Γ (mLen j) g) ∧ ∀ q, q < mLen j → g q = F j q) ∧ (∀ j, mIs j = true → ad j ≠ o) ∧ ∀ i j, mIs i = true → mIs j = true → ad i = ad j → i = j
/-- a number changed -/
def vU (V : Nat → Int32) (k : Nat) (x : Int32) : Nat → Int32 := fun j => if j = k then x else V j
/-- a row changed at a place; a whole row changed -/
def fU (F : Nat → Nat → Int32) (j k : Nat) (x : Int32) : Nat → Nat → Int32 := fun i => if i = j then (fun q => if q = k then x else F j q) else F i
def fR (F : Nat → Nat → Int32) (j : Nat) (g : Nat → Int32) : Nat → Nat → Int32 := fun i => if i = j then g else F i
theorem MR.put {Γ : gE} {o : Nat} {ad : Nat → Nat} {V : Nat → Int32} {F : Nat → Nat → Int32} {h : gHp} (H : MR Γ o ad V F h) (V' : Nat → Int32) : MR Γ o ad V' F (gUp h o (gJ 13 (mFs ad V'))) := by
  obtain ⟨h1, h2, h3, h4⟩ := H
  exact ⟨gUp_s _ _ _, fun j hj => by rw [gUp_n h _ (h3 j hj)]; exact h2 j hj, h3, h4⟩
theorem MR.eqv {Γ : gE} {o : Nat} {ad : Nat → Nat} {V V' : Nat → Int32} {F F' : Nat → Nat → Int32} {h : gHp} (H : MR Γ o ad V F h) (e : mFs ad V = mFs ad V') (f : ∀ j q, mIs j = true → q < mLen j → F j q = F' j q) : MR Γ o ad V' F' h := by
  obtain ⟨h1, h2, h3, h4⟩ := H
  refine ⟨by rw [← e]; exact h1, fun j hj => ?_, h3, h4⟩
  obtain ⟨g, g1, g2⟩ := h2 j hj
  exact ⟨g, g1, fun q hq => (g2 q hq).trans (f j q hj hq)⟩
theorem MR.row {Γ : gE} {o : Nat} {ad : Nat → Nat} {V : Nat → Int32} {F : Nat → Nat → Int32} {h : gHp} (H : MR Γ o ad V F h) {j : Nat} (hj : mIs j = true) (g0 g : Nat → Int32) (hg : ∀ q, q < mLen j → g0 q = g q) : MR Γ o ad V (fR F j g) (gUp h (ad j) (gI Γ (mLen j) g0)) := by
  obtain ⟨h1, h2, h3, h4⟩ := H
  refine ⟨by rw [gUp_n h _ (fun z => h3 j hj z.symm)]; exact h1, fun i hi => ?_, h3, h4⟩
  unfold fR
  by_cases e : i = j
  · subst e
    rw [gUp_s]
    exact ⟨g0, rfl, fun q hq => by rw [if_pos rfl]; exact hg q hq⟩
  · rw [gUp_n h _ (fun z => e (h4 i j hi hj z)), if_neg e]
    exact h2 i hi
theorem fU_row (F : Nat → Nat → Int32) (j k : Nat) (x : Int32) : fU F j k x = fR F j (upd (F j) k x) := by
  funext i
  unfold fU fR
  by_cases e : i = j
  · rw [if_pos e, if_pos e]
    funext q
    unfold upd
    rfl
  · rw [if_neg e, if_neg e]
def mC (Γ : gE) (o : Nat) (ad : Nat → Nat) (M : gM) (av : List Value) (V : Nat → Int32) (F : Nat → Nat → Int32) (d : Nat) (v : Option Value) (V' : Nat → Int32) (F' : Nat → Nat → Int32) : Prop :=
  ∀ h, MR Γ o ad V F h → gC Γ M (.ref o :: av) h d 0 0 (fun v' h' => v' = v ∧ MR Γ o ad V' F' h' ∧ gKeep (mS o ad) h h') (fun _ _ => False)
/-- a static method of the class on its rows -/
def mCS (Γ : gE) (o : Nat) (ad : Nat → Nat) (M : gM) (av : List Value) (V : Nat → Int32) (F : Nat → Nat → Int32) (d : Nat) (v : Option Value) (V' : Nat → Int32) (F' : Nat → Nat → Int32) : Prop :=
  ∀ h, MR Γ o ad V F h → gC Γ M av h d 0 0 (fun v' h' => v' = v ∧ MR Γ o ad V' F' h' ∧ gKeep (mS o ad) h h') (fun _ _ => False)
def mG (Γ : gE) (o : Nat) (ad : Nat → Nat) (M : gM) (d : Nat) (v : Option Value) (V' : Nat → Int32) (F' : Nat → Nat → Int32) (pc : Nat) (L : List (Option Value)) (st : List Value) (V : Nat → Int32) (F : Nat → Nat → Int32) : Prop :=
  ∀ h0 h, MR Γ o ad V F h → gKeep (mS o ad) h0 h → G Γ M d 0 0 (fun v' h' => v' = v ∧ MR Γ o ad V' F' h' ∧ gKeep (mS o ad) h0 h') (fun _ _ => False) 0 0 pc L st h
/-- a static method of plain numbers -/
def sC (Γ : gE) (M : gM) (av : List Value) (d : Nat) (v : Option Value) : Prop := ∀ h, gC Γ M av h d 0 0 (fun v' h' => v' = v ∧ h' = h) (fun _ _ => False)
theorem gC_post {Γ : gE} {M : gM} {av : List Value} {h : gHp} {d mc ms : Nat} {Z Z' : Option Value → gHp → Prop} {ZX ZX' : String → gHp → Prop} (c : gC Γ M av h d mc ms Z ZX) (f : ∀ v h', Z v h' → Z' v h') (g : ∀ E h', ZX E h' → ZX' E h') : gC Γ M av h d mc ms Z' ZX' := by
  intro hok p e ha hc hk s m args below hf happ hP hT
  obtain ⟨k, o, h1, h2, h3, h4⟩ := c hok p e ha hc hk s m args below hf happ hP hT
  refine ⟨k, o, h1, h2, h3, ?_⟩
  rcases h4 with ⟨⟨⟨v, h', a1, a2, a3⟩, a4⟩, a5⟩ | ⟨q, b1, E, ce, L, ⟨⟨h', b2, b3⟩, b4⟩, b5⟩
  · exact Or.inl ⟨⟨⟨v, h', a1, f v h' a2, a3⟩, a4⟩, a5⟩
  · exact Or.inr ⟨q, b1, E, ce, L, ⟨⟨h', g E h' b2, b3⟩, b4⟩, b5⟩
variable {Γ : gE} {o : Nat} {ad : Nat → Nat} {M : gM} {d : Nat} {v : Option Value} {V' : Nat → Int32} {F' : Nat → Nat → Int32} {pc : Nat} {L L' : List (Option Value)} {st : List Value} {V : Nat → Int32} {F : Nat → Nat → Int32}
theorem mC_of {av : List Value} (hy : plainName M.1.cls = true) (hh : M.2.2.2.2 = []) (hlen : (lg_sl (.ref o :: av)).length ≤ M.2.2.1) (L : List (Option Value)) (hL : gAs 0 L = lv_args 0 (.ref o :: av)) (k : mG Γ o ad M d v V' F' 0 L [] V F) : mC Γ o ad M av V F d v V' F' :=
  fun h hM => gC_of hy hh hlen L hL (k h h hM gKeep.rf)
theorem mCS_of {av : List Value} (hy : plainName M.1.cls = true) (hh : M.2.2.2.2 = []) (hlen : (lg_sl av).length ≤ M.2.2.1) (L : List (Option Value)) (hL : gAs 0 L = lv_args 0 av) (k : mG Γ o ad M d v V' F' 0 L [] V F) : mCS Γ o ad M av V F d v V' F' :=
  fun h hM => gC_of hy hh hlen L hL (k h h hM gKeep.rf)
/-- the end said otherwise -/
theorem mC_to {av : List Value} {w : Option Value} {V1 : Nat → Int32} {F1 : Nat → Nat → Int32} (c : mC Γ o ad M av V F d v V' F') (hv : v = w) (e : mFs ad V' = mFs ad V1) (f : ∀ j q, mIs j = true → q < mLen j → F' j q = F1 j q) : mC Γ o ad M av V F d w V1 F1 := by
  intro h hM hok
  subst hv
  have key : ∀ (v' : Option Value) (h' : gHp), (v' = v ∧ MR Γ o ad V' F' h' ∧ gKeep (mS o ad) h h') → (v' = v ∧ MR Γ o ad V1 F1 h' ∧ gKeep (mS o ad) h h') := fun v' h' q => ⟨q.1, q.2.1.eqv e f, q.2.2⟩
  exact gC_post (c h hM) key (fun _ _ q => q) hok
/-- from other numbers that are the same -/
theorem m_eqv {V1 : Nat → Int32} {F1 : Nat → Nat → Int32} (e : mFs ad V = mFs ad V1) (f : ∀ j q, mIs j = true → q < mLen j → F j q = F1 j q) (k : mG Γ o ad M d v V' F' pc L st V1 F1) : mG Γ o ad M d v V' F' pc L st V F := fun h0 h hM hk => k h0 h (hM.eqv e f) hk
theorem m_blk (l9 : List (Instr × Value)) (hn : L.length ≤ M.2.2.1) (hd : gChk M.2.1 pc l9 = true) (k : gEx l9 pc L st (fun pc L st => mG Γ o ad M d v V' F' pc L st V F)) : mG Γ o ad M d v V' F' pc L st V F := by
  intro h0 h hM hk
  refine g_blk l9 hn hd ?_
  induction l9 generalizing pc L st with
  | nil => exact k h0 h hM hk
  | cons a t ih =>
    obtain ⟨i, w⟩ := a
    unfold gEx at k ⊢
    unfold gChk at hd
    rw [Bool.and_eq_true, Bool.and_eq_true] at hd
    split at k
    · next L1 st1 hp =>
      exact ih (by rw [g_len hp]; exact hn) hd.2 k
    · exact k.elim
theorem m_top {x y : Int32} (e : x = y) (k : mG Γ o ad M d v V' F' pc L (.int y :: st) V F) : mG Γ o ad M d v V' F' pc L (.int x :: st) V F := e ▸ k
theorem m_lcl (e : L = L') (k : mG Γ o ad M d v V' F' pc L' st V F) : mG Γ o ad M d v V' F' pc L st V F := e ▸ k
theorem m_weak (hL : gLe L' L) (k : mG Γ o ad M d v V' F' pc L' st V F) : mG Γ o ad M d v V' F' pc L st V F := fun h0 h hM hk => g_weak hL (Nat.le_refl _) (Nat.le_refl _) (k h0 h hM hk)
theorem m_getI {idx k : Nat} {ty : FieldType} {fin : Bool} {x : Int32} (hf : gFld M.1.cls idx 13 k ty fin) (hd : decode M.2.1 pc = .ok (.getfield idx, 3)) (hx : (mFs ad V)[k]? = some (.int x)) (kk : mG Γ o ad M d v V' F' (pc + 3) L (.int x :: st) V F) : mG Γ o ad M d v V' F' pc L (.ref o :: st) V F := fun h0 h hM hk => g_getf hf hd hM.1 hx (kk h0 h hM hk)
theorem m_getR {idx k : Nat} {ty : FieldType} {fin : Bool} {x : Nat} (hf : gFld M.1.cls idx 13 k ty fin) (hd : decode M.2.1 pc = .ok (.getfield idx, 3)) (hx : (mFs ad V)[k]? = some (.ref x)) (kk : mG Γ o ad M d v V' F' (pc + 3) L (.ref x :: st) V F) : mG Γ o ad M d v V' F' pc L (.ref o :: st) V F := fun h0 h hM hk => g_getf hf hd hM.1 hx (kk h0 h hM hk)
theorem m_putI {idx k : Nat} {ty : FieldType} {x : Int32} (hf : gFld M.1.cls idx 13 k ty false) (hd : decode M.2.1 pc = .ok (.putfield idx, 3)) (hs : (mFs ad V).set k (.int x) = mFs ad (vU V k x)) (hlt : k < 20) (hn : narrow ty (.int x) = .int x) (hfit : fits ty (.int x) = true) (kk : mG Γ o ad M d v V' F' (pc + 3) L st (vU V k x) F) : mG Γ o ad M d v V' F' pc L (.int x :: .ref o :: st) V F := by
  intro h0 h hM hk
  refine g_putf hf hd hM.1 hlt hn hfit ?_
  rw [hs]
  exact kk h0 _ (hM.put _) (hk.tr (gKeep.up (Or.inl rfl)))
theorem m_al {j i : Nat} (hj : mIs j = true) (hd : decode M.2.1 pc = .ok (.iaload, 1)) (hi : i < mLen j) (kk : mG Γ o ad M d v V' F' (pc + 1) L (.int (F j i) :: st) V F) : mG Γ o ad M d v V' F' pc L (.int (nI i) :: .ref (ad j) :: st) V F := by
  intro h0 h hM hk
  have hb : mLen j ≤ 1616 := by unfold mLen; split <;> (try split) <;> (try split) <;> omega
  obtain ⟨g, g1, g2⟩ := hM.2.1 j hj
  refine g_iaload hd g1 (vp_in_nI hi (by omega)) ?_
  rw [nI_clamp (by omega), g2 i hi]
  exact kk h0 h hM hk
theorem m_as {j i : Nat} {x : Int32} (hj : mIs j = true) (hd : decode M.2.1 pc = .ok (.iastore, 1)) (hi : i < mLen j) (kk : mG Γ o ad M d v V' F' (pc + 1) L st V (fU F j i x)) : mG Γ o ad M d v V' F' pc L (.int x :: .int (nI i) :: .ref (ad j) :: st) V F := by
  intro h0 h hM hk
  have hb : mLen j ≤ 1616 := by unfold mLen; split <;> (try split) <;> (try split) <;> omega
  obtain ⟨g, g1, g2⟩ := hM.2.1 j hj
  refine g_iastore hd g1 (vp_in_nI hi (by omega)) ?_
  rw [nI_clamp (by omega)]
  rw [fU_row] at kk
  exact kk h0 _ (hM.row hj _ _ (fun q hq => by unfold upd; split <;> first | rfl | exact g2 q hq)) (hk.tr (gKeep.up (Or.inr ⟨j, hj, rfl⟩)))
theorem m_end (w : Option Value) (hv : st = w.toList) (hr : gRet M.2.1 pc M.2.2.2.1 w) (h1 : w = v) (h2 : V = V') (h3 : F = F') : mG Γ o ad M d v V' F' pc L st V F := by
  intro h0 h hM hk
  subst h1 h2 h3
  exact g_end w hv hr ⟨rfl, hM, hk⟩
theorem m_call {idx n d' : Nat} {M' : gM} {av : List Value} {w : Option Value} {V1 : Nat → Int32} {F1 : Nat → Nat → Int32} {st' : List Value} (hlk : gLkV M.1.cls idx 13 M' n) (hC : mC Γ o ad M' av V F d' w V1 F1) (hd : decode M.2.1 pc = .ok (.invokevirtual idx, 3)) (hst : st' = av.reverse ++ .ref o :: st) (hn : av.length = n) (hdd : d' + 1 ≤ d) (hnl : M'.2.2.1 ≤ 80) (hcat : (st.map fun v => v.category).sum ≤ 8) (hh : M.2.2.2.2 = []) (kk : mG Γ o ad M d v V' F' (pc + 3) L (w.toList ++ st) V1 F1) : mG Γ o ad M d v V' F' pc L st' V F := by
  intro h0 h hM hk
  refine g_callV (av := .ref o :: av) (rc' := 0) (rs' := 0) (fs := mFs ad V) hlk (hC h hM) hd (by rw [hst]; simp) rfl hM.1 (by simp [hn]) hdd hnl hcat (Nat.le_refl _) (Nat.le_refl _) hh (fun _ _ z => z.elim) (fun w' h' q => ?_)
  obtain ⟨rfl, hM', hk'⟩ := q
  exact kk h0 h' hM' (hk.tr hk')
theorem m_callR {idx n d' : Nat} {M' : gM} {av : List Value} {w : Option Value} {V1 : Nat → Int32} {F1 : Nat → Nat → Int32} {st' : List Value} (hlk : gLkS M.1.cls idx M' n) (hC : mCS Γ o ad M' av V F d' w V1 F1) (hd : decode M.2.1 pc = .ok (.invokestatic idx, 3)) (hst : st' = av.reverse ++ st) (hn : av.length = n) (hdd : d' + 1 ≤ d) (hnl : M'.2.2.1 ≤ 80) (hcat : (st.map fun v => v.category).sum ≤ 8) (hh : M.2.2.2.2 = []) (kk : mG Γ o ad M d v V' F' (pc + 3) L (w.toList ++ st) V1 F1) : mG Γ o ad M d v V' F' pc L st' V F := by
  intro h0 h hM hk
  refine g_callS (av := av) (rc' := 0) (rs' := 0) hlk (hC h hM) hd hst hn hdd hnl hcat (Nat.le_refl _) (Nat.le_refl _) hh (fun _ _ z => z.elim) (fun w' h' q => ?_)
  obtain ⟨rfl, hM', hk'⟩ := q
  exact kk h0 h' hM' (hk.tr hk')
theorem m_callS {idx n d' : Nat} {M' : gM} {av : List Value} {w : Option Value} {st' : List Value} (hlk : gLkS M.1.cls idx M' n) (hC : sC Γ M' av d' w) (hd : decode M.2.1 pc = .ok (.invokestatic idx, 3)) (hst : st' = av.reverse ++ st) (hn : av.length = n) (hdd : d' + 1 ≤ d) (hnl : M'.2.2.1 ≤ 80) (hcat : (st.map fun v => v.category).sum ≤ 8) (hh : M.2.2.2.2 = []) (kk : mG Γ o ad M d v V' F' (pc + 3) L (w.toList ++ st) V F) : mG Γ o ad M d v V' F' pc L st' V F := by
  intro h0 h hM hk
  refine g_callS (av := av) (rc' := 0) (rs' := 0) hlk (hC h) hd hst hn hdd hnl hcat (Nat.le_refl _) (Nat.le_refl _) hh (fun _ _ z => z.elim) (fun w' h' q => ?_)
  obtain ⟨rfl, rfl⟩ := q
  exact kk h0 h' hM hk

theorem m_icmp_eq {x y : Int32} {off : Int} {tgt : Nat} (hd : decode M.2.1 pc = .ok (.if_icmp .eq off, 3)) (ht : (pc : Int) + off = (tgt : Int)) (kt : x = y → mG Γ o ad M d v V' F' tgt L st V F) (kf : ¬ x = y → mG Γ o ad M d v V' F' (pc + 3) L st V F) : mG Γ o ad M d v V' F' pc L (.int y :: .int x :: st) V F := fun h0 h hM hk => g_icmp_eq hd ht (fun q => kt q h0 h hM hk) (fun q => kf q h0 h hM hk)
theorem m_if_eq {x : Int32} {off : Int} {tgt : Nat} (hd : decode M.2.1 pc = .ok (.ifCond .eq off, 3)) (ht : (pc : Int) + off = (tgt : Int)) (kt : x = 0 → mG Γ o ad M d v V' F' tgt L st V F) (kf : ¬ x = 0 → mG Γ o ad M d v V' F' (pc + 3) L st V F) : mG Γ o ad M d v V' F' pc L (.int x :: st) V F := fun h0 h hM hk => g_if_eq hd ht (fun q => kt q h0 h hM hk) (fun q => kf q h0 h hM hk)
theorem m_icmp_ne {x y : Int32} {off : Int} {tgt : Nat} (hd : decode M.2.1 pc = .ok (.if_icmp .ne off, 3)) (ht : (pc : Int) + off = (tgt : Int)) (kt : ¬ x = y → mG Γ o ad M d v V' F' tgt L st V F) (kf : x = y → mG Γ o ad M d v V' F' (pc + 3) L st V F) : mG Γ o ad M d v V' F' pc L (.int y :: .int x :: st) V F := fun h0 h hM hk => g_icmp_ne hd ht (fun q => kt q h0 h hM hk) (fun q => kf q h0 h hM hk)
theorem m_if_ne {x : Int32} {off : Int} {tgt : Nat} (hd : decode M.2.1 pc = .ok (.ifCond .ne off, 3)) (ht : (pc : Int) + off = (tgt : Int)) (kt : ¬ x = 0 → mG Γ o ad M d v V' F' tgt L st V F) (kf : x = 0 → mG Γ o ad M d v V' F' (pc + 3) L st V F) : mG Γ o ad M d v V' F' pc L (.int x :: st) V F := fun h0 h hM hk => g_if_ne hd ht (fun q => kt q h0 h hM hk) (fun q => kf q h0 h hM hk)
theorem m_icmp_lt {x y : Int32} {off : Int} {tgt : Nat} (hd : decode M.2.1 pc = .ok (.if_icmp .lt off, 3)) (ht : (pc : Int) + off = (tgt : Int)) (kt : x < y → mG Γ o ad M d v V' F' tgt L st V F) (kf : ¬ x < y → mG Γ o ad M d v V' F' (pc + 3) L st V F) : mG Γ o ad M d v V' F' pc L (.int y :: .int x :: st) V F := fun h0 h hM hk => g_icmp_lt hd ht (fun q => kt q h0 h hM hk) (fun q => kf q h0 h hM hk)
theorem m_if_lt {x : Int32} {off : Int} {tgt : Nat} (hd : decode M.2.1 pc = .ok (.ifCond .lt off, 3)) (ht : (pc : Int) + off = (tgt : Int)) (kt : x < 0 → mG Γ o ad M d v V' F' tgt L st V F) (kf : ¬ x < 0 → mG Γ o ad M d v V' F' (pc + 3) L st V F) : mG Γ o ad M d v V' F' pc L (.int x :: st) V F := fun h0 h hM hk => g_if_lt hd ht (fun q => kt q h0 h hM hk) (fun q => kf q h0 h hM hk)
theorem m_icmp_ge {x y : Int32} {off : Int} {tgt : Nat} (hd : decode M.2.1 pc = .ok (.if_icmp .ge off, 3)) (ht : (pc : Int) + off = (tgt : Int)) (kt : y ≤ x → mG Γ o ad M d v V' F' tgt L st V F) (kf : ¬ y ≤ x → mG Γ o ad M d v V' F' (pc + 3) L st V F) : mG Γ o ad M d v V' F' pc L (.int y :: .int x :: st) V F := fun h0 h hM hk => g_icmp_ge hd ht (fun q => kt q h0 h hM hk) (fun q => kf q h0 h hM hk)
theorem m_if_ge {x : Int32} {off : Int} {tgt : Nat} (hd : decode M.2.1 pc = .ok (.ifCond .ge off, 3)) (ht : (pc : Int) + off = (tgt : Int)) (kt : 0 ≤ x → mG Γ o ad M d v V' F' tgt L st V F) (kf : ¬ 0 ≤ x → mG Γ o ad M d v V' F' (pc + 3) L st V F) : mG Γ o ad M d v V' F' pc L (.int x :: st) V F := fun h0 h hM hk => g_if_ge hd ht (fun q => kt q h0 h hM hk) (fun q => kf q h0 h hM hk)
theorem m_icmp_gt {x y : Int32} {off : Int} {tgt : Nat} (hd : decode M.2.1 pc = .ok (.if_icmp .gt off, 3)) (ht : (pc : Int) + off = (tgt : Int)) (kt : y < x → mG Γ o ad M d v V' F' tgt L st V F) (kf : ¬ y < x → mG Γ o ad M d v V' F' (pc + 3) L st V F) : mG Γ o ad M d v V' F' pc L (.int y :: .int x :: st) V F := fun h0 h hM hk => g_icmp_gt hd ht (fun q => kt q h0 h hM hk) (fun q => kf q h0 h hM hk)
theorem m_if_gt {x : Int32} {off : Int} {tgt : Nat} (hd : decode M.2.1 pc = .ok (.ifCond .gt off, 3)) (ht : (pc : Int) + off = (tgt : Int)) (kt : 0 < x → mG Γ o ad M d v V' F' tgt L st V F) (kf : ¬ 0 < x → mG Γ o ad M d v V' F' (pc + 3) L st V F) : mG Γ o ad M d v V' F' pc L (.int x :: st) V F := fun h0 h hM hk => g_if_gt hd ht (fun q => kt q h0 h hM hk) (fun q => kf q h0 h hM hk)
theorem m_icmp_le {x y : Int32} {off : Int} {tgt : Nat} (hd : decode M.2.1 pc = .ok (.if_icmp .le off, 3)) (ht : (pc : Int) + off = (tgt : Int)) (kt : x ≤ y → mG Γ o ad M d v V' F' tgt L st V F) (kf : ¬ x ≤ y → mG Γ o ad M d v V' F' (pc + 3) L st V F) : mG Γ o ad M d v V' F' pc L (.int y :: .int x :: st) V F := fun h0 h hM hk => g_icmp_le hd ht (fun q => kt q h0 h hM hk) (fun q => kf q h0 h hM hk)
theorem m_if_le {x : Int32} {off : Int} {tgt : Nat} (hd : decode M.2.1 pc = .ok (.ifCond .le off, 3)) (ht : (pc : Int) + off = (tgt : Int)) (kt : x ≤ 0 → mG Γ o ad M d v V' F' tgt L st V F) (kf : ¬ x ≤ 0 → mG Γ o ad M d v V' F' (pc + 3) L st V F) : mG Γ o ad M d v V' F' pc L (.int x :: st) V F := fun h0 h hM hk => g_if_le hd ht (fun q => kt q h0 h hM hk) (fun q => kf q h0 h hM hk)
theorem m_idiv {x y : Int32} (hne : ¬ y = 0) (hd : decode M.2.1 pc = .ok (.idiv, 1)) (kk : mG Γ o ad M d v V' F' (pc + 1) L (.int (x / y) :: st) V F) : mG Γ o ad M d v V' F' pc L (.int y :: .int x :: st) V F := fun h0 h hM hk => g_idiv hne hd (kk h0 h hM hk)
theorem m_irem {x y : Int32} (hne : ¬ y = 0) (hd : decode M.2.1 pc = .ok (.irem, 1)) (kk : mG Γ o ad M d v V' F' (pc + 1) L (.int (x - x / y * y) :: st) V F) : mG Γ o ad M d v V' F' pc L (.int y :: .int x :: st) V F := fun h0 h hM hk => g_irem hne hd (kk h0 h hM hk)
theorem m_ddiv {x y : UInt64} (hne : vf_n64 (FP.ddiv x y)) (hd : decode M.2.1 pc = .ok (.ddiv, 1)) (kk : mG Γ o ad M d v V' F' (pc + 1) L (.double (FP.ddiv x y) :: st) V F) : mG Γ o ad M d v V' F' pc L (.double y :: .double x :: st) V F := fun h0 h hM hk => g_ddiv hne hd (kk h0 h hM hk)
theorem m_fdiv {x y : UInt32} (hne : vf_n32 (FP.fdiv x y)) (hd : decode M.2.1 pc = .ok (.fdiv, 1)) (kk : mG Γ o ad M d v V' F' (pc + 1) L (.float (FP.fdiv x y) :: st) V F) : mG Γ o ad M d v V' F' pc L (.float y :: .float x :: st) V F := fun h0 h hM hk => g_fdiv hne hd (kk h0 h hM hk)
theorem m_dconst0 (hd : decode M.2.1 pc = .ok (.dconst 0, 1)) (kk : mG Γ o ad M d v V' F' (pc + 1) L (.double FP.dconst0 :: st) V F) : mG Γ o ad M d v V' F' pc L st V F := fun h0 h hM hk => g_dconst0 hd (kk h0 h hM hk)
theorem m_fconst0 (hd : decode M.2.1 pc = .ok (.fconst 0, 1)) (kk : mG Γ o ad M d v V' F' (pc + 1) L (.float FP.fconst0 :: st) V F) : mG Γ o ad M d v V' F' pc L st V F := fun h0 h hM hk => g_fconst0 hd (kk h0 h hM hk)
theorem m_tableIn {dflt lo hi : Int} {offs : Array Int} {len : Nat} {x : Int32} {off : Int} {tgt : Nat} (hd : decode M.2.1 pc = .ok (.tableswitch dflt lo hi offs, len)) (h1 : ¬ x.toInt < lo) (h2 : ¬ hi < x.toInt) (ho : offs[(x.toInt - lo).toNat]? = some off) (ht : (pc : Int) + off = (tgt : Int)) (kk : mG Γ o ad M d v V' F' tgt L st V F) : mG Γ o ad M d v V' F' pc L (.int x :: st) V F := fun h0 h hM hk => g_tableIn hd h1 h2 ho ht (kk h0 h hM hk)
theorem m_tableOut {dflt lo hi : Int} {offs : Array Int} {len : Nat} {x : Int32} {tgt : Nat} (hd : decode M.2.1 pc = .ok (.tableswitch dflt lo hi offs, len)) (h1 : x.toInt < lo ∨ hi < x.toInt) (ht : (pc : Int) + dflt = (tgt : Int)) (kk : mG Γ o ad M d v V' F' tgt L st V F) : mG Γ o ad M d v V' F' pc L (.int x :: st) V F := fun h0 h hM hk => g_tableOut hd h1 ht (kk h0 h hM hk)
end MLayer
