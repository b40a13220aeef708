/-! THE REFERENCE: its cells as numbers (V: its whole numbers by field; F: its rows by field), its judgement mG -/
section MLayer
def gKeep (S : Nat → Prop) (h h' : gHp) : Prop := ∀ a e, ¬ S a → h a = some e → h' a = some e
theorem gKeep.rf {S : Nat → Prop} {h : gHp} : gKeep S h h := fun _ _ _ q => q
theorem gKeep.tr {S : Nat → Prop} {h h1 h2 : gHp} (a : gKeep S h h1) (b : gKeep S h1 h2) : gKeep S h h2 := fun x e n q => b x e n (a x e n q)
theorem gKeep.up {S : Nat → Prop} {h : gHp} {a : Nat} {e : va_E} (n : S a) : gKeep S h (gUp h a e) := fun x f hn q => by
  rw [gUp_n h e (fun (z : x = a) => hn (by rw [z]; exact n))]
  exact q
def mIs (j : Nat) : Bool := j == 0 || j == 1 || j == 2 || j == 3 || j == 4 || j == 9 || j == 11 || j == 19
def mLen (j : Nat) : Nat := if j ≤ 3 then 202 else if j = 4 then 1616 else if j = 19 then 120 else 60
def mFs (ad : Nat → Nat) (V : Nat → Int32) : List Value := [.ref (ad 0), .ref (ad 1), .ref (ad 2), .ref (ad 3), .ref (ad 4), .int (V 5), .int (V 6), .int (V 7), .int (V 8), .ref (ad 9), .int (V 10), .ref (ad 11), .int (V 12), .int (V 13), .int (V 14), .int (V 15), .int (V 16), .int (V 17), .int (V 18), .ref (ad 19)]
def MR (Γ : gE) (o : Nat) (ad : Nat → Nat) (V : Nat → Int32) (F : Nat → Nat → Int32) (h : gHp) : Prop :=
  h o = some (gJ 13 (mFs ad V)) ∧ (∀ j, mIs j = true → ∃ g, h (ad j) = some (gI Γ (mLen j) g) ∧ ∀ q, q < mLen j → g q = F j q) ∧ (∀ j, mIs j = true → ad j ≠ o) ∧ ∀ i j, mIs i = true → mIs j = true → ad i = ad j → i = j
/-- a number changed -/
def vU (V : Nat → Int32) (k : Nat) (x : Int32) : Nat → Int32 := fun j => if j = k then x else V j
/-- a row changed at a place; a whole row changed -/
def fU (F : Nat → Nat → Int32) (j k : Nat) (x : Int32) : Nat → Nat → Int32 := fun i => if i = j then (fun q => if q = k then x else F j q) else F i
def fR (F : Nat → Nat → Int32) (j : Nat) (g : Nat → Int32) : Nat → Nat → Int32 := fun i => if i = j then g else F i
theorem MR.put {Γ : gE} {o : Nat} {ad : Nat → Nat} {V : Nat → Int32} {F : Nat → Nat → Int32} {h : gHp} (H : MR Γ o ad V F h) (V' : Nat → Int32) : MR Γ o ad V' F (gUp h o (gJ 13 (mFs ad V'))) := by
  obtain ⟨h1, h2, h3, h4⟩ := H
  exact ⟨gUp_s _ _ _, fun j hj => by rw [gUp_n h _ (h3 j hj)]; exact h2 j hj, h3, h4⟩
theorem MR.eqv {Γ : gE} {o : Nat} {ad : Nat → Nat} {V V' : Nat → Int32} {F F' : Nat → Nat → Int32} {h : gHp} (H : MR Γ o ad V F h) (e : mFs ad V = mFs ad V') (f : ∀ j q, mIs j = true → q < mLen j → F j q = F' j q) : MR Γ o ad V' F' h := by
  obtain ⟨h1, h2, h3, h4⟩ := H
  refine ⟨by rw [← e]; exact h1, fun j hj => ?_, h3, h4⟩
  obtain ⟨g, g1, g2⟩ := h2 j hj
  exact ⟨g, g1, fun q hq => (g2 q hq).trans (f j q hj hq)⟩
theorem MR.row {Γ : gE} {o : Nat} {ad : Nat → Nat} {V : Nat → Int32} {F : Nat → Nat → Int32} {h : gHp} (H : MR Γ o ad V F h) {j : Nat} (hj : mIs j = true) (g0 g : Nat → Int32) (hg : ∀ q, q < mLen j → g0 q = g q) : MR Γ o ad V (fR F j g) (gUp h (ad j) (gI Γ (mLen j) g0)) := by
  obtain ⟨h1, h2, h3, h4⟩ := H
  refine ⟨by rw [gUp_n h _ (fun z => h3 j hj z.symm)]; exact h1, fun i hi => ?_, h3, h4⟩
  unfold fR
  by_cases e : i = j
  · subst e
    rw [gUp_s]
    exact ⟨g0, rfl, fun q hq => by rw [if_pos rfl]; exact hg q hq⟩
  · rw [gUp_n h _ (fun z => e (h4 i j hi hj z)), if_neg e]
    exact h2 i hi
theorem fU_row (F : Nat → Nat → Int32) (j k : Nat) (x : Int32) : fU F j k x = fR F j (upd (F j) k x) := by
  funext i
  unfold fU fR
  by_cases e : i = j
  · rw [if_pos e, if_pos e]
    funext q
    unfold upd
    rfl
  · rw [if_neg e, if_neg e]
/-- a static method of plain numbers -/
def sC (Γ : gE) (M : gM) (av : List Value) (d : Nat) (v : Option Value) : Prop := ∀ h, gC Γ M av h d 0 0 (fun v' h' => v' = v ∧ h' = h) (fun _ _ => False)
theorem gC_post {Γ : gE} {M : gM} {av : List Value} {h : gHp} {d mc ms : Nat} {Z Z' : Option Value → gHp → Prop} {ZX ZX' : String → gHp → Prop} (c : gC Γ M av h d mc ms Z ZX) (f : ∀ v h', Z v h' → Z' v h') (g : ∀ E h', ZX E h' → ZX' E h') : gC Γ M av h d mc ms Z' ZX' := by
  intro hok p e ha hc hk s m args below hf happ hP hT
  obtain ⟨k, o, h1, h2, h3, h4⟩ := c hok p e ha hc hk s m args below hf happ hP hT
  refine ⟨k, o, h1, h2, h3, ?_⟩
  rcases h4 with ⟨⟨⟨v, h', a1, a2, a3⟩, a4⟩, a5⟩ | ⟨q, b1, E, ce, L, ⟨⟨h', b2, b3⟩, b4⟩, b5⟩
  · exact Or.inl ⟨⟨⟨v, h', a1, f v h' a2, a3⟩, a4⟩, a5⟩
  · exact Or.inr ⟨q, b1, E, ce, L, ⟨⟨h', g E h' b2, b3⟩, b4⟩, b5⟩
variable {Γ : gE} {o : Nat} {ad : Nat → Nat} {M : gM} {d : Nat} {v : Option Value} {V' : Nat → Int32} {F' : Nat → Nat → Int32} {pc : Nat} {L L' : List (Option Value)} {st : List Value} {V : Nat → Int32} {F : Nat → Nat → Int32}
end MLayer
