section S13ref4leantxt
variable {Γ : gE} {o : Nat} {ad : Nat → Nat} {V : Nat → Int32} {F : Nat → Nat → Int32}
theorem fR_s {F : Nat → Nat → Int32} {j : Nat} {g : Nat → Int32} : fR F j g j = g := if_pos rfl
theorem fR_n {F : Nat → Nat → Int32} {j i : Nat} {g : Nat → Int32} (h : i ≠ j) : fR F j g i = F i := if_neg h
theorem fR_fR {F : Nat → Nat → Int32} {j : Nat} {g g' : Nat → Int32} : fR (fR F j g) j g' = fR F j g' := by
  funext i
  unfold fR
  split <;> rfl
theorem fR_self {F : Nat → Nat → Int32} {j : Nat} : fR F j (F j) = F := by
  funext i
  unfold fR
  split
  · next h => rw [h]
  · rfl
def rRoute (N : Nat → Int32) (code : Int32) (t : Nat) : Int32 := if rMatch N code (nI 4) (nI 4) t = -1 then -1 else N (26 + 3 * (rMatch N code (nI 4) (nI 4) t).toNatClampNeg + 2)
def rIdx (N : Nat → Int32) (id : Int32) (c : Nat) : Nat := (rPlace N id c).toNatClampNeg
theorem rIdx_le {N : Nat → Int32} {id : Int32} {c : Nat} (hc : c ≤ 20) : rIdx N id c < 20 := by
  unfold rIdx
  rcases rPlace_in (N := N) (id := id) (c := c) with h | ⟨k, h1, h2⟩
  · rw [h]; decide
  · rw [h2, nI_clamp (by omega)]; omega
theorem rMax_place {N : Nat → Int32} {id : Int32} {c : Nat} (hc : c ≤ 20) : rMax (nI 0) (rPlace N id c) = nI (rIdx N id c) := by
  unfold rIdx rMax
  rcases rPlace_in (N := N) (id := id) (c := c) with h | ⟨k, h1, h2⟩
  · rw [h]; decide
  · rw [h2, nI_clamp (by omega)]
    split
    · rfl
    · next h =>
      have : ¬ 0 < k := fun z => h (nI_lt z (by omega))
      have : k = 0 := by omega
      rw [this]
def rFst (p : Nat → Bool) : Nat → Option Nat
  | 0 => none
  | i + 1 => match rFst p i with
    | some k => some k
    | none => if p i = true then some i else none
theorem rFst_mono {p : Nat → Bool} {i k : Nat} (h : rFst p i = some k) : ∀ j, i ≤ j → rFst p j = some k := by
  intro j hj
  induction j with
  | zero =>
    have : i = 0 := by omega
    subst this
    exact h
  | succ j ih =>
    rcases Nat.lt_or_ge i (j + 1) with q | q
    · unfold rFst
      rw [ih (by omega)]
    · have : i = j + 1 := by omega
      subst this
      exact h
theorem rFst_t {p : Nat → Bool} {i b : Nat} (h : rFst p i = none) (hp : p i = true) (hb : i < b) : rFst p b = some i := by
  refine rFst_mono (i := i + 1) ?_ b hb
  unfold rFst
  rw [h]
  exact if_pos hp
theorem rFst_f {p : Nat → Bool} {i : Nat} (h : rFst p i = none) (hp : ¬ p i = true) : rFst p (i + 1) = none := by
  unfold rFst
  rw [h]
  exact if_neg hp
def rWt (N : Nat → Int32) (rt bg : Int32) : Nat → Int32
  | 0 => nI 0
  | i + 1 => rWt N rt bg i + (if N (62 + 7 * i + 5) = rt ∧ (bg = -1 ∨ N (62 + 7 * i + 6) = bg) then N (62 + 7 * i + 2) else nI 0)
def rLn (N : Nat → Int32) (rt bg : Int32) : Nat → Int32
  | 0 => nI 0
  | i + 1 => rLn N rt bg i + (if N (62 + 7 * i + 5) = rt ∧ (rt = -1 ∨ N (62 + 7 * i + 6) = bg) then nI 1 else nI 0)
def rFits (N : Nat → Int32) (rt w : Int32) (c : Nat) (i : Nat) : Bool := decide (rWt N rt (nI i) c + w ≤ nI 150)
def rBag (N : Nat → Int32) (rt w : Int32) (c b : Nat) : Int32 := match rFst (rFits N rt w c) b with
  | some i => nI i
  | none => if b < 3 then nI b else -1
def rGo (N : Nat → Int32) (k : Nat) (rt : Int32) (c b : Nat) : Bool := decide (N (62 + 7 * k + 5) = -1 ∧ (nI 0 ≤ rt ∧ rt ≤ nI 5) ∧ (N (62 + 7 * k + 3) = nI 1 ∨ N 0 < N (8 + 3 * rIx rt)) ∧ ¬ rBag N rt (N (62 + 7 * k + 2)) c b = -1)
def rInto (N : Nat → Int32) (k : Nat) (rt : Int32) (c b : Nat) : Nat → Int32 := upd (upd (upd N (62 + 7 * k + 5) rt) (62 + 7 * k + 6) (rBag N rt (N (62 + 7 * k + 2)) c b)) (8 + 3 * rIx rt + 2) (rMax (N (8 + 3 * rIx rt + 2)) (rBag N rt (N (62 + 7 * k + 2)) c b + nI 1))
end S13ref4leantxt
