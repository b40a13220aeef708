/-! A QUOTIENT OF WHOLE NUMBERS IS A NUMBER -/
section GFl
theorem fe64 {s : Bool} {c : Nat} {q : Int} (hc : c < 9007199254740992) (hq : q ≤ 971) : ∃ m, (FP.Core.encode FP.Core.b64 (.fin s c q) = m ∨ FP.Core.encode FP.Core.b64 (.fin s c q) = 9223372036854775808 + m) ∧ m ≤ 9218868437227405312 := by
  have e1 : FP.Core.b64.tails = 4503599627370496 := by decide +kernel
  have e2 : FP.Core.b64.exps = 2048 := by decide +kernel
  have e3 : FP.Core.b64.qmin = -1074 := by decide +kernel
  have eE : FP.Core.encode FP.Core.b64 (.fin s c q) = if c < FP.Core.b64.tails then FP.Core.assemble FP.Core.b64 s 0 c else FP.Core.assemble FP.Core.b64 s ((q - FP.Core.b64.qmin).toNat + 1) (c - FP.Core.b64.tails) := rfl
  rw [eE]
  unfold FP.Core.assemble
  rw [e1, e2, e3]
  have hs : s.toNat = 0 ∨ s.toNat = 1 := by cases s <;> simp
  split
  · refine ⟨c, ?_, by omega⟩
    rcases hs with z | z <;> rw [z] <;> omega
  · refine ⟨((q - -1074).toNat + 1) * 4503599627370496 + (c - 4503599627370496), ?_, by omega⟩
    rcases hs with z | z <;> rw [z] <;> omega
theorem fi64 {s : Bool} : ∃ m, (FP.Core.encode FP.Core.b64 (.inf s) = m ∨ FP.Core.encode FP.Core.b64 (.inf s) = 9223372036854775808 + m) ∧ m ≤ 9218868437227405312 := by
  cases s
  · exact ⟨9218868437227405312, Or.inl (by decide +kernel), Nat.le_refl _⟩
  · exact ⟨9218868437227405312, Or.inr (by decide +kernel), Nat.le_refl _⟩
theorem fb64 {s : Bool} {c : Nat} {q : Int} (hc : c < 9007199254740992) : ∃ m, (FP.Core.encode FP.Core.b64 (FP.Core.bound FP.Core.b64 s c q) = m ∨ FP.Core.encode FP.Core.b64 (FP.Core.bound FP.Core.b64 s c q) = 9223372036854775808 + m) ∧ m ≤ 9218868437227405312 := by
  have e3 : FP.Core.b64.qmax = 971 := by decide +kernel
  unfold FP.Core.bound
  rw [e3]
  split
  · next h => exact fe64 hc h
  · exact fi64
theorem fr64 {s : Bool} {a b : Nat} {e : Int} : ∃ m, (FP.Core.encode FP.Core.b64 (FP.Core.roundRatio FP.Core.b64 s a b e) = m ∨ FP.Core.encode FP.Core.b64 (FP.Core.roundRatio FP.Core.b64 s a b e) = 9223372036854775808 + m) ∧ m ≤ 9218868437227405312 := by
  have e1 : FP.Core.b64.tails = 4503599627370496 := by decide +kernel
  have e3 : FP.Core.b64.qmin = -1074 := by decide +kernel
  have e4 : 2 ^ FP.Core.b64.p = 9007199254740992 := by decide +kernel
  unfold FP.Core.roundRatio FP.Core.roundAt FP.Core.settle
  rw [e4, e1, e3]
  split
  · exact fe64 (by omega) (by omega)
  · split
    · next h => exact fb64 h
    · exact fb64 (by omega)
theorem fv64 {x y : UInt64} {s t : Bool} {c d : Nat} {q r : Int} (hx : FP.Core.decode FP.Core.b64 x.toNat = .fin s c q) (hy : FP.Core.decode FP.Core.b64 y.toNat = .fin t d r) (hd : ¬ d = 0) : vf_n64 (FP.ddiv x y) := by
  have e : FP.ddiv x y = UInt64.ofNat (FP.Core.encode FP.Core.b64 (FP.Core.roundRatio FP.Core.b64 (s != t) c d (q - r))) := by
    show UInt64.ofNat (FP.Core.encode FP.Core.b64 (FP.Core.quotient FP.Core.b64 (FP.Core.decode FP.Core.b64 x.toNat) (FP.Core.decode FP.Core.b64 y.toNat))) = _
    rw [hx, hy]
    rw [show FP.Core.quotient FP.Core.b64 (.fin s c q) (.fin t d r) = if d = 0 then (if c = 0 then .nan else .inf (s != t)) else FP.Core.roundRatio FP.Core.b64 (s != t) c d (q - r) from rfl, if_neg hd]
  obtain ⟨m, h1, h2⟩ := fr64 (s := s != t) (a := c) (b := d) (e := q - r)
  unfold vf_n64
  rw [e, UInt64.le_iff_toNat_le, UInt64.toNat_and, UInt64.toNat_ofNat', show (0x7fffffffffffffff : UInt64).toNat = 2 ^ 63 - 1 by decide, Nat.and_two_pow_sub_one_eq_mod, show (0x7ff0000000000000 : UInt64).toNat = 9218868437227405312 by decide]
  rcases h1 with z | z <;> rw [z] <;> omega
theorem fe32 {s : Bool} {c : Nat} {q : Int} (hc : c < 16777216) (hq : q ≤ 104) : ∃ m, (FP.Core.encode FP.Core.b32 (.fin s c q) = m ∨ FP.Core.encode FP.Core.b32 (.fin s c q) = 2147483648 + m) ∧ m ≤ 2139095040 := by
  have e1 : FP.Core.b32.tails = 8388608 := by decide +kernel
  have e2 : FP.Core.b32.exps = 256 := by decide +kernel
  have e3 : FP.Core.b32.qmin = -149 := by decide +kernel
  have eE : FP.Core.encode FP.Core.b32 (.fin s c q) = if c < FP.Core.b32.tails then FP.Core.assemble FP.Core.b32 s 0 c else FP.Core.assemble FP.Core.b32 s ((q - FP.Core.b32.qmin).toNat + 1) (c - FP.Core.b32.tails) := rfl
  rw [eE]
  unfold FP.Core.assemble
  rw [e1, e2, e3]
  have hs : s.toNat = 0 ∨ s.toNat = 1 := by cases s <;> simp
  split
  · refine ⟨c, ?_, by omega⟩
    rcases hs with z | z <;> rw [z] <;> omega
  · refine ⟨((q - -149).toNat + 1) * 8388608 + (c - 8388608), ?_, by omega⟩
    rcases hs with z | z <;> rw [z] <;> omega
theorem fi32 {s : Bool} : ∃ m, (FP.Core.encode FP.Core.b32 (.inf s) = m ∨ FP.Core.encode FP.Core.b32 (.inf s) = 2147483648 + m) ∧ m ≤ 2139095040 := by
  cases s
  · exact ⟨2139095040, Or.inl (by decide +kernel), Nat.le_refl _⟩
  · exact ⟨2139095040, Or.inr (by decide +kernel), Nat.le_refl _⟩
theorem fb32 {s : Bool} {c : Nat} {q : Int} (hc : c < 16777216) : ∃ m, (FP.Core.encode FP.Core.b32 (FP.Core.bound FP.Core.b32 s c q) = m ∨ FP.Core.encode FP.Core.b32 (FP.Core.bound FP.Core.b32 s c q) = 2147483648 + m) ∧ m ≤ 2139095040 := by
  have e3 : FP.Core.b32.qmax = 104 := by decide +kernel
  unfold FP.Core.bound
  rw [e3]
  split
  · next h => exact fe32 hc h
  · exact fi32
theorem fr32 {s : Bool} {a b : Nat} {e : Int} : ∃ m, (FP.Core.encode FP.Core.b32 (FP.Core.roundRatio FP.Core.b32 s a b e) = m ∨ FP.Core.encode FP.Core.b32 (FP.Core.roundRatio FP.Core.b32 s a b e) = 2147483648 + m) ∧ m ≤ 2139095040 := by
  have e1 : FP.Core.b32.tails = 8388608 := by decide +kernel
  have e3 : FP.Core.b32.qmin = -149 := by decide +kernel
  have e4 : 2 ^ FP.Core.b32.p = 16777216 := by decide +kernel
  unfold FP.Core.roundRatio FP.Core.roundAt FP.Core.settle
  rw [e4, e1, e3]
  split
  · exact fe32 (by omega) (by omega)
  · split
    · next h => exact fb32 h
    · exact fb32 (by omega)
theorem fv32 {x y : UInt32} {s t : Bool} {c d : Nat} {q r : Int} (hx : FP.Core.decode FP.Core.b32 x.toNat = .fin s c q) (hy : FP.Core.decode FP.Core.b32 y.toNat = .fin t d r) (hd : ¬ d = 0) : vf_n32 (FP.fdiv x y) := by
  have e : FP.fdiv x y = UInt32.ofNat (FP.Core.encode FP.Core.b32 (FP.Core.roundRatio FP.Core.b32 (s != t) c d (q - r))) := by
    show UInt32.ofNat (FP.Core.encode FP.Core.b32 (FP.Core.quotient FP.Core.b32 (FP.Core.decode FP.Core.b32 x.toNat) (FP.Core.decode FP.Core.b32 y.toNat))) = _
    rw [hx, hy]
    rw [show FP.Core.quotient FP.Core.b32 (.fin s c q) (.fin t d r) = if d = 0 then (if c = 0 then .nan else .inf (s != t)) else FP.Core.roundRatio FP.Core.b32 (s != t) c d (q - r) from rfl, if_neg hd]
  obtain ⟨m, h1, h2⟩ := fr32 (s := s != t) (a := c) (b := d) (e := q - r)
  unfold vf_n32
  rw [e, UInt32.le_iff_toNat_le, UInt32.toNat_and, UInt32.toNat_ofNat', show (0x7fffffff : UInt32).toNat = 2 ^ 31 - 1 by decide, Nat.and_two_pow_sub_one_eq_mod, show (0x7f800000 : UInt32).toNat = 2139095040 by decide]
  rcases h1 with z | z <;> rw [z] <;> omega
def fz (d : FP.Core.Datum) : Nat := match d with
  | .fin _ c _ => if c = 0 then 1 else 2
  | _ => 0
theorem fz_1 {d : FP.Core.Datum} (h : ¬ fz d = 0) : ∃ s c q, d = .fin s c q ∧ (fz d = 2 → ¬ c = 0) := by
  cases d with
  | nan => exact absurd rfl h
  | inf s => exact absurd rfl h
  | fin s c q =>
    refine ⟨s, c, q, rfl, fun z y => ?_⟩
    have : fz (FP.Core.Datum.fin s c q) = 1 := if_pos y
    rw [this] at z
    omega
theorem f64_at : ∀ i, i < 32 → ∀ j, j < 32 → fz (FP.Core.decode FP.Core.b64 (FP.i2d (nI (32 * i + j))).toNat) = if 32 * i + j = 0 then 1 else 2 := by decide +kernel
theorem f32_at : ∀ i, i < 100 → ∀ j, j < 100 → fz (FP.Core.decode FP.Core.b32 (FP.i2f (nI (100 * i + j))).toNat) = if 100 * i + j = 0 then 1 else 2 := by decide +kernel
theorem f64_ok {a b : Nat} (ha : a < 1024) (hb : b < 1024) (h0 : ¬ b = 0) : vf_n64 (FP.ddiv (FP.i2d (nI a)) (FP.i2d (nI b))) := by
  have h1 := f64_at (a / 32) (by omega) (a % 32) (by omega)
  have h2 := f64_at (b / 32) (by omega) (b % 32) (by omega)
  rw [show 32 * (a / 32) + a % 32 = a by omega] at h1
  rw [show 32 * (b / 32) + b % 32 = b by omega, if_neg h0] at h2
  obtain ⟨s, c, q, e, -⟩ := fz_1 (by rw [h1]; split <;> omega)
  obtain ⟨s2, c2, q2, e2, e3⟩ := fz_1 (by rw [h2]; omega)
  exact fv64 e e2 (e3 h2)
theorem f32_ok {a b : Nat} (ha : a < 10000) (hb : b < 10000) (h0 : ¬ b = 0) : vf_n32 (FP.fdiv (FP.i2f (nI a)) (FP.i2f (nI b))) := by
  have h1 := f32_at (a / 100) (by omega) (a % 100) (by omega)
  have h2 := f32_at (b / 100) (by omega) (b % 100) (by omega)
  rw [show 100 * (a / 100) + a % 100 = a by omega] at h1
  rw [show 100 * (b / 100) + b % 100 = b by omega, if_neg h0] at h2
  obtain ⟨s, c, q, e, -⟩ := fz_1 (by rw [h1]; split <;> omega)
  obtain ⟨s2, c2, q2, e2, e3⟩ := fz_1 (by rw [h2]; omega)
  exact fv32 e e2 (e3 h2)
end GFl
