section S26ref17leantxt
variable {Γ : gE} {o : Nat} {ad : Nat → Nat} {V : Nat → Int32} {F : Nat → Nat → Int32}
def wr (L : Nat → Int32) : Nat → List Nat → (Nat → Int32)
  | _, [] => L
  | k, x :: xs => wr (upd L k (nI x)) (k + 1) xs
theorem wr_app {L : Nat → Int32} {k : Nat} {xs ys : List Nat} : wr L k (xs ++ ys) = wr (wr L k xs) (k + xs.length) ys := by
  induction xs generalizing L k with
  | nil => rfl
  | cons x xs ih =>
    show wr (upd L k (nI x)) (k + 1) (xs ++ ys) = _
    rw [ih]
    show _ = wr (wr (upd L k (nI x)) (k + 1) xs) (k + (xs.length + 1)) ys
    rw [show k + 1 + xs.length = k + (xs.length + 1) by omega]
def dgu (n : Nat) : Nat → List Nat
  | 0 => [48 + n / 10 ^ 0 % 10]
  | j + 1 => (48 + n / 10 ^ (j + 1) % 10) :: dgu n j
def tpd (n : Nat) : Nat := if n < 10 then 0 else if n < 100 then 1 else if n < 1000 then 2 else if n < 10000 then 3 else 4
def dgt (n : Nat) : List Nat := dgu n (tpd n)
theorem dgu_len (n j : Nat) : (dgu n j).length = j + 1 := by
  induction j with
  | zero => rfl
  | succ j ih => show (dgu n j).length + 1 = _; rw [ih]
theorem tpd_le (n : Nat) : tpd n ≤ 4 := by
  unfold tpd
  split <;> (try split) <;> (try split) <;> (try split) <;> omega
theorem tpd_9 {n : Nat} (h : n < 10) : tpd n = 0 := if_pos h
theorem tpd_99 {n : Nat} (h : n < 100) : tpd n ≤ 1 := by
  unfold tpd
  split <;> (try split) <;> omega
theorem tpd_c (n : Nat) : (n < 10 ∧ tpd n = 0) ∨ (10 ≤ n ∧ n < 100 ∧ tpd n = 1) ∨ (100 ≤ n ∧ n < 1000 ∧ tpd n = 2) ∨ (1000 ≤ n ∧ n < 10000 ∧ tpd n = 3) ∨ (10000 ≤ n ∧ tpd n = 4) := by
  unfold tpd
  split <;> (try split) <;> (try split) <;> (try split) <;> omega
theorem tpd_iff {n j : Nat} (hn : n < 100000) (hj : j ≤ tpd n) : n / 10 ^ j ≤ 9 ↔ j = tpd n := by
  have h4 := tpd_le n
  have e : j = 0 ∨ j = 1 ∨ j = 2 ∨ j = 3 ∨ j = 4 := by omega
  have z := tpd_c n
  rcases e with rfl | rfl | rfl | rfl | rfl <;> simp only [Nat.pow_zero, Nat.reducePow] <;> omega
theorem r_put (k : Nat) (hk : k < 60) (x : Nat) : mC Γ o ad M_X10_put [.int (nI k), .int (nI x)] V F 0 (some (.int (nI (k + 1)))) V (fR F 11 (wr (F 11) k [x])) := by
  refine mC_of (by decide) rfl (Nat.le_of_ble_eq_true rfl) [some (.ref o), some (.int (nI k)), some (.int (nI x))] rfl ?_
  refine m_blk [(.aload_n 0, .null)] (Nat.le_of_ble_eq_true rfl) (by decide +kernel) ?_
  refine gx_aload_n_0 ((gx_nil ?_))
  refine m_getR fX10_35 (by decide +kernel) rfl ?_
  refine m_blk [(.iload_n 1, .null), (.iload_n 2, .null)] (Nat.le_of_ble_eq_true rfl) (by decide +kernel) ?_
  refine gx_iload_n_1 (gx_iload_n_2 ((gx_nil ?_)))
  refine m_as (j := 11) rfl (by decide +kernel) (show _ < 60 from by omega) ?_
  refine m_blk [(.iload_n 1, .null), (.iconst 1, .int (nI 1)), (.iadd, .null)] (Nat.le_of_ble_eq_true rfl) (by decide +kernel) ?_
  refine gx_iload_n_1 (gx_iconst (gx_iadd ((gx_nil ?_))))
  try simp only [nI_add, pk_mul, Nat.add_zero, Nat.zero_add, Nat.reduceAdd, Nat.reduceMul]
  refine m_end (some (.int _)) rfl ⟨by decide +kernel, _, rfl, rfl⟩ ?_ ?_ ?_
  · rfl
  · rfl
  · rw [fU_row]; rfl
theorem pow_lt4 {j : Nat} (h : j ≤ 4) : 0 < 10 ^ j ∧ 10 ^ j < 100000 := by
  have : j = 0 ∨ j = 1 ∨ j = 2 ∨ j = 3 ∨ j = 4 := by omega
  rcases this with rfl | rfl | rfl | rfl | rfl <;> decide
theorem pow_d10 {j : Nat} (h : j ≤ 3) : nI (10 ^ (j + 1)) / nI 10 = nI (10 ^ j) := by
  have := pow_lt4 (j := j + 1) (by omega)
  rw [pk_div (by omega) (by omega) (by omega), Nat.pow_succ, Nat.mul_div_cancel _ (by decide)]
theorem one_d10 : nI (10 ^ 0) / nI 10 = nI 0 := by decide
theorem r_wn1 {n : Nat} (hn : n < 100000) {to x3 : Int32} {v : Option Value} {V' : Nat → Int32} {F' : Nat → Nat → Int32} (cont : mG Γ o ad M_X10_writesNumber 1 v V' F' 24 [some (.ref o), some (.int to), some (.int (nI n)), some (.int x3), some (.int (nI (10 ^ tpd n))), none] [] V F) : ∀ i j, j + i = tpd n → mG Γ o ad M_X10_writesNumber 1 v V' F' 5 [some (.ref o), some (.int to), some (.int (nI n)), some (.int x3), some (.int (nI (10 ^ j))), none] [] V F := by
  intro i
  induction i with
  | zero =>
    intro j hj
    have h4 := tpd_le n
    have hp := pow_lt4 (j := j) (by omega)
    have hd : n / 10 ^ j < 100000 := Nat.lt_of_le_of_lt (Nat.div_le_self _ _) hn
    refine m_blk [(.iload_n 2, .null), (.iload 4, .null)] (Nat.le_of_ble_eq_true rfl) (by decide +kernel) ?_
    refine gx_iload_n_2 (gx_iload_4 ((gx_nil ?_)))
    refine m_idiv (nI_ne0 hp.1 (by omega)) (by decide +kernel) ?_
    refine m_top (pk_div (by omega) hp.1 (by omega)) ?_
    refine m_blk [(.bipush 9, .int (nI 9))] (Nat.le_of_ble_eq_true rfl) (by decide +kernel) ?_
    refine gx_bipush ((gx_nil ?_))
    refine m_icmp_le (off := 13) (tgt := 24) (by decide +kernel) (by decide) (fun c11 => ?_) (fun c11 => ?_)
    · try simp only [bI_0, Decidable.not_not] at c11
      obtain rfl : j = tpd n := by omega
      exact cont
    · try simp only [bI_0, Decidable.not_not] at c11
      exact absurd (nI_le ((tpd_iff hn (by omega)).mpr (by omega)) (by omega)) c11
  | succ i ih =>
    intro j hj
    have h4 := tpd_le n
    have hp := pow_lt4 (j := j) (by omega)
    have hd : n / 10 ^ j < 100000 := Nat.lt_of_le_of_lt (Nat.div_le_self _ _) hn
    refine m_blk [(.iload_n 2, .null), (.iload 4, .null)] (Nat.le_of_ble_eq_true rfl) (by decide +kernel) ?_
    refine gx_iload_n_2 (gx_iload_4 ((gx_nil ?_)))
    refine m_idiv (nI_ne0 hp.1 (by omega)) (by decide +kernel) ?_
    refine m_top (pk_div (by omega) hp.1 (by omega)) ?_
    refine m_blk [(.bipush 9, .int (nI 9))] (Nat.le_of_ble_eq_true rfl) (by decide +kernel) ?_
    refine gx_bipush ((gx_nil ?_))
    refine m_icmp_le (off := 13) (tgt := 24) (by decide +kernel) (by decide) (fun c11 => ?_) (fun c11 => ?_)
    · try simp only [bI_0, Decidable.not_not] at c11
      have z := (tpd_iff hn (by omega)).mp ((nI_leI (by omega) (by omega)).mp c11)
      omega
    · try simp only [bI_0, Decidable.not_not] at c11
      refine m_blk [(.iload 4, .null), (.bipush 10, .int (nI 10)), (.imul, .null), (.istore 4, .null), (.goto (-16), .retAddr 5)] (Nat.le_of_ble_eq_true rfl) (by decide +kernel) ?_
      refine gx_iload_4 (gx_bipush (gx_imul (gx_istore_4 rfl (gx_goto ((gx_nil ?_))))))
      try simp only [nI_add, pk_mul, Nat.add_zero, Nat.zero_add, Nat.reduceAdd, Nat.reduceMul]
      exact ih (j + 1) (by omega)
theorem r_writesNumber2 {n : Nat} (hn : n < 100000) {to x4 : Int32} : ∀ j, j ≤ 4 → ∀ (k : Nat) (F : Nat → Nat → Int32), k + j < 60 → mG Γ o ad M_X10_writesNumber 1 (some (.int (nI (k + (j + 1))))) V (fR F 11 (wr (F 11) k (dgu n j))) 28 [some (.ref o), some (.int to), some (.int (nI n)), some (.int (nI k)), some (.int x4), some (.int (nI (10 ^ j)))] [] V F := by
  have b0 : ∀ (k : Nat) (F : Nat → Nat → Int32), mG Γ o ad M_X10_writesNumber 1 (some (.int (nI k))) V F 28 [some (.ref o), some (.int to), some (.int (nI n)), some (.int (nI k)), some (.int x4), some (.int (nI 0))] [] V F := by
    intro k F
    refine m_blk [(.iload 5, .null)] (Nat.le_of_ble_eq_true rfl) (by decide +kernel) ?_
    refine gx_iload_5 ((gx_nil ?_))
    refine m_if_le (off := 29) (tgt := 59) (by decide +kernel) (by decide) (fun c30 => ?_) (fun c30 => ?_)
    · try simp only [bI_0, Decidable.not_not] at c30
      refine m_blk [(.iload_n 3, .null)] (Nat.le_of_ble_eq_true rfl) (by decide +kernel) ?_
      refine gx_iload_n_3 ((gx_nil ?_))
      refine m_end (some (.int _)) rfl ⟨by decide +kernel, _, rfl, rfl⟩ ?_ ?_ ?_
      · rfl
      · rfl
      · rfl
    · try simp only [bI_0, Decidable.not_not] at c30
      exact absurd (by decide) c30
  intro j
  induction j with
  | zero =>
    intro h4 k F hk
    have hp := pow_lt4 (j := 0) (by omega)
    have hd : n / 10 ^ 0 < 100000 := Nat.lt_of_le_of_lt (Nat.div_le_self _ _) hn
    refine m_blk [(.iload 5, .null)] (Nat.le_of_ble_eq_true rfl) (by decide +kernel) ?_
    refine gx_iload_5 ((gx_nil ?_))
    refine m_if_le (off := 29) (tgt := 59) (by decide +kernel) (by decide) (fun c30 => ?_) (fun c30 => ?_)
    · try simp only [bI_0, Decidable.not_not] at c30
      exact absurd c30 (nI_nle hp.1 (by omega))
    · try simp only [bI_0, Decidable.not_not] at c30
      refine m_blk [(.aload_n 0, .null), (.iload_n 3, .null), (.bipush 48, .int (nI 48)), (.iload_n 2, .null), (.iload 5, .null)] (Nat.le_of_ble_eq_true rfl) (by decide +kernel) ?_
      refine gx_aload_n_0 (gx_iload_n_3 (gx_bipush (gx_iload_n_2 (gx_iload_5 ((gx_nil ?_))))))
      refine m_idiv (nI_ne0 hp.1 (by omega)) (by decide +kernel) ?_
      refine m_top (pk_div (by omega) hp.1 (by omega)) ?_
      refine m_blk [(.bipush 10, .int (nI 10))] (Nat.le_of_ble_eq_true rfl) (by decide +kernel) ?_
      refine gx_bipush ((gx_nil ?_))
      refine m_irem (by decide) (by decide +kernel) ?_
      refine m_top (pk_rem (by omega) (by decide) (by decide)) ?_
      refine m_blk [(.iadd, .null)] (Nat.le_of_ble_eq_true rfl) (by decide +kernel) ?_
      refine gx_iadd ((gx_nil ?_))
      try simp only [nI_add, pk_mul, Nat.add_zero, Nat.zero_add, Nat.reduceAdd, Nat.reduceMul]
      refine m_call kX10_200 (r_put k (by omega) (48 + n / 10 ^ 0 % 10)) (by decide +kernel) rfl rfl (Nat.le_of_ble_eq_true rfl) (Nat.le_of_ble_eq_true rfl) (Nat.le_of_ble_eq_true rfl) rfl ?_
      try simp only [Option.toList_some, Option.toList_none, List.cons_append, List.nil_append, bI_0, n1_0, n0_0, Decidable.not_not, not_true_eq_false, not_false_eq_true, nI_add, pk_mul, Nat.add_zero, Nat.zero_add, Nat.reduceAdd, Nat.reduceMul]
      refine m_blk [(.istore_n 3, .null), (.iload 5, .null), (.bipush 10, .int (nI 10))] (Nat.le_of_ble_eq_true rfl) (by decide +kernel) ?_
      refine gx_istore_n_3 rfl (gx_iload_5 (gx_bipush ((gx_nil ?_))))
      refine m_idiv (by decide) (by decide +kernel) ?_
      refine m_top one_d10 ?_
      refine m_blk [(.istore 5, .null), (.goto (-28), .retAddr 28)] (Nat.le_of_ble_eq_true rfl) (by decide +kernel) ?_
      refine gx_istore_5 rfl (gx_goto ((gx_nil ?_)))
      exact b0 (k + 1) _
  | succ j ih =>
    intro h4 k F hk
    have hp := pow_lt4 (j := j + 1) (by omega)
    have hd : n / 10 ^ (j + 1) < 100000 := Nat.lt_of_le_of_lt (Nat.div_le_self _ _) hn
    refine m_blk [(.iload 5, .null)] (Nat.le_of_ble_eq_true rfl) (by decide +kernel) ?_
    refine gx_iload_5 ((gx_nil ?_))
    refine m_if_le (off := 29) (tgt := 59) (by decide +kernel) (by decide) (fun c30 => ?_) (fun c30 => ?_)
    · try simp only [bI_0, Decidable.not_not] at c30
      exact absurd c30 (nI_nle hp.1 (by omega))
    · try simp only [bI_0, Decidable.not_not] at c30
      refine m_blk [(.aload_n 0, .null), (.iload_n 3, .null), (.bipush 48, .int (nI 48)), (.iload_n 2, .null), (.iload 5, .null)] (Nat.le_of_ble_eq_true rfl) (by decide +kernel) ?_
      refine gx_aload_n_0 (gx_iload_n_3 (gx_bipush (gx_iload_n_2 (gx_iload_5 ((gx_nil ?_))))))
      refine m_idiv (nI_ne0 hp.1 (by omega)) (by decide +kernel) ?_
      refine m_top (pk_div (by omega) hp.1 (by omega)) ?_
      refine m_blk [(.bipush 10, .int (nI 10))] (Nat.le_of_ble_eq_true rfl) (by decide +kernel) ?_
      refine gx_bipush ((gx_nil ?_))
      refine m_irem (by decide) (by decide +kernel) ?_
      refine m_top (pk_rem (by omega) (by decide) (by decide)) ?_
      refine m_blk [(.iadd, .null)] (Nat.le_of_ble_eq_true rfl) (by decide +kernel) ?_
      refine gx_iadd ((gx_nil ?_))
      try simp only [nI_add, pk_mul, Nat.add_zero, Nat.zero_add, Nat.reduceAdd, Nat.reduceMul]
      refine m_call kX10_200 (r_put k (by omega) (48 + n / 10 ^ (j + 1) % 10)) (by decide +kernel) rfl rfl (Nat.le_of_ble_eq_true rfl) (Nat.le_of_ble_eq_true rfl) (Nat.le_of_ble_eq_true rfl) rfl ?_
      try simp only [Option.toList_some, Option.toList_none, List.cons_append, List.nil_append, bI_0, n1_0, n0_0, Decidable.not_not, not_true_eq_false, not_false_eq_true, nI_add, pk_mul, Nat.add_zero, Nat.zero_add, Nat.reduceAdd, Nat.reduceMul]
      refine m_blk [(.istore_n 3, .null), (.iload 5, .null), (.bipush 10, .int (nI 10))] (Nat.le_of_ble_eq_true rfl) (by decide +kernel) ?_
      refine gx_istore_n_3 rfl (gx_iload_5 (gx_bipush ((gx_nil ?_))))
      refine m_idiv (by decide) (by decide +kernel) ?_
      refine m_top (pow_d10 (by omega)) ?_
      refine m_blk [(.istore 5, .null), (.goto (-28), .retAddr 28)] (Nat.le_of_ble_eq_true rfl) (by decide +kernel) ?_
      refine gx_istore_5 rfl (gx_goto ((gx_nil ?_)))
      have e9 := ih (by omega) (k + 1) (fR F 11 (wr (F 11) k [48 + n / 10 ^ (j + 1) % 10])) (by omega)
      simp only [fR_fR, fR_s] at e9
      rw [show k + 1 + (j + 1) = k + (j + 1 + 1) by omega] at e9
      exact e9
theorem r_writesNumber (k n : Nat) (hn : n < 100000) (hk : k + tpd n < 60) : mC Γ o ad M_X10_writesNumber [.int (nI k), .int (nI n)] V F 1 (some (.int (nI (k + (tpd n + 1))))) V (fR F 11 (wr (F 11) k (dgt n))) := by
  refine mC_of (by decide) rfl (Nat.le_of_ble_eq_true rfl) [some (.ref o), some (.int (nI k)), some (.int (nI n)), none, none, none] rfl ?_
  refine m_blk [(.iload_n 1, .null), (.istore_n 3, .null), (.iconst 1, .int (nI 1)), (.istore 4, .null)] (Nat.le_of_ble_eq_true rfl) (by decide +kernel) ?_
  refine gx_iload_n_1 (gx_istore_n_3 rfl (gx_iconst (gx_istore_4 rfl ((gx_nil ?_)))))
  refine r_wn1 hn ?_ (tpd n) 0 (by omega)
  refine m_blk [(.iload 4, .null), (.istore 5, .null)] (Nat.le_of_ble_eq_true rfl) (by decide +kernel) ?_
  refine gx_iload_4 (gx_istore_5 rfl ((gx_nil ?_)))
  exact r_writesNumber2 hn (tpd n) (tpd_le n) k F hk
theorem r_writesCode2 {n : Nat} (hn : n < 100000) {to x4 : Int32} : ∀ j, j ≤ 4 → ∀ (k : Nat) (F : Nat → Nat → Int32), k + j < 60 → mG Γ o ad M_X10_writesCode 1 (some (.int (nI (k + (j + 1))))) V (fR F 11 (wr (F 11) k (dgu n j))) 7 [some (.ref o), some (.int to), some (.int (nI n)), some (.int (nI k)), some (.int (nI (10 ^ j)))] [] V F := by
  have b0 : ∀ (k : Nat) (F : Nat → Nat → Int32), mG Γ o ad M_X10_writesCode 1 (some (.int (nI k))) V F 7 [some (.ref o), some (.int to), some (.int (nI n)), some (.int (nI k)), some (.int (nI 0))] [] V F := by
    intro k F
    refine m_blk [(.iload 4, .null)] (Nat.le_of_ble_eq_true rfl) (by decide +kernel) ?_
    refine gx_iload_4 ((gx_nil ?_))
    refine m_if_le (off := 29) (tgt := 38) (by decide +kernel) (by decide) (fun c9 => ?_) (fun c9 => ?_)
    · try simp only [bI_0, Decidable.not_not] at c9
      refine m_blk [(.iload_n 3, .null)] (Nat.le_of_ble_eq_true rfl) (by decide +kernel) ?_
      refine gx_iload_n_3 ((gx_nil ?_))
      refine m_end (some (.int _)) rfl ⟨by decide +kernel, _, rfl, rfl⟩ ?_ ?_ ?_
      · rfl
      · rfl
      · rfl
    · try simp only [bI_0, Decidable.not_not] at c9
      exact absurd (by decide) c9
  intro j
  induction j with
  | zero =>
    intro h4 k F hk
    have hp := pow_lt4 (j := 0) (by omega)
    have hd : n / 10 ^ 0 < 100000 := Nat.lt_of_le_of_lt (Nat.div_le_self _ _) hn
    refine m_blk [(.iload 4, .null)] (Nat.le_of_ble_eq_true rfl) (by decide +kernel) ?_
    refine gx_iload_4 ((gx_nil ?_))
    refine m_if_le (off := 29) (tgt := 38) (by decide +kernel) (by decide) (fun c9 => ?_) (fun c9 => ?_)
    · try simp only [bI_0, Decidable.not_not] at c9
      exact absurd c9 (nI_nle hp.1 (by omega))
    · try simp only [bI_0, Decidable.not_not] at c9
      refine m_blk [(.aload_n 0, .null), (.iload_n 3, .null), (.bipush 48, .int (nI 48)), (.iload_n 2, .null), (.iload 4, .null)] (Nat.le_of_ble_eq_true rfl) (by decide +kernel) ?_
      refine gx_aload_n_0 (gx_iload_n_3 (gx_bipush (gx_iload_n_2 (gx_iload_4 ((gx_nil ?_))))))
      refine m_idiv (nI_ne0 hp.1 (by omega)) (by decide +kernel) ?_
      refine m_top (pk_div (by omega) hp.1 (by omega)) ?_
      refine m_blk [(.bipush 10, .int (nI 10))] (Nat.le_of_ble_eq_true rfl) (by decide +kernel) ?_
      refine gx_bipush ((gx_nil ?_))
      refine m_irem (by decide) (by decide +kernel) ?_
      refine m_top (pk_rem (by omega) (by decide) (by decide)) ?_
      refine m_blk [(.iadd, .null)] (Nat.le_of_ble_eq_true rfl) (by decide +kernel) ?_
      refine gx_iadd ((gx_nil ?_))
      try simp only [nI_add, pk_mul, Nat.add_zero, Nat.zero_add, Nat.reduceAdd, Nat.reduceMul]
      refine m_call kX10_200 (r_put k (by omega) (48 + n / 10 ^ 0 % 10)) (by decide +kernel) rfl rfl (Nat.le_of_ble_eq_true rfl) (Nat.le_of_ble_eq_true rfl) (Nat.le_of_ble_eq_true rfl) rfl ?_
      try simp only [Option.toList_some, Option.toList_none, List.cons_append, List.nil_append, bI_0, n1_0, n0_0, Decidable.not_not, not_true_eq_false, not_false_eq_true, nI_add, pk_mul, Nat.add_zero, Nat.zero_add, Nat.reduceAdd, Nat.reduceMul]
      refine m_blk [(.istore_n 3, .null), (.iload 4, .null), (.bipush 10, .int (nI 10))] (Nat.le_of_ble_eq_true rfl) (by decide +kernel) ?_
      refine gx_istore_n_3 rfl (gx_iload_4 (gx_bipush ((gx_nil ?_))))
      refine m_idiv (by decide) (by decide +kernel) ?_
      refine m_top one_d10 ?_
      refine m_blk [(.istore 4, .null), (.goto (-28), .retAddr 7)] (Nat.le_of_ble_eq_true rfl) (by decide +kernel) ?_
      refine gx_istore_4 rfl (gx_goto ((gx_nil ?_)))
      exact b0 (k + 1) _
  | succ j ih =>
    intro h4 k F hk
    have hp := pow_lt4 (j := j + 1) (by omega)
    have hd : n / 10 ^ (j + 1) < 100000 := Nat.lt_of_le_of_lt (Nat.div_le_self _ _) hn
    refine m_blk [(.iload 4, .null)] (Nat.le_of_ble_eq_true rfl) (by decide +kernel) ?_
    refine gx_iload_4 ((gx_nil ?_))
    refine m_if_le (off := 29) (tgt := 38) (by decide +kernel) (by decide) (fun c9 => ?_) (fun c9 => ?_)
    · try simp only [bI_0, Decidable.not_not] at c9
      exact absurd c9 (nI_nle hp.1 (by omega))
    · try simp only [bI_0, Decidable.not_not] at c9
      refine m_blk [(.aload_n 0, .null), (.iload_n 3, .null), (.bipush 48, .int (nI 48)), (.iload_n 2, .null), (.iload 4, .null)] (Nat.le_of_ble_eq_true rfl) (by decide +kernel) ?_
      refine gx_aload_n_0 (gx_iload_n_3 (gx_bipush (gx_iload_n_2 (gx_iload_4 ((gx_nil ?_))))))
      refine m_idiv (nI_ne0 hp.1 (by omega)) (by decide +kernel) ?_
      refine m_top (pk_div (by omega) hp.1 (by omega)) ?_
      refine m_blk [(.bipush 10, .int (nI 10))] (Nat.le_of_ble_eq_true rfl) (by decide +kernel) ?_
      refine gx_bipush ((gx_nil ?_))
      refine m_irem (by decide) (by decide +kernel) ?_
      refine m_top (pk_rem (by omega) (by decide) (by decide)) ?_
      refine m_blk [(.iadd, .null)] (Nat.le_of_ble_eq_true rfl) (by decide +kernel) ?_
      refine gx_iadd ((gx_nil ?_))
      try simp only [nI_add, pk_mul, Nat.add_zero, Nat.zero_add, Nat.reduceAdd, Nat.reduceMul]
      refine m_call kX10_200 (r_put k (by omega) (48 + n / 10 ^ (j + 1) % 10)) (by decide +kernel) rfl rfl (Nat.le_of_ble_eq_true rfl) (Nat.le_of_ble_eq_true rfl) (Nat.le_of_ble_eq_true rfl) rfl ?_
      try simp only [Option.toList_some, Option.toList_none, List.cons_append, List.nil_append, bI_0, n1_0, n0_0, Decidable.not_not, not_true_eq_false, not_false_eq_true, nI_add, pk_mul, Nat.add_zero, Nat.zero_add, Nat.reduceAdd, Nat.reduceMul]
      refine m_blk [(.istore_n 3, .null), (.iload 4, .null), (.bipush 10, .int (nI 10))] (Nat.le_of_ble_eq_true rfl) (by decide +kernel) ?_
      refine gx_istore_n_3 rfl (gx_iload_4 (gx_bipush ((gx_nil ?_))))
      refine m_idiv (by decide) (by decide +kernel) ?_
      refine m_top (pow_d10 (by omega)) ?_
      refine m_blk [(.istore 4, .null), (.goto (-28), .retAddr 7)] (Nat.le_of_ble_eq_true rfl) (by decide +kernel) ?_
      refine gx_istore_4 rfl (gx_goto ((gx_nil ?_)))
      have e9 := ih (by omega) (k + 1) (fR F 11 (wr (F 11) k [48 + n / 10 ^ (j + 1) % 10])) (by omega)
      simp only [fR_fR, fR_s] at e9
      rw [show k + 1 + (j + 1) = k + (j + 1 + 1) by omega] at e9
      exact e9
theorem r_writesCode (k n : Nat) (hn : n < 100000) (hk : k + 3 < 60) : mC Γ o ad M_X10_writesCode [.int (nI k), .int (nI n)] V F 1 (some (.int (nI (k + (3 + 1))))) V (fR F 11 (wr (F 11) k (dgu n 3))) := by
  refine mC_of (by decide) rfl (Nat.le_of_ble_eq_true rfl) [some (.ref o), some (.int (nI k)), some (.int (nI n)), none, none] rfl ?_
  refine m_blk [(.iload_n 1, .null), (.istore_n 3, .null), (.sipush 1000, .int (nI 1000)), (.istore 4, .null)] (Nat.le_of_ble_eq_true rfl) (by decide +kernel) ?_
  refine gx_iload_n_1 (gx_istore_n_3 rfl (gx_sipush (gx_istore_4 rfl ((gx_nil ?_)))))
  exact r_writesCode2 (x4 := 0) hn 3 (by decide) k F hk
end S26ref17leantxt
