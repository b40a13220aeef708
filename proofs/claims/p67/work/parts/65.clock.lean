/-! A ROUTE DEPARTS, HOURS PASS -/
section GSl
variable {Γ : gE} {de : Nat} {h : gHp}
theorem gOx_rmL {o c t la ta ca da ba pa ep i a : Nat} {fl fq ls ps : List Nat} {N : Nat → Int32} (H : gOx Γ de h o N c t la ta ca da ba pa ep fl fq ls ps) (g : gNd ca da ba fl fq ls) (hc : c ≤ 20) (ht : t ≤ 12) (hi : ls[i]? = some a) {h1 : gHp} (hk : gKeep (fun q => q ∈ fl) h h1) (HL' : gAL Γ de h1 la fl (ls.eraseIdx i)) : gOx Γ de h1 o (rLv N i) (c - 1) t la ta ca da ba pa ep fl fq (ls.eraseIdx i) ps ∧ gNd ca da ba fl fq (ls.eraseIdx i) := by
  obtain ⟨ho, HL, hlc, hls, hta, HP, hpc, hps, hep, ⟨fc, hca, hfc⟩, ⟨fd, hda, hfd⟩, ⟨fb, hba, hfb⟩⟩ := H
  obtain ⟨g1, g2, g3, g4, g5⟩ := g
  have hic : i < c := by rw [← hlc]; exact (List.getElem?_eq_some_iff.mp hi).1
  have kP := gAL_nk HL
  have nf : ∀ {q : Nat} {e : va_E}, h q = some e → (∀ fs, e ≠ gJ 4 fs) → (∀ n f, e ≠ gO Γ n f) → h1 q = some e := fun {q e} hq e4 eO => hk q e (fun z => by
    rcases kP q z with ⟨fs, y⟩ | ⟨n, f, y⟩
    · rw [hq] at y; exact e4 _ (Option.some.inj y)
    · rw [hq] at y; exact eO _ _ (Option.some.inj y)) hq
  have iO : ∀ {n n' : Nat} {f : Nat → Int32} {f' : Nat → Option Nat}, gI Γ n f ≠ gO Γ n' f' := fun z => by
    have z2 := congrArg (fun x : va_E => match x with | .inl (_, _, .inl _) => true | _ => false) z
    cases z2
  have k : ∀ q, q < 62 → q ≠ 3 → rLv N i q = N q := fun q q1 q2 => rLv_k (by omega) q2
  refine ⟨⟨?_, HL', by rw [List.length_eraseIdx, if_pos (by omega), hlc], fun j b hb => ?_, nf hta (fun fs z => by cases z) (fun n f z => by cases z), gAL_kp HP hk (fun q hq z => g5 q z hq), hpc, fun j p hj => gPre_cong (N := N) (nf (hps j p hj) (fun fs z => by cases z) (fun n f z => by cases z)) (fun q q1 q2 => (k q (by have := (List.getElem?_eq_some_iff.mp hj).1; omega) (by omega)).symm), nf hep (fun fs z => by cases z) (fun n f z => by cases z), ⟨fc, nf hca (fun fs z => by cases z) (fun n f z => iO z), fun r hr => (hfc r hr).trans (k _ (by omega) (by omega)).symm⟩, ⟨fd, nf hda (fun fs z => by cases z) (fun n f z => iO z), fun r hr => (hfd r hr).trans (k _ (by omega) (by omega)).symm⟩, ⟨fb, nf hba (fun fs z => by cases z) (fun n f z => iO z), fun r hr => (hfb r hr).trans (k _ (by omega) (by omega)).symm⟩⟩, g1.sublist (List.eraseIdx_sublist _ _), g2, g3, g4, g5⟩
  · rw [k 0 (by omega) (by omega), k 1 (by omega) (by omega), k 2 (by omega) (by omega), k 5 (by omega) (by omega), k 6 (by omega) (by omega), k 7 (by omega) (by omega)]
    exact nf ho (fun fs z => by cases z) (fun n f z => by cases z)
  · have hjl := (List.getElem?_eq_some_iff.mp hb).1
    rw [List.length_eraseIdx, if_pos (by omega), hlc] at hjl
    rw [List.getElem?_eraseIdx] at hb
    by_cases z : j < i
    · rw [if_pos z] at hb
      exact gLet_cong (N := N) (nf (hls j b hb) (fun fs z => by cases z) (fun n f z => by cases z)) (fun q q1 q2 => (rLv_k (by omega) (by omega)).symm)
    · rw [if_neg z] at hb
      have y := nf (hls (j + 1) b hb) (fun fs z => by cases z) (fun n f z => by cases z)
      have f : ∀ k9, k9 < 7 → rLv N i (62 + 7 * j + k9) = N (62 + 7 * (j + 1) + k9) := fun k9 hk9 => by
        unfold rLv rShf
        rw [pk_un (by omega), if_pos (by omega)]
        congr 1; omega
      unfold gLet gBg at *
      have f0 := f 0 (by omega)
      rw [Nat.add_zero, Nat.add_zero] at f0
      rw [f0, f 1 (by omega), f 2 (by omega), f 3 (by omega), f 4 (by omega), f 5 (by omega), f 6 (by omega)]
      exact y
/-- what the class holds when a call within an office's method is through: the same frame -/
def gSt (Γ : gE) (de : Nat) (h0 : gHp) (o la ta ca da ba pa ep t : Nat) (fl fq ps : List Nat) (ls0 : List Nat) (X : (Nat → Int32) × Nat) (h : gHp) : Prop := ∃ ls, gOx Γ de h o X.1 X.2 t la ta ca da ba pa ep fl fq ls ps ∧ gNd ca da ba fl fq ls ∧ (∀ q ∈ ls, q ∈ ls0) ∧ gKeep (fun q => q ∈ gFp o ta ca da ba fl fq ls0) h0 h
theorem of_moveClock {o c t la ta ca da ba pa ep : Nat} {fl fq ls ps : List Nat} {N : Nat → Int32} {hh : Nat} (H : gOx Γ de h o N c t la ta ca da ba pa ep fl fq ls ps) (hh24 : hh < 24) (h0 : N 0 = nI hh) : gC Γ M_X4_moveClock [.ref o] h 0 0 0 (fun v h' => v = none ∧ gOx Γ de h' o (rTick N) c t la ta ca da ba pa ep fl fq ls ps ∧ gKeep (fun q => q = o) h h') (fun _ _ => False) := by
  have H0 := H
  obtain ⟨ho, HL, hlc, hls, hta, HP, hpc, hps, hep, ⟨fc, hca, hfc⟩, ⟨fd, hda, hfd⟩, ⟨fb, hba, hfb⟩⟩ := H0
  have e23 : nI hh + nI 1 = nI (hh + 1) := nI_add _ _
  have cl : ∀ x0 x1 : Int32, x0 = rTick N 0 → x1 = rTick N 1 → gOx Γ de (gUp h o (gJ 7 [.ref la, .ref ta, .ref ca, .ref da, .ref ba, .int x0, .int x1, .int (N 2), .int (N 5), .int (N 6), .int (N 7)])) o (rTick N) c t la ta ca da ba pa ep fl fq ls ps := fun x0 x1 y0 y1 => by
    have k : ∀ q, q ≠ 0 → q ≠ 1 → rTick N q = N q := fun q q0 q1 => by unfold rTick; rw [pk_un q0, pk_un q1]
    exact gOx_upO H (fun q q1 q2 => (k q (by omega) (by omega)).symm) (by rw [y0, y1, k 2 (by omega) (by omega), k 5 (by omega) (by omega), k 6 (by omega) (by omega), k 7 (by omega) (by omega)])
  have t1 : rTick N 1 = N 1 + (if N 0 = nI 23 then nI 1 else nI 0) := by unfold rTick; rw [pk_un (by omega), pk_us]
  have t0 : rTick N 0 = nI (hh + 1) - nI (hh + 1) / nI 24 * nI 24 := by unfold rTick; rw [pk_us, h0, e23]
  rw [pk_div (by omega) (by omega) (by omega), pk_mul, pk_sub (by omega)] at t0
  refine gC_of (by decide) rfl (Nat.le_of_ble_eq_true rfl) [some (.ref o)] rfl ?_
  refine g_blk [(.aload_n 0, .null), (.dup, .null)] (Nat.le_of_ble_eq_true rfl) (by decide +kernel) ?_
  refine gx_aload_n_0 (gx_dupr ((gx_nil ?_)))
  refine g_getf fX4_35 (by decide +kernel) ho rfl ?_
  refine g_blk [(.iconst 1, .int (nI 1)), (.iadd, .null)] (Nat.le_of_ble_eq_true rfl) (by decide +kernel) ?_
  refine gx_iconst (gx_iadd ((gx_nil ?_)))
  refine g_putf fX4_35 (by decide +kernel) ho (by simp) rfl rfl ?_
  rw [h0, e23]
  refine g_hp (h1 := gUp h o (gJ 7 [.ref la, .ref ta, .ref ca, .ref da, .ref ba, .int (nI (hh + 1)), .int (N 1), .int (N 2), .int (N 5), .int (N 6), .int (N 7)])) rfl ?_
  have k1 : gUp h o (gJ 7 [.ref la, .ref ta, .ref ca, .ref da, .ref ba, .int (nI (hh + 1)), .int (N 1), .int (N 2), .int (N 5), .int (N 6), .int (N 7)]) o = some (gJ 7 [.ref la, .ref ta, .ref ca, .ref da, .ref ba, .int (nI (hh + 1)), .int (N 1), .int (N 2), .int (N 5), .int (N 6), .int (N 7)]) := gUp_s _ _ _
  refine g_blk [(.aload_n 0, .null)] (Nat.le_of_ble_eq_true rfl) (by decide +kernel) ?_
  refine gx_aload_n_0 ((gx_nil ?_))
  refine g_getf fX4_35 (by decide +kernel) k1 rfl ?_
  refine g_blk [(.bipush 24, .int (nI 24))] (Nat.le_of_ble_eq_true rfl) (by decide +kernel) ?_
  refine gx_bipush ((gx_nil ?_))
  refine g_icmp_lt (off := 18) (tgt := 34) (by decide +kernel) (by decide) (fun c16 => ?_) (fun c16 => ?_)
  · try simp only [bI_0, Decidable.not_not] at c16
    refine g_end none rfl ⟨by decide +kernel, rfl⟩ ?_
    have hx : hh + 1 < 24 := (nI_ltI (by omega) (by omega)).mp c16
    refine ⟨rfl, cl _ _ (by rw [t0]; congr 1; omega) (by rw [t1, h0, if_neg (fun z => by have := (nI_eq (by omega) (by omega)).mp z; omega), a_n0]), gUp_k⟩
  · try simp only [bI_0, Decidable.not_not] at c16
    refine g_blk [(.aload_n 0, .null), (.iconst 0, .int (nI 0))] (Nat.le_of_ble_eq_true rfl) (by decide +kernel) ?_
    refine gx_aload_n_0 (gx_iconst ((gx_nil ?_)))
    refine g_putf fX4_35 (by decide +kernel) k1 (by simp) rfl rfl ?_
    rw [gUp_gUp]
    have k2 : gUp h o (gJ 7 [.ref la, .ref ta, .ref ca, .ref da, .ref ba, .int (nI 0), .int (N 1), .int (N 2), .int (N 5), .int (N 6), .int (N 7)]) o = some (gJ 7 [.ref la, .ref ta, .ref ca, .ref da, .ref ba, .int (nI 0), .int (N 1), .int (N 2), .int (N 5), .int (N 6), .int (N 7)]) := gUp_s _ _ _
    refine g_hp (h1 := gUp h o (gJ 7 [.ref la, .ref ta, .ref ca, .ref da, .ref ba, .int (nI 0), .int (N 1), .int (N 2), .int (N 5), .int (N 6), .int (N 7)])) rfl ?_
    refine g_blk [(.aload_n 0, .null), (.dup, .null)] (Nat.le_of_ble_eq_true rfl) (by decide +kernel) ?_
    refine gx_aload_n_0 (gx_dupr ((gx_nil ?_)))
    refine g_getf fX4_39 (by decide +kernel) k2 rfl ?_
    refine g_blk [(.iconst 1, .int (nI 1)), (.iadd, .null)] (Nat.le_of_ble_eq_true rfl) (by decide +kernel) ?_
    refine gx_iconst (gx_iadd ((gx_nil ?_)))
    refine g_putf fX4_39 (by decide +kernel) k2 (by simp) rfl rfl ?_
    rw [gUp_gUp]
    refine g_end none rfl ⟨by decide +kernel, rfl⟩ ?_
    have hx : ¬ hh + 1 < 24 := fun z => c16 (nI_lt z (by omega))
    refine ⟨rfl, cl _ _ (by rw [t0]; congr 1; omega) (by rw [t1, h0, if_pos (congrArg nI (by omega))]), gUp_k⟩
end GSl
