/-! THE REFERENCE, ANY END: mH, mE -/
section NLayer
def mH (Γ : gE) (o : Nat) (ad : Nat → Nat) (M : gM) (d : Nat) (Ph : Option Value → (Nat → Int32) → (Nat → Nat → Int32) → Prop) (pc : Nat) (L : List (Option Value)) (st : List Value) (V : Nat → Int32) (F : Nat → Nat → Int32) : Prop :=
  ∀ h0 h, MR Γ o ad V F h → gKeep (mS o ad) h0 h → G Γ M d 0 0 (fun v' h' => ∃ V' F', Ph v' V' F' ∧ MR Γ o ad V' F' h' ∧ gKeep (mS o ad) h0 h') (fun _ _ => False) 0 0 pc L st h
def mE (Γ : gE) (o : Nat) (ad : Nat → Nat) (M : gM) (av : List Value) (V : Nat → Int32) (F : Nat → Nat → Int32) (d : Nat) (Ph : Option Value → (Nat → Int32) → (Nat → Nat → Int32) → Prop) : Prop :=
  ∀ h, MR Γ o ad V F h → gC Γ M (.ref o :: av) h d 0 0 (fun v' h' => ∃ V' F', Ph v' V' F' ∧ MR Γ o ad V' F' h' ∧ gKeep (mS o ad) h h') (fun _ _ => False)
variable {Γ : gE} {o : Nat} {ad : Nat → Nat} {M : gM} {d : Nat} {Ph : Option Value → (Nat → Int32) → (Nat → Nat → Int32) → Prop} {pc : Nat} {L L' : List (Option Value)} {st : List Value} {V : Nat → Int32} {F : Nat → Nat → Int32}
theorem mE_of {av : List Value} (hy : plainName M.1.cls = true) (hh : M.2.2.2.2 = []) (hlen : (lg_sl (.ref o :: av)).length ≤ M.2.2.1) (L : List (Option Value)) (hL : gAs 0 L = lv_args 0 (.ref o :: av)) (k : mH Γ o ad M d Ph 0 L [] V F) : mE Γ o ad M av V F d Ph :=
  fun h hM => gC_of hy hh hlen L hL (k h h hM gKeep.rf)
theorem mE_ofC {av : List Value} {v : Option Value} {V1 : Nat → Int32} {F1 : Nat → Nat → Int32} (c : mC Γ o ad M av V F d v V1 F1) (hz : Ph v V1 F1) : mE Γ o ad M av V F d Ph :=
  fun h hM => gC_post (c h hM) (fun v' h' z => ⟨V1, F1, by rw [z.1]; exact hz, z.2⟩) (fun _ _ z => z)
theorem mE_to {av : List Value} {Ph' : Option Value → (Nat → Int32) → (Nat → Nat → Int32) → Prop} (c : mE Γ o ad M av V F d Ph) (f : ∀ v V1 F1, Ph v V1 F1 → Ph' v V1 F1) : mE Γ o ad M av V F d Ph' :=
  fun h hM => gC_post (c h hM) (fun v' h' z => by
    obtain ⟨V1, F1, z1, z2⟩ := z
    exact ⟨V1, F1, f _ _ _ z1, z2⟩) (fun _ _ z => z)
theorem n_eqV {V1 : Nat → Int32} {F1 : Nat → Nat → Int32} (e : V = V1) (f : F = F1) (k : mH Γ o ad M d Ph pc L st V1 F1) : mH Γ o ad M d Ph pc L st V F := by
  subst e; subst f; exact k
theorem n_blk (l9 : List (Instr × Value)) (hn : L.length ≤ M.2.2.1) (hd : gChk M.2.1 pc l9 = true) (k : gEx l9 pc L st (fun pc L st => mH Γ o ad M d Ph pc L st V F)) : mH Γ o ad M d Ph pc L st V F := by
  intro h0 h hM hk
  refine g_blk l9 hn hd ?_
  induction l9 generalizing pc L st with
  | nil => exact k h0 h hM hk
  | cons a t ih =>
    obtain ⟨i, w⟩ := a
    unfold gEx at k ⊢
    unfold gChk at hd
    rw [Bool.and_eq_true, Bool.and_eq_true] at hd
    split at k
    · next L1 st1 hp =>
      exact ih (by rw [g_len hp]; exact hn) hd.2 k
    · exact k.elim
theorem n_top {x y : Int32} (e : x = y) (k : mH Γ o ad M d Ph pc L (.int y :: st) V F) : mH Γ o ad M d Ph pc L (.int x :: st) V F := e ▸ k
theorem n_lcl (e : L = L') (k : mH Γ o ad M d Ph pc L' st V F) : mH Γ o ad M d Ph pc L st V F := e ▸ k
theorem n_weak (hL : gLe L' L) (k : mH Γ o ad M d Ph pc L' st V F) : mH Γ o ad M d Ph pc L st V F := fun h0 h hM hk => g_weak hL (Nat.le_refl _) (Nat.le_refl _) (k h0 h hM hk)
theorem n_getI {idx k : Nat} {ty : FieldType} {fin : Bool} {x : Int32} (hf : gFld M.1.cls idx 13 k ty fin) (hd : decode M.2.1 pc = .ok (.getfield idx, 3)) (hx : (mFs ad V)[k]? = some (.int x)) (kk : mH Γ o ad M d Ph (pc + 3) L (.int x :: st) V F) : mH Γ o ad M d Ph pc L (.ref o :: st) V F := fun h0 h hM hk => g_getf hf hd hM.1 hx (kk h0 h hM hk)
theorem n_getR {idx k : Nat} {ty : FieldType} {fin : Bool} {x : Nat} (hf : gFld M.1.cls idx 13 k ty fin) (hd : decode M.2.1 pc = .ok (.getfield idx, 3)) (hx : (mFs ad V)[k]? = some (.ref x)) (kk : mH Γ o ad M d Ph (pc + 3) L (.ref x :: st) V F) : mH Γ o ad M d Ph pc L (.ref o :: st) V F := fun h0 h hM hk => g_getf hf hd hM.1 hx (kk h0 h hM hk)
theorem n_putI {idx k : Nat} {ty : FieldType} {x : Int32} (hf : gFld M.1.cls idx 13 k ty false) (hd : decode M.2.1 pc = .ok (.putfield idx, 3)) (hs : (mFs ad V).set k (.int x) = mFs ad (vU V k x)) (hlt : k < 20) (hn : narrow ty (.int x) = .int x) (hfit : fits ty (.int x) = true) (kk : mH Γ o ad M d Ph (pc + 3) L st (vU V k x) F) : mH Γ o ad M d Ph pc L (.int x :: .ref o :: st) V F := by
  intro h0 h hM hk
  refine g_putf hf hd hM.1 hlt hn hfit ?_
  rw [hs]
  exact kk h0 _ (hM.put _) (hk.tr (gKeep.up (Or.inl rfl)))
theorem n_al {j i : Nat} (hj : mIs j = true) (hd : decode M.2.1 pc = .ok (.iaload, 1)) (hi : i < mLen j) (kk : mH Γ o ad M d Ph (pc + 1) L (.int (F j i) :: st) V F) : mH Γ o ad M d Ph pc L (.int (nI i) :: .ref (ad j) :: st) V F := by
  intro h0 h hM hk
  have hb : mLen j ≤ 1616 := by unfold mLen; split <;> (try split) <;> (try split) <;> omega
  obtain ⟨g, g1, g2⟩ := hM.2.1 j hj
  refine g_iaload hd g1 (vp_in_nI hi (by omega)) ?_
  rw [nI_clamp (by omega), g2 i hi]
  exact kk h0 h hM hk
theorem n_as {j i : Nat} {x : Int32} (hj : mIs j = true) (hd : decode M.2.1 pc = .ok (.iastore, 1)) (hi : i < mLen j) (kk : mH Γ o ad M d Ph (pc + 1) L st V (fU F j i x)) : mH Γ o ad M d Ph pc L (.int x :: .int (nI i) :: .ref (ad j) :: st) V F := by
  intro h0 h hM hk
  have hb : mLen j ≤ 1616 := by unfold mLen; split <;> (try split) <;> (try split) <;> omega
  obtain ⟨g, g1, g2⟩ := hM.2.1 j hj
  refine g_iastore hd g1 (vp_in_nI hi (by omega)) ?_
  rw [nI_clamp (by omega)]
  rw [fU_row] at kk
  exact kk h0 _ (hM.row hj _ _ (fun q hq => by unfold upd; split <;> first | rfl | exact g2 q hq)) (hk.tr (gKeep.up (Or.inr ⟨j, hj, rfl⟩)))
theorem n_call {idx n d' : Nat} {M' : gM} {av : List Value} {w : Option Value} {V1 : Nat → Int32} {F1 : Nat → Nat → Int32} {st' : List Value} (hlk : gLkV M.1.cls idx 13 M' n) (hC : mC Γ o ad M' av V F d' w V1 F1) (hd : decode M.2.1 pc = .ok (.invokevirtual idx, 3)) (hst : st' = av.reverse ++ .ref o :: st) (hn : av.length = n) (hdd : d' + 1 ≤ d) (hnl : M'.2.2.1 ≤ 80) (hcat : (st.map fun v => v.category).sum ≤ 8) (hh : M.2.2.2.2 = []) (kk : mH Γ o ad M d Ph (pc + 3) L (w.toList ++ st) V1 F1) : mH Γ o ad M d Ph pc L st' V F := by
  intro h0 h hM hk
  refine g_callV (av := .ref o :: av) (rc' := 0) (rs' := 0) (fs := mFs ad V) hlk (hC h hM) hd (by rw [hst]; simp) rfl hM.1 (by simp [hn]) hdd hnl hcat (Nat.le_refl _) (Nat.le_refl _) hh (fun _ _ z => z.elim) (fun w' h' q => ?_)
  obtain ⟨rfl, hM', hk'⟩ := q
  exact kk h0 h' hM' (hk.tr hk')
theorem n_callR {idx n d' : Nat} {M' : gM} {av : List Value} {w : Option Value} {V1 : Nat → Int32} {F1 : Nat → Nat → Int32} {st' : List Value} (hlk : gLkS M.1.cls idx M' n) (hC : mCS Γ o ad M' av V F d' w V1 F1) (hd : decode M.2.1 pc = .ok (.invokestatic idx, 3)) (hst : st' = av.reverse ++ st) (hn : av.length = n) (hdd : d' + 1 ≤ d) (hnl : M'.2.2.1 ≤ 80) (hcat : (st.map fun v => v.category).sum ≤ 8) (hh : M.2.2.2.2 = []) (kk : mH Γ o ad M d Ph (pc + 3) L (w.toList ++ st) V1 F1) : mH Γ o ad M d Ph pc L st' V F := by
  intro h0 h hM hk
  refine g_callS (av := av) (rc' := 0) (rs' := 0) hlk (hC h hM) hd hst hn hdd hnl hcat (Nat.le_refl _) (Nat.le_refl _) hh (fun _ _ z => z.elim) (fun w' h' q => ?_)
  obtain ⟨rfl, hM', hk'⟩ := q
  exact kk h0 h' hM' (hk.tr hk')
theorem n_callS {idx n d' : Nat} {M' : gM} {av : List Value} {w : Option Value} {st' : List Value} (hlk : gLkS M.1.cls idx M' n) (hC : sC Γ M' av d' w) (hd : decode M.2.1 pc = .ok (.invokestatic idx, 3)) (hst : st' = av.reverse ++ st) (hn : av.length = n) (hdd : d' + 1 ≤ d) (hnl : M'.2.2.1 ≤ 80) (hcat : (st.map fun v => v.category).sum ≤ 8) (hh : M.2.2.2.2 = []) (kk : mH Γ o ad M d Ph (pc + 3) L (w.toList ++ st) V F) : mH Γ o ad M d Ph pc L st' V F := by
  intro h0 h hM hk
  refine g_callS (av := av) (rc' := 0) (rs' := 0) hlk (hC h) hd hst hn hdd hnl hcat (Nat.le_refl _) (Nat.le_refl _) hh (fun _ _ z => z.elim) (fun w' h' q => ?_)
  obtain ⟨rfl, rfl⟩ := q
  exact kk h0 h' hM hk

theorem n_icmp_eq {x y : Int32} {off : Int} {tgt : Nat} (hd : decode M.2.1 pc = .ok (.if_icmp .eq off, 3)) (ht : (pc : Int) + off = (tgt : Int)) (kt : x = y → mH Γ o ad M d Ph tgt L st V F) (kf : ¬ x = y → mH Γ o ad M d Ph (pc + 3) L st V F) : mH Γ o ad M d Ph pc L (.int y :: .int x :: st) V F := fun h0 h hM hk => g_icmp_eq hd ht (fun q => kt q h0 h hM hk) (fun q => kf q h0 h hM hk)
theorem n_if_eq {x : Int32} {off : Int} {tgt : Nat} (hd : decode M.2.1 pc = .ok (.ifCond .eq off, 3)) (ht : (pc : Int) + off = (tgt : Int)) (kt : x = 0 → mH Γ o ad M d Ph tgt L st V F) (kf : ¬ x = 0 → mH Γ o ad M d Ph (pc + 3) L st V F) : mH Γ o ad M d Ph pc L (.int x :: st) V F := fun h0 h hM hk => g_if_eq hd ht (fun q => kt q h0 h hM hk) (fun q => kf q h0 h hM hk)
theorem n_icmp_ne {x y : Int32} {off : Int} {tgt : Nat} (hd : decode M.2.1 pc = .ok (.if_icmp .ne off, 3)) (ht : (pc : Int) + off = (tgt : Int)) (kt : ¬ x = y → mH Γ o ad M d Ph tgt L st V F) (kf : x = y → mH Γ o ad M d Ph (pc + 3) L st V F) : mH Γ o ad M d Ph pc L (.int y :: .int x :: st) V F := fun h0 h hM hk => g_icmp_ne hd ht (fun q => kt q h0 h hM hk) (fun q => kf q h0 h hM hk)
theorem n_if_ne {x : Int32} {off : Int} {tgt : Nat} (hd : decode M.2.1 pc = .ok (.ifCond .ne off, 3)) (ht : (pc : Int) + off = (tgt : Int)) (kt : ¬ x = 0 → mH Γ o ad M d Ph tgt L st V F) (kf : x = 0 → mH Γ o ad M d Ph (pc + 3) L st V F) : mH Γ o ad M d Ph pc L (.int x :: st) V F := fun h0 h hM hk => g_if_ne hd ht (fun q => kt q h0 h hM hk) (fun q => kf q h0 h hM hk)
theorem n_icmp_lt {x y : Int32} {off : Int} {tgt : Nat} (hd : decode M.2.1 pc = .ok (.if_icmp .lt off, 3)) (ht : (pc : Int) + off = (tgt : Int)) (kt : x < y → mH Γ o ad M d Ph tgt L st V F) (kf : ¬ x < y → mH Γ o ad M d Ph (pc + 3) L st V F) : mH Γ o ad M d Ph pc L (.int y :: .int x :: st) V F := fun h0 h hM hk => g_icmp_lt hd ht (fun q => kt q h0 h hM hk) (fun q => kf q h0 h hM hk)
theorem n_if_lt {x : Int32} {off : Int} {tgt : Nat} (hd : decode M.2.1 pc = .ok (.ifCond .lt off, 3)) (ht : (pc : Int) + off = (tgt : Int)) (kt : x < 0 → mH Γ o ad M d Ph tgt L st V F) (kf : ¬ x < 0 → mH Γ o ad M d Ph (pc + 3) L st V F) : mH Γ o ad M d Ph pc L (.int x :: st) V F := fun h0 h hM hk => g_if_lt hd ht (fun q => kt q h0 h hM hk) (fun q => kf q h0 h hM hk)
theorem n_icmp_ge {x y : Int32} {off : Int} {tgt : Nat} (hd : decode M.2.1 pc = .ok (.if_icmp .ge off, 3)) (ht : (pc : Int) + off = (tgt : Int)) (kt : y ≤ x → mH Γ o ad M d Ph tgt L st V F) (kf : ¬ y ≤ x → mH Γ o ad M d Ph (pc + 3) L st V F) : mH Γ o ad M d Ph pc L (.int y :: .int x :: st) V F := fun h0 h hM hk => g_icmp_ge hd ht (fun q => kt q h0 h hM hk) (fun q => kf q h0 h hM hk)
theorem n_if_ge {x : Int32} {off : Int} {tgt : Nat} (hd : decode M.2.1 pc = .ok (.ifCond .ge off, 3)) (ht : (pc : Int) + off = (tgt : Int)) (kt : 0 ≤ x → mH Γ o ad M d Ph tgt L st V F) (kf : ¬ 0 ≤ x → mH Γ o ad M d Ph (pc + 3) L st V F) : mH Γ o ad M d Ph pc L (.int x :: st) V F := fun h0 h hM hk => g_if_ge hd ht (fun q => kt q h0 h hM hk) (fun q => kf q h0 h hM hk)
theorem n_icmp_gt {x y : Int32} {off : Int} {tgt : Nat} (hd : decode M.2.1 pc = .ok (.if_icmp .gt off, 3)) (ht : (pc : Int) + off = (tgt : Int)) (kt : y < x → mH Γ o ad M d Ph tgt L st V F) (kf : ¬ y < x → mH Γ o ad M d Ph (pc + 3) L st V F) : mH Γ o ad M d Ph pc L (.int y :: .int x :: st) V F := fun h0 h hM hk => g_icmp_gt hd ht (fun q => kt q h0 h hM hk) (fun q => kf q h0 h hM hk)
theorem n_if_gt {x : Int32} {off : Int} {tgt : Nat} (hd : decode M.2.1 pc = .ok (.ifCond .gt off, 3)) (ht : (pc : Int) + off = (tgt : Int)) (kt : 0 < x → mH Γ o ad M d Ph tgt L st V F) (kf : ¬ 0 < x → mH Γ o ad M d Ph (pc + 3) L st V F) : mH Γ o ad M d Ph pc L (.int x :: st) V F := fun h0 h hM hk => g_if_gt hd ht (fun q => kt q h0 h hM hk) (fun q => kf q h0 h hM hk)
theorem n_icmp_le {x y : Int32} {off : Int} {tgt : Nat} (hd : decode M.2.1 pc = .ok (.if_icmp .le off, 3)) (ht : (pc : Int) + off = (tgt : Int)) (kt : x ≤ y → mH Γ o ad M d Ph tgt L st V F) (kf : ¬ x ≤ y → mH Γ o ad M d Ph (pc + 3) L st V F) : mH Γ o ad M d Ph pc L (.int y :: .int x :: st) V F := fun h0 h hM hk => g_icmp_le hd ht (fun q => kt q h0 h hM hk) (fun q => kf q h0 h hM hk)
theorem n_if_le {x : Int32} {off : Int} {tgt : Nat} (hd : decode M.2.1 pc = .ok (.ifCond .le off, 3)) (ht : (pc : Int) + off = (tgt : Int)) (kt : x ≤ 0 → mH Γ o ad M d Ph tgt L st V F) (kf : ¬ x ≤ 0 → mH Γ o ad M d Ph (pc + 3) L st V F) : mH Γ o ad M d Ph pc L (.int x :: st) V F := fun h0 h hM hk => g_if_le hd ht (fun q => kt q h0 h hM hk) (fun q => kf q h0 h hM hk)
theorem n_idiv {x y : Int32} (hne : ¬ y = 0) (hd : decode M.2.1 pc = .ok (.idiv, 1)) (kk : mH Γ o ad M d Ph (pc + 1) L (.int (x / y) :: st) V F) : mH Γ o ad M d Ph pc L (.int y :: .int x :: st) V F := fun h0 h hM hk => g_idiv hne hd (kk h0 h hM hk)
theorem n_irem {x y : Int32} (hne : ¬ y = 0) (hd : decode M.2.1 pc = .ok (.irem, 1)) (kk : mH Γ o ad M d Ph (pc + 1) L (.int (x - x / y * y) :: st) V F) : mH Γ o ad M d Ph pc L (.int y :: .int x :: st) V F := fun h0 h hM hk => g_irem hne hd (kk h0 h hM hk)
theorem n_ddiv {x y : UInt64} (hne : vf_n64 (FP.ddiv x y)) (hd : decode M.2.1 pc = .ok (.ddiv, 1)) (kk : mH Γ o ad M d Ph (pc + 1) L (.double (FP.ddiv x y) :: st) V F) : mH Γ o ad M d Ph pc L (.double y :: .double x :: st) V F := fun h0 h hM hk => g_ddiv hne hd (kk h0 h hM hk)
theorem n_fdiv {x y : UInt32} (hne : vf_n32 (FP.fdiv x y)) (hd : decode M.2.1 pc = .ok (.fdiv, 1)) (kk : mH Γ o ad M d Ph (pc + 1) L (.float (FP.fdiv x y) :: st) V F) : mH Γ o ad M d Ph pc L (.float y :: .float x :: st) V F := fun h0 h hM hk => g_fdiv hne hd (kk h0 h hM hk)
theorem n_dconst0 (hd : decode M.2.1 pc = .ok (.dconst 0, 1)) (kk : mH Γ o ad M d Ph (pc + 1) L (.double FP.dconst0 :: st) V F) : mH Γ o ad M d Ph pc L st V F := fun h0 h hM hk => g_dconst0 hd (kk h0 h hM hk)
theorem n_fconst0 (hd : decode M.2.1 pc = .ok (.fconst 0, 1)) (kk : mH Γ o ad M d Ph (pc + 1) L (.float FP.fconst0 :: st) V F) : mH Γ o ad M d Ph pc L st V F := fun h0 h hM hk => g_fconst0 hd (kk h0 h hM hk)
theorem n_tableIn {dflt lo hi : Int} {offs : Array Int} {len : Nat} {x : Int32} {off : Int} {tgt : Nat} (hd : decode M.2.1 pc = .ok (.tableswitch dflt lo hi offs, len)) (h1 : ¬ x.toInt < lo) (h2 : ¬ hi < x.toInt) (ho : offs[(x.toInt - lo).toNat]? = some off) (ht : (pc : Int) + off = (tgt : Int)) (kk : mH Γ o ad M d Ph tgt L st V F) : mH Γ o ad M d Ph pc L (.int x :: st) V F := fun h0 h hM hk => g_tableIn hd h1 h2 ho ht (kk h0 h hM hk)
theorem n_tableOut {dflt lo hi : Int} {offs : Array Int} {len : Nat} {x : Int32} {tgt : Nat} (hd : decode M.2.1 pc = .ok (.tableswitch dflt lo hi offs, len)) (h1 : x.toInt < lo ∨ hi < x.toInt) (ht : (pc : Int) + dflt = (tgt : Int)) (kk : mH Γ o ad M d Ph tgt L st V F) : mH Γ o ad M d Ph pc L (.int x :: st) V F := fun h0 h hM hk => g_tableOut hd h1 ht (kk h0 h hM hk)
theorem n_mmax {idx : Nat} {x y : Int32} (hlk : Cond.methodLink M.1.cls idx Lib.Math.max.name ∈ lw_good) (hd : decode M.2.1 pc = .ok (.invokestatic idx, 3)) (hd0 : 1 ≤ d) (hcat : (st.map fun v => v.category).sum ≤ 8) (kk : mH Γ o ad M d Ph (pc + 3) L (.int (rMax x y) :: st) V F) : mH Γ o ad M d Ph pc L (.int y :: .int x :: st) V F := fun h0 h hM hk => g_mmax hlk hd hd0 hcat (kk h0 h hM hk)
theorem n_end (w : Option Value) (hv : st = w.toList) (hr : gRet M.2.1 pc M.2.2.2.1 w) (hz : Ph w V F) : mH Γ o ad M d Ph pc L st V F := by
  intro h0 h hM hk
  exact g_end w hv hr ⟨V, F, hz, hM, hk⟩
theorem n_callE {idx n d' : Nat} {M' : gM} {av : List Value} {Ph' : Option Value → (Nat → Int32) → (Nat → Nat → Int32) → Prop} {st' : List Value} (hlk : gLkV M.1.cls idx 13 M' n) (hC : mE Γ o ad M' av V F d' Ph') (hd : decode M.2.1 pc = .ok (.invokevirtual idx, 3)) (hst : st' = av.reverse ++ .ref o :: st) (hn : av.length = n) (hdd : d' + 1 ≤ d) (hnl : M'.2.2.1 ≤ 80) (hcat : (st.map fun v => v.category).sum ≤ 8) (hh : M.2.2.2.2 = []) (kk : ∀ w V1 F1, Ph' w V1 F1 → mH Γ o ad M d Ph (pc + 3) L (w.toList ++ st) V1 F1) : mH Γ o ad M d Ph pc L st' V F := by
  intro h0 h hM hk
  refine g_callV (av := .ref o :: av) (rc' := 0) (rs' := 0) (fs := mFs ad V) hlk (hC h hM) hd (by rw [hst]; simp) rfl hM.1 (by simp [hn]) hdd hnl hcat (Nat.le_refl _) (Nat.le_refl _) hh (fun _ _ z => z.elim) (fun w' h' q => ?_)
  obtain ⟨V1, F1, q1, hM', hk'⟩ := q
  exact kk w' V1 F1 q1 h0 h' hM' (hk.tr hk')
theorem n_callP {idx n d' b : Nat} {M' : gM} {As : List Value} {w : Option Value} {st' : List Value} (hlk : gLkP M.1.cls idx M' n) (hC : ∀ h, pC Γ M' (.ref b :: As) h d' w) (hd : decode M.2.1 pc = .ok (.invokevirtual idx, 3)) (hst : st' = (.ref b :: As).reverse ++ st) (ho : gPo Γ M'.1.cls b) (hn : As.length = n) (hdd : d' + 1 ≤ d) (hnl : M'.2.2.1 ≤ 80) (hcat : (st.map fun v => v.category).sum ≤ 8) (hh : M.2.2.2.2 = []) (kk : mH Γ o ad M d Ph (pc + 3) L (w.toList ++ st) V F) : mH Γ o ad M d Ph pc L st' V F := by
  intro h0 h hM hk
  refine g_callP (av := .ref b :: As) (rc' := 0) (rs' := 0) hlk (hC h) hd hst rfl ho (by simp [hn]) hdd hnl hcat (Nat.le_refl _) (Nat.le_refl _) hh (fun _ _ z => z.elim) (fun w' h' q => ?_)
  obtain ⟨rfl, rfl⟩ := q
  exact kk h0 h' hM hk
theorem n_ldc {idx sa : Nat} {tx : String} (hstr : gPs Γ M.1.cls idx tx sa) (hd : decode M.2.1 pc = .ok (.ldc idx, 2)) (k : mH Γ o ad M d Ph (pc + 2) L (.ref sa :: st) V F) : mH Γ o ad M d Ph pc L st V F := fun h0 h hM hk => g_ldc hstr hd (k h0 h hM hk)
end NLayer
