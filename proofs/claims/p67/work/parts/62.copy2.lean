section GDu2
variable {Γ : gE} {de : Nat} {h : gHp}
theorem gOx_addL {o c t la ta ca da ba pa ep : Nat} {fl fq ls ps : List Nat} {N : Nat → Int32} (H : gOx Γ de h o N c t la ta ca da ba pa ep fl fq ls ps) (g : gNd ca da ba fl fq ls) {h1 : gHp} {a : Nat} {fl' : List Nat} (hk : gKeep (fun q => q ∈ fl) h h1) (HL' : gAL Γ de h1 la fl' (ls ++ [a])) (ha : gLet h1 N c a) (hal : a ∉ ls) (hfl : ∀ q ∈ fl', q ∈ fl ∨ h q = none) : gOx Γ de h1 o N (c + 1) t la ta ca da ba pa ep fl' fq (ls ++ [a]) ps ∧ gNd ca da ba fl' fq (ls ++ [a]) := by
  obtain ⟨ho, HL, hlc, hls, hta, HP, hpc, hps, hep, ⟨fc, hca, hfc⟩, ⟨fd, hda, hfd⟩, ⟨fb, hba, hfb⟩⟩ := H
  obtain ⟨g1, g2, g3, g4, g5⟩ := g
  have kL := gAL_nk HL
  have nf : ∀ {q : Nat} {e : va_E}, h q = some e → (∀ fs, e ≠ gJ 4 fs) → (∀ n f, e ≠ gO Γ n f) → h1 q = some e := fun {q e} hq e4 eO => hk q e (fun z => by
    rcases kL q z with ⟨fs, y⟩ | ⟨n, f, y⟩
    · rw [hq] at y; exact e4 _ (Option.some.inj y)
    · rw [hq] at y; exact eO _ _ (Option.some.inj y)) hq
  have iO : ∀ {n n' : Nat} {f : Nat → Int32} {f' : Nat → Option Nat}, gI Γ n f ≠ gO Γ n' f' := fun z => by
    have z2 := congrArg (fun x : va_E => match x with | .inl (_, _, .inl _) => true | _ => false) z
    cases z2
  refine ⟨⟨nf ho (fun fs z => by cases z) (fun n f z => by cases z), HL', by rw [List.length_append, hlc]; rfl, fun i b hb => ?_, nf hta (fun fs z => by cases z) (fun n f z => by cases z), gAL_kp HP hk (fun q hq z => g5 q z hq), hpc, fun j p hj => nf (hps j p hj) (fun fs z => by cases z) (fun n f z => by cases z), nf hep (fun fs z => by cases z) (fun n f z => by cases z), ⟨fc, nf hca (fun fs z => by cases z) (fun n f z => iO z), hfc⟩, ⟨fd, nf hda (fun fs z => by cases z) (fun n f z => iO z), hfd⟩, ⟨fb, nf hba (fun fs z => by cases z) (fun n f z => iO z), hfb⟩⟩, ?_, g2, g3, g4, fun q hq hq2 => ?_⟩
  · by_cases z : i < ls.length
    · rw [List.getElem?_append_left z] at hb
      exact nf (hls i b hb) (fun fs z => by cases z) (fun n f z => by cases z)
    · rw [List.getElem?_append_right (by omega)] at hb
      have hi : i - ls.length = 0 := by
        have := (List.getElem?_eq_some_iff.mp hb).1
        have h1 : [a].length = 1 := rfl
        omega
      rw [hi] at hb
      cases hb
      rw [show i = c by omega]
      exact ha
  · rw [List.nodup_append]
    exact ⟨g1, by simp, fun x hx y hy z => hal (by rw [← List.mem_singleton.mp hy, ← z]; exact hx)⟩
  · rcases hfl q hq with z | z
    · exact g5 q z hq2
    · rcases gAL_nk HP q hq2 with ⟨fs, y⟩ | ⟨n, f, y⟩ <;> (rw [z] at y; cases y)
/-- the list of prefixes written anew -/
theorem gOx_setP {o c t t' la ta ca da ba pa ep : Nat} {fl fq ls ps ps' : List Nat} {N : Nat → Int32} (H : gOx Γ de h o N c t la ta ca da ba pa ep fl fq ls ps) (g : gNd ca da ba fl fq ls) {h1 : gHp} {fq' : List Nat} (hk : gKeep (fun q => q ∈ fq) h h1) (HP' : gAL Γ de h1 pa fq' ps') (ht : ps'.length = t') (hp : ∀ j p, ps'[j]? = some p → gPre h1 N j p) (hfq : ∀ q ∈ fq', q ∈ fq ∨ h q = none) : gOx Γ de h1 o N c t' la ta ca da ba pa ep fl fq' ls ps' ∧ gNd ca da ba fl fq' ls := by
  obtain ⟨ho, HL, hlc, hls, hta, HP, hpc, hps, hep, ⟨fc, hca, hfc⟩, ⟨fd, hda, hfd⟩, ⟨fb, hba, hfb⟩⟩ := H
  obtain ⟨g1, g2, g3, g4, g5⟩ := g
  have kP := gAL_nk HP
  have nf : ∀ {q : Nat} {e : va_E}, h q = some e → (∀ fs, e ≠ gJ 4 fs) → (∀ n f, e ≠ gO Γ n f) → h1 q = some e := fun {q e} hq e4 eO => hk q e (fun z => by
    rcases kP q z with ⟨fs, y⟩ | ⟨n, f, y⟩
    · rw [hq] at y; exact e4 _ (Option.some.inj y)
    · rw [hq] at y; exact eO _ _ (Option.some.inj y)) hq
  have iO : ∀ {n n' : Nat} {f : Nat → Int32} {f' : Nat → Option Nat}, gI Γ n f ≠ gO Γ n' f' := fun z => by
    have z2 := congrArg (fun x : va_E => match x with | .inl (_, _, .inl _) => true | _ => false) z
    cases z2
  refine ⟨⟨nf ho (fun fs z => by cases z) (fun n f z => by cases z), gAL_kp HL hk (fun q hq z => g5 q hq z), hlc, fun i b hb => nf (hls i b hb) (fun fs z => by cases z) (fun n f z => by cases z), nf hta (fun fs z => by cases z) (fun n f z => by cases z), HP', ht, hp, nf hep (fun fs z => by cases z) (fun n f z => by cases z), ⟨fc, nf hca (fun fs z => by cases z) (fun n f z => iO z), hfc⟩, ⟨fd, nf hda (fun fs z => by cases z) (fun n f z => iO z), hfd⟩, ⟨fb, nf hba (fun fs z => by cases z) (fun n f z => iO z), hfb⟩⟩, g1, g2, g3, g4, fun q hq hq2 => ?_⟩
  rcases hfq q hq2 with z | z
  · exact g5 q hq z
  · rcases gAL_nk HL q hq with ⟨fs, y⟩ | ⟨n, f, y⟩ <;> (rw [z] at y; cases y)
theorem gFp_m {o ta ca da ba q : Nat} {fl fq ls : List Nat} : q ∈ gFp o ta ca da ba fl fq ls ↔ (q = o ∨ q = ta ∨ q = ca ∨ q = da ∨ q = ba ∨ q ∈ fl ∨ q ∈ fq ∨ q ∈ ls) := by
  unfold gFp
  simp only [List.mem_cons, List.mem_append]
def gM0 (N : Nat → Int32) (q : Nat) : Int32 := if q < 26 then gN0 q else N q
def gM1 (N : Nat → Int32) (r q : Nat) : Int32 := if 8 ≤ q ∧ q < 8 + 3 * r then N q else gM0 N q
def duZ (Γ : gE) (de : Nat) (h : gHp) (N : Nat → Int32) (c t : Nat) (ps : List Nat) : Option Value → gHp → Prop := fun v h' => ∃ b lb tb cb db bb pb eb flb fqb lsb, v = some (.ref b) ∧ gOx Γ de h' b N c t lb tb cb db bb pb eb flb fqb lsb ps ∧ gNd cb db bb flb fqb lsb ∧ (∀ q ∈ gFp b tb cb db bb flb fqb lsb, h q = none) ∧ gAll h h'
theorem of_duplicate {o c t la ta ca da ba pa ep : Nat} {fl fq ls ps : List Nat} {N : Nat → Int32} {mi : Nat} (hp : gPall Γ de mi) (H : gOx Γ de h o N c t la ta ca da ba pa ep fl fq ls ps) (hc : c ≤ 20) (ht : t ≤ 12) (hw : rLv1 N c) : gC Γ M_X4_duplicate [.ref o] h 9 60 2230 (duZ Γ de h N c t ps) (fun _ _ => False) := by
  have H0 := H
  obtain ⟨ho, HL, hlc, hls, hta, HP, hpc, hps, hep, ⟨fc, hca, hfc⟩, ⟨fd, hda, hfd⟩, ⟨fb, hba, hfb⟩⟩ := H0
  have loop2 : ∀ (b lb tb cb db bb pb eb : Nat) (flk fqk lsk : List Nat), ∀ n r hk, r + n = 6 → gOx Γ de hk b (gM1 N r) c t lb tb cb db bb pb eb flk fqk lsk ps → gNd cb db bb flk fqk lsk → (∀ q ∈ gFp b tb cb db bb flk fqk lsk, h q = none) → gAll h hk → G Γ M_X4_duplicate 9 60 2230 (duZ Γ de h N c t ps) (fun _ _ => False) 0 0 62 [some (.ref o), some (.ref b), some (.int (nI r))] [] hk := by
    intro b lb tb cb db bb pb eb flk fqk lsk n
    induction n with
    | zero =>
      intro r hk hr K g1 g2 g3
      obtain rfl : r = 6 := by omega
      have Ho := g3 o _ (fun y => y) ho
      have hbn : h b = none := g2 b (gFp_m.mpr (Or.inl rfl))
      have hob : o ≠ b := fun z => by rw [z, hbn] at ho; cases ho
      obtain ⟨Kb, -⟩ := id K
      refine g_blk [(.iload_n 2, .null), (.bipush 6, .int (nI 6))] (Nat.le_of_ble_eq_true rfl) (by decide +kernel) ?_
      refine gx_iload_n_2 (gx_bipush ((gx_nil ?_)))
      refine g_icmp_ge (off := 45) (tgt := 110) (by decide +kernel) (by decide) (fun c65 => ?_) (fun c65 => ?_)
      · try simp only [bI_0, Decidable.not_not] at c65
        refine g_blk [(.aload_n 1, .null), (.aload_n 0, .null)] (Nat.le_of_ble_eq_true rfl) (by decide +kernel) ?_
        refine gx_aload_n_1 (gx_aload_n_0 ((gx_nil ?_)))
        refine g_getf fX4_35 (by decide +kernel) Ho rfl ?_
        refine g_putf fX4_35 (by decide +kernel) Kb (by simp) rfl rfl ?_
        refine g_blk [(.aload_n 1, .null), (.aload_n 0, .null)] (Nat.le_of_ble_eq_true rfl) (by decide +kernel) ?_
        refine gx_aload_n_1 (gx_aload_n_0 ((gx_nil ?_)))
        refine g_getf fX4_39 (by decide +kernel) ((gUp_n _ _ hob).trans Ho) rfl ?_
        refine g_putf fX4_39 (by decide +kernel) (gUp_s _ _ _) (by simp) rfl rfl ?_
        refine g_blk [(.aload_n 1, .null), (.aload_n 0, .null)] (Nat.le_of_ble_eq_true rfl) (by decide +kernel) ?_
        refine gx_aload_n_1 (gx_aload_n_0 ((gx_nil ?_)))
        refine g_getf fX4_42 (by decide +kernel) ((gUp_n _ _ hob).trans ((gUp_n _ _ hob).trans Ho)) rfl ?_
        refine g_putf fX4_42 (by decide +kernel) (gUp_s _ _ _) (by simp) rfl rfl ?_
        refine g_blk [(.aload_n 1, .null), (.aload_n 0, .null)] (Nat.le_of_ble_eq_true rfl) (by decide +kernel) ?_
        refine gx_aload_n_1 (gx_aload_n_0 ((gx_nil ?_)))
        refine g_getf fX4_45 (by decide +kernel) ((gUp_n _ _ hob).trans ((gUp_n _ _ hob).trans ((gUp_n _ _ hob).trans Ho))) rfl ?_
        refine g_putf fX4_45 (by decide +kernel) (gUp_s _ _ _) (by simp) rfl rfl ?_
        refine g_blk [(.aload_n 1, .null), (.aload_n 0, .null)] (Nat.le_of_ble_eq_true rfl) (by decide +kernel) ?_
        refine gx_aload_n_1 (gx_aload_n_0 ((gx_nil ?_)))
        refine g_getf fX4_48 (by decide +kernel) ((gUp_n _ _ hob).trans ((gUp_n _ _ hob).trans ((gUp_n _ _ hob).trans ((gUp_n _ _ hob).trans Ho)))) rfl ?_
        refine g_putf fX4_48 (by decide +kernel) (gUp_s _ _ _) (by simp) rfl rfl ?_
        refine g_blk [(.aload_n 1, .null), (.aload_n 0, .null)] (Nat.le_of_ble_eq_true rfl) (by decide +kernel) ?_
        refine gx_aload_n_1 (gx_aload_n_0 ((gx_nil ?_)))
        refine g_getf fX4_51 (by decide +kernel) ((gUp_n _ _ hob).trans ((gUp_n _ _ hob).trans ((gUp_n _ _ hob).trans ((gUp_n _ _ hob).trans ((gUp_n _ _ hob).trans Ho))))) rfl ?_
        refine g_putf fX4_51 (by decide +kernel) (gUp_s _ _ _) (by simp) rfl rfl ?_
        refine g_blk [(.aload_n 1, .null)] (Nat.le_of_ble_eq_true rfl) (by decide +kernel) ?_
        refine gx_aload_n_1 ((gx_nil ?_))
        refine g_end (some (.ref _)) rfl ⟨by decide +kernel, _, rfl, Or.inl ⟨_, rfl⟩⟩ ?_
        refine ⟨b, lb, tb, cb, db, bb, pb, eb, flk, fqk, lsk, rfl, ?_, g1, g2, ?_⟩
        · simp only [gUp_gUp]
          refine gOx_upO K (fun q q1 q2 => ?_) rfl
          unfold gM1 gM0
          unfold gRel at q1
          by_cases y : q < 26
          · rw [if_pos (by omega)]
          · rw [if_neg (by omega), if_neg y]
        · simp only [gUp_gUp]
          exact gK_up g3 (Or.inr hbn)
      · try simp only [bI_0, Decidable.not_not] at c65
        exact absurd (nI_le (by omega) (by omega)) c65
    | succ n ih =>
      intro r hk hr K g1 g2 g3
      have Ho := g3 o _ (fun y => y) ho
      have Hc := g3 ca _ (fun y => y) hca
      have Hd := g3 da _ (fun y => y) hda
      have Hb := g3 ba _ (fun y => y) hba
      have hbn : h b = none := g2 b (gFp_m.mpr (Or.inl rfl))
      have n1 : ∀ {x : Nat} {e : va_E}, h x = some e → ∀ y ∈ gFp b tb cb db bb flk fqk lsk, x ≠ y := fun hx y hy z => by rw [z, g2 y hy] at hx; cases hx
      have mc : cb ∈ gFp b tb cb db bb flk fqk lsk := memC
      have md : db ∈ gFp b tb cb db bb flk fqk lsk := memD
      have mb : bb ∈ gFp b tb cb db bb flk fqk lsk := memB
      have K0 := K
      obtain ⟨Kb, -, -, -, -, -, -, -, -, ⟨fc1, hcb, hfc1⟩, ⟨fd1, hdb, hfd1⟩, ⟨fb1, hbb, hfb1⟩⟩ := K0
      have nd1 := gNd_to K g1
      have K1 := gOx_upC K nd1 (f := upd fc1 r (N (8 + 3 * r))) (N' := upd (gM1 N r) (8 + 3 * r) (N (8 + 3 * r))) (fun z hz => by
        by_cases y : z = r
        · subst y; rw [pk_us, Nat.add_zero, pk_us]
        · rw [pk_un y, hfc1 z hz, pk_un (by omega)]; rfl) (fun q q1 q2 => (pk_un (by omega)).symm)
      have K2 := gOx_upD K1 nd1 (f := upd fd1 r (N (8 + 3 * r + 1))) (N' := upd (upd (gM1 N r) (8 + 3 * r) (N (8 + 3 * r))) (8 + 3 * r + 1) (N (8 + 3 * r + 1))) (fun z hz => by
        by_cases y : z = r
        · subst y; rw [pk_us, pk_us]
        · rw [pk_un y, hfd1 z hz, pk_un (by omega), pk_un (by omega)]) (fun q q1 q2 => (pk_un (by omega)).symm)
      have K3 := gOx_upB K2 nd1 (f := upd fb1 r (N (8 + 3 * r + 2))) (N' := gM1 N (r + 1)) (fun z hz => by
        by_cases y : z = r
        · subst y; rw [pk_us]; unfold gM1; rw [if_pos (by omega)]
        · rw [pk_un y, hfb1 z hz]
          unfold gM1
          by_cases y2 : z < r
          · rw [if_pos (by omega), if_pos (by omega)]
          · rw [if_neg (by omega), if_neg (by omega)]) (fun q q1 q2 => by
        by_cases y1 : q = 8 + 3 * r + 1
        · subst y1; rw [pk_us]; unfold gM1; rw [if_pos (by omega)]
        · rw [pk_un y1]
          by_cases y2 : q = 8 + 3 * r
          · subst y2; rw [pk_us]; unfold gM1; rw [if_pos (by omega)]
          · rw [pk_un y2]
            unfold gM1
            by_cases y3 : 8 ≤ q ∧ q < 8 + 3 * r
            · rw [if_pos y3, if_pos (by omega)]
            · rw [if_neg y3, if_neg (by unfold gRel at q1; omega)])
      have b1 := (gUp_n (h := hk) (a := cb) (gI Γ 6 (upd fc1 r (N (8 + 3 * r)))) (show b ≠ cb from fun z => by rw [z, hcb] at Kb; cases Kb)).trans Kb
      have b2 := (gUp_n (h := gUp hk cb (gI Γ 6 (upd fc1 r (N (8 + 3 * r))))) (a := db) (gI Γ 6 (upd fd1 r (N (8 + 3 * r + 1)))) (show b ≠ db from fun z => by rw [z, hdb] at Kb; cases Kb)).trans b1
      have o1 := (gUp_n (h := hk) (a := cb) (gI Γ 6 (upd fc1 r (N (8 + 3 * r)))) (n1 ho cb mc)).trans Ho
      have o2 := (gUp_n (h := gUp hk cb (gI Γ 6 (upd fc1 r (N (8 + 3 * r))))) (a := db) (gI Γ 6 (upd fd1 r (N (8 + 3 * r + 1)))) (n1 ho db md)).trans o1
      have d1 := (gUp_n (h := hk) (a := cb) (gI Γ 6 (upd fc1 r (N (8 + 3 * r)))) (n1 hda cb mc)).trans Hd
      have e1 := (gUp_n (h := hk) (a := cb) (gI Γ 6 (upd fc1 r (N (8 + 3 * r)))) (n1 hba cb mc)).trans Hb
      have e2 := (gUp_n (h := gUp hk cb (gI Γ 6 (upd fc1 r (N (8 + 3 * r))))) (a := db) (gI Γ 6 (upd fd1 r (N (8 + 3 * r + 1)))) (n1 hba db md)).trans e1
      have db1 := (gUp_n (h := hk) (a := cb) (gI Γ 6 (upd fc1 r (N (8 + 3 * r)))) (Ne.symm g1.2.1)).trans hdb
      have bb1 := (gUp_n (h := hk) (a := cb) (gI Γ 6 (upd fc1 r (N (8 + 3 * r)))) (Ne.symm g1.2.2.1)).trans hbb
      have bb2 := (gUp_n (h := gUp hk cb (gI Γ 6 (upd fc1 r (N (8 + 3 * r))))) (a := db) (gI Γ 6 (upd fd1 r (N (8 + 3 * r + 1)))) (Ne.symm g1.2.2.2.1)).trans bb1
      refine g_blk [(.iload_n 2, .null), (.bipush 6, .int (nI 6))] (Nat.le_of_ble_eq_true rfl) (by decide +kernel) ?_
      refine gx_iload_n_2 (gx_bipush ((gx_nil ?_)))
      refine g_icmp_ge (off := 45) (tgt := 110) (by decide +kernel) (by decide) (fun c65 => ?_) (fun c65 => ?_)
      · try simp only [bI_0, Decidable.not_not] at c65
        exact absurd c65 (nI_ge (by omega) (by omega))
      · try simp only [bI_0, Decidable.not_not] at c65
        refine g_blk [(.aload_n 1, .null)] (Nat.le_of_ble_eq_true rfl) (by decide +kernel) ?_
        refine gx_aload_n_1 ((gx_nil ?_))
        refine g_getf fX4_25 (by decide +kernel) Kb rfl ?_
        refine g_blk [(.iload_n 2, .null), (.aload_n 0, .null)] (Nat.le_of_ble_eq_true rfl) (by decide +kernel) ?_
        refine gx_iload_n_2 (gx_aload_n_0 ((gx_nil ?_)))
        refine g_getf fX4_25 (by decide +kernel) Ho rfl ?_
        refine g_blk [(.iload_n 2, .null)] (Nat.le_of_ble_eq_true rfl) (by decide +kernel) ?_
        refine gx_iload_n_2 ((gx_nil ?_))
        refine g_iaload (by decide +kernel) Hc (vp_in_nI (by omega) (by omega)) ?_
        rw [nI_clamp (by omega), hfc r (by omega)]
        refine g_iastore (by decide +kernel) hcb (vp_in_nI (by omega) (by omega)) ?_
        rw [nI_clamp (by omega)]
        refine g_blk [(.aload_n 1, .null)] (Nat.le_of_ble_eq_true rfl) (by decide +kernel) ?_
        refine gx_aload_n_1 ((gx_nil ?_))
        refine g_getf fX4_29 (by decide +kernel) b1 rfl ?_
        refine g_blk [(.iload_n 2, .null), (.aload_n 0, .null)] (Nat.le_of_ble_eq_true rfl) (by decide +kernel) ?_
        refine gx_iload_n_2 (gx_aload_n_0 ((gx_nil ?_)))
        refine g_getf fX4_29 (by decide +kernel) o1 rfl ?_
        refine g_blk [(.iload_n 2, .null)] (Nat.le_of_ble_eq_true rfl) (by decide +kernel) ?_
        refine gx_iload_n_2 ((gx_nil ?_))
        refine g_iaload (by decide +kernel) d1 (vp_in_nI (by omega) (by omega)) ?_
        rw [nI_clamp (by omega), hfd r (by omega)]
        refine g_iastore (by decide +kernel) db1 (vp_in_nI (by omega) (by omega)) ?_
        rw [nI_clamp (by omega)]
        refine g_blk [(.aload_n 1, .null)] (Nat.le_of_ble_eq_true rfl) (by decide +kernel) ?_
        refine gx_aload_n_1 ((gx_nil ?_))
        refine g_getf fX4_32 (by decide +kernel) b2 rfl ?_
        refine g_blk [(.iload_n 2, .null), (.aload_n 0, .null)] (Nat.le_of_ble_eq_true rfl) (by decide +kernel) ?_
        refine gx_iload_n_2 (gx_aload_n_0 ((gx_nil ?_)))
        refine g_getf fX4_32 (by decide +kernel) o2 rfl ?_
        refine g_blk [(.iload_n 2, .null)] (Nat.le_of_ble_eq_true rfl) (by decide +kernel) ?_
        refine gx_iload_n_2 ((gx_nil ?_))
        refine g_iaload (by decide +kernel) e2 (vp_in_nI (by omega) (by omega)) ?_
        rw [nI_clamp (by omega), hfb r (by omega)]
        refine g_iastore (by decide +kernel) bb2 (vp_in_nI (by omega) (by omega)) ?_
        rw [nI_clamp (by omega)]
        refine g_blk [(.iinc 2 1, .int (nI 1)), (.goto (-45), .retAddr 62)] (Nat.le_of_ble_eq_true rfl) (by decide +kernel) ?_
        refine gx_iinc_2 rfl (gx_goto ((gx_nil ?_)))
        try simp only [nI_add, Nat.add_zero, Nat.zero_add, Nat.reduceAdd]
        exact ih (r + 1) _ (by omega) K3 g1 g2 (gK_up (gK_up (gK_up g3 (Or.inr (g2 cb mc))) (Or.inr (g2 db md))) (Or.inr (g2 bb mb)))
  have loop1 : ∀ (b lb tb cb db bb pb eb : Nat), ∀ n i hk flk lsk, i + n = c → gOx Γ de hk b (gM0 N) i 0 lb tb cb db bb pb eb flk [pb] lsk [] → gNd cb db bb flk [pb] lsk → (∀ q ∈ gFp b tb cb db bb flk [pb] lsk, h q = none) → gAll h hk → G Γ M_X4_duplicate 9 60 2230 (duZ Γ de h N c t ps) (fun _ _ => False) (2 * n + 12) (71 * n + 768) 10 [some (.ref o), some (.ref b), some (.int (nI i))] [] hk := by
    intro b lb tb cb db bb pb eb n
    induction n with
    | zero =>
      intro i hk flk lsk hi K g1 g2 g3
      obtain rfl : i = c := by omega
      have Ho := g3 o _ (fun y => y) ho
      have HLk := gAL_kp HL g3 (fun _ _ y => y)
      have Hta := g3 ta _ (fun y => y) hta
      have HPk := gAL_kp HP g3 (fun _ _ y => y)
      have hpsk : ∀ j p, ps[j]? = some p → gPre hk N j p := fun j p hj => g3 p _ (fun y => y) (hps j p hj)
      have K0 := K
      obtain ⟨Kb, -, -, -, Ktb, KPb, -, -, -, -⟩ := K0
      have hpbn : h pb = none := g2 pb (gFp_m.mpr (by simp))
      have hpbq : pb ∉ fq := fun z => by
        rcases gAL_nk HP pb z with ⟨fs, y⟩ | ⟨n, f, y⟩ <;> (rw [hpbn] at y; cases y)
      refine g_blk [(.iload_n 2, .null), (.aload_n 0, .null)] (Nat.le_of_ble_eq_true rfl) (by decide +kernel) ?_
      refine gx_iload_n_2 (gx_aload_n_0 ((gx_nil ?_)))
      refine g_getf fX4_12 (by decide +kernel) Ho rfl ?_
      refine g_pV kX4_55 (al_size HLk) (by decide +kernel) rfl rfl (al_cell HLk) rfl (Nat.le_of_ble_eq_true rfl) (Nat.le_of_ble_eq_true rfl) (Nat.le_of_ble_eq_true rfl) rfl ?_
      simp only [Option.toList_some, List.cons_append, List.nil_append]
      rw [hlc]
      refine g_icmp_ge (off := 31) (tgt := 49) (by decide +kernel) (by decide) (fun c18 => ?_) (fun c18 => ?_)
      · try simp only [bI_0, Decidable.not_not] at c18
        refine g_blk [(.aload_n 0, .null)] (Nat.le_of_ble_eq_true rfl) (by decide +kernel) ?_
        refine gx_aload_n_0 ((gx_nil ?_))
        refine g_getf fX4_21 (by decide +kernel) Ho rfl ?_
        refine g_blk [(.aload_n 1, .null)] (Nat.le_of_ble_eq_true rfl) (by decide +kernel) ?_
        refine gx_aload_n_1 ((gx_nil ?_))
        refine g_getf fX4_21 (by decide +kernel) Kb rfl ?_
        refine g_callV (rc' := 0) (rs' := 0) kX4_73 (tb_copyInto hp Hta HPk hpc hpsk ht Ktb KPb hpbq) (by decide +kernel) rfl rfl Hta rfl (Nat.le_of_ble_eq_true rfl) (Nat.le_of_ble_eq_true rfl) (Nat.le_of_ble_eq_true rfl) (by omega) (by omega) rfl (fun _ _ z => z.elim) (fun v9 h6 hz => ?_)
        obtain ⟨rfl, fqb, kA, kB, kC⟩ := hz
        have S := gOx_setP K g1 (h1 := h6) (fq' := fqb) (ps' := ps) (t' := t) (fun q e z1 z2 => kC q e (fun y => z1 (by rw [y]; simp)) z2) kA hpc (fun j p hj => gPre_cong (kC p _ (fun z => by
            have y8 := hpsk j p hj
            unfold gPre at y8
            obtain ⟨_, _, _, _, ⟨y9, -⟩, -⟩ := KPb
            rw [z, y9] at y8; cases y8) (hpsk j p hj)) (fun q q1 q2 => by unfold gM0; rw [if_neg (by omega)])) (fun q hq => (kB q hq).imp (fun z => by rw [z]; simp) id)
        have fr : ∀ q ∈ gFp b tb cb db bb flk fqb lsk, h q = none := fun q hq => by
          rcases gFp_m.mp hq with z | z | z | z | z | z | z | z
          · exact g2 q (gFp_m.mpr (by simp [z]))
          · exact g2 q (gFp_m.mpr (by simp [z]))
          · exact g2 q (gFp_m.mpr (by simp [z]))
          · exact g2 q (gFp_m.mpr (by simp [z]))
          · exact g2 q (gFp_m.mpr (by simp [z]))
          · exact g2 q (gFp_m.mpr (by simp [z]))
          · rcases kB q z with y | y
            · exact g2 q (gFp_m.mpr (by simp [y]))
            · exact gAll_no g3 y
          · exact g2 q (gFp_m.mpr (by simp [z]))
        have al6 : gAll h h6 := gAll_tr g3 kC (fun z y => by rw [y]; exact hpbn)
        simp only [Option.toList_some, Option.toList_none, List.cons_append, List.nil_append]
        refine g_blk [(.iconst 0, .int (nI 0)), (.istore_n 2, .null)] (Nat.le_of_ble_eq_true rfl) (by decide +kernel) ?_
        refine gx_iconst (gx_istore_n_2 rfl ((gx_nil ?_)))
        exact loop2 b lb tb cb db bb pb eb flk fqb lsk 6 0 h6 rfl (gOx_cong S.1 (fun q q1 => by unfold gM1; rw [if_neg (by omega)])) S.2 fr al6
      · try simp only [bI_0, Decidable.not_not] at c18
        exact absurd (nI_le (by omega) (by omega)) c18
    | succ n ih =>
      intro i hk flk lsk hi K g1 g2 g3
      have Ho := g3 o _ (fun y => y) ho
      have HLk := gAL_kp HL g3 (fun _ _ y => y)
      obtain ⟨a9, hx9⟩ : ∃ z, ls[i]? = some z := ⟨_, List.getElem?_eq_getElem (by omega)⟩
      have hl9 : gLet hk N i a9 := g3 a9 _ (fun y => y) (hls i a9 hx9)
      obtain ⟨m, cd, w, pr, q, em, hm, ec, hcd, ew, hw1, hw2, ep', hpr, -⟩ := hw i (by omega)
      have K0 := K
      obtain ⟨Kb, KLb, Klc, Kls, -⟩ := K0
      refine g_blk [(.iload_n 2, .null), (.aload_n 0, .null)] (Nat.le_of_ble_eq_true rfl) (by decide +kernel) ?_
      refine gx_iload_n_2 (gx_aload_n_0 ((gx_nil ?_)))
      refine g_getf fX4_12 (by decide +kernel) Ho rfl ?_
      refine g_pV kX4_55 (al_size HLk) (by decide +kernel) rfl rfl (al_cell HLk) rfl (Nat.le_of_ble_eq_true rfl) (Nat.le_of_ble_eq_true rfl) (Nat.le_of_ble_eq_true rfl) rfl ?_
      simp only [Option.toList_some, List.cons_append, List.nil_append]
      rw [hlc]
      refine g_icmp_ge (off := 31) (tgt := 49) (by decide +kernel) (by decide) (fun c18 => ?_) (fun c18 => ?_)
      · try simp only [bI_0, Decidable.not_not] at c18
        exact absurd c18 (nI_ge (by omega) (by omega))
      · try simp only [bI_0, Decidable.not_not] at c18
        refine g_blk [(.aload_n 1, .null)] (Nat.le_of_ble_eq_true rfl) (by decide +kernel) ?_
        refine gx_aload_n_1 ((gx_nil ?_))
        refine g_getf fX4_12 (by decide +kernel) Kb rfl ?_
        refine g_blk [(.aload_n 0, .null)] (Nat.le_of_ble_eq_true rfl) (by decide +kernel) ?_
        refine gx_aload_n_0 ((gx_nil ?_))
        refine g_getf fX4_12 (by decide +kernel) Ho rfl ?_
        refine g_blk [(.iload_n 2, .null)] (Nat.le_of_ble_eq_true rfl) (by decide +kernel) ?_
        refine gx_iload_n_2 ((gx_nil ?_))
        refine g_pV kX4_59 (al_get HLk hx9) (by decide +kernel) rfl rfl (al_cell HLk) rfl (Nat.le_of_ble_eq_true rfl) (Nat.le_of_ble_eq_true rfl) (Nat.le_of_ble_eq_true rfl) rfl ?_
        try simp only [Option.toList_some, Option.toList_none, List.cons_append, List.nil_append, bI_0, n1_0, n0_0, Decidable.not_not, not_true_eq_false, not_false_eq_true, nI_add, Nat.add_zero, Nat.zero_add, Nat.reduceAdd]
        refine g_castO hl9 rfl rfl (clX4_63) (by decide +kernel) ?_
        refine g_callV (rc' := 2 * n + 12 + 1) (rs' := 71 * n + 768 + 64) kX4_65 (le_dup hl9 ep' hpr) (by decide +kernel) rfl rfl hl9 rfl (Nat.le_of_ble_eq_true rfl) (Nat.le_of_ble_eq_true rfl) (Nat.le_of_ble_eq_true rfl) (by omega) (by omega) rfl (fun _ _ z => z.elim) (fun v9 h5 hz => ?_)
        obtain ⟨x9, hv9, hx5, hl5, ha5⟩ := hz
        rw [hv9]
        have KLb5 := gAL_kp KLb ha5 (fun _ _ y => y)
        have Kls5 : ∀ j p, lsk[j]? = some p → gLet h5 (gM0 N) j p := fun j p hj => ha5 p _ (fun y => y) (Kls j p hj)
        simp only [Option.toList_some, Option.toList_none, List.cons_append, List.nil_append]
        refine g_callV (rc' := 2 * n + 12) (rs' := 71 * n + 768) kX4_69 (al_add (x := x9) hp KLb5 (by rw [Klc]; omega) gCi_6 (by decide) (gEl_le Kls5) ⟨_, hl5⟩) (by decide +kernel) rfl rfl (al_cell KLb5) rfl (Nat.le_of_ble_eq_true rfl) (Nat.le_of_ble_eq_true rfl) (Nat.le_of_ble_eq_true rfl) (by omega) (by omega) rfl (fun _ _ z => z.elim) (fun v9 h6 hz => ?_)
        obtain ⟨rfl, fl', kA, kB, kC⟩ := hz
        have K5 := gOx_kp K ha5 (fun _ _ y => y) (fun _ y => y.elim)
        have hx6 : gLet h6 (gM0 N) i x9 := gLet_cong (kC x9 _ (fun z => by
            unfold gLet at hl5
            rcases gAL_nk KLb5 x9 z with ⟨fs, y⟩ | ⟨n, f, y⟩ <;> (rw [hl5] at y; cases y)) hl5) (fun q q1 q2 => by unfold gM0; rw [if_neg (by omega)])
        have S := gOx_addL K5 g1 kC kA hx6 (fun z => by
          obtain ⟨j, hj⟩ := List.getElem?_of_mem z
          have y := Kls j x9 hj
          unfold gLet at y
          rw [hx5] at y; cases y) kB
        have fr : ∀ q ∈ gFp b tb cb db bb fl' [pb] (lsk ++ [x9]), h q = none := fun q hq => by
          rcases gFp_m.mp hq with z | z | z | z | z | z | z | z
          · exact g2 q (gFp_m.mpr (by simp [z]))
          · exact g2 q (gFp_m.mpr (by simp [z]))
          · exact g2 q (gFp_m.mpr (by simp [z]))
          · exact g2 q (gFp_m.mpr (by simp [z]))
          · exact g2 q (gFp_m.mpr (by simp [z]))
          · rcases kB q z with y | y
            · exact g2 q (gFp_m.mpr (by simp [y]))
            · exact gAll_no g3 (gAll_no ha5 y)
          · exact g2 q (gFp_m.mpr (by simp only [z]; simp))
          · rcases List.mem_append.mp z with y | y
            · exact g2 q (gFp_m.mpr (by simp [y]))
            · rw [List.mem_singleton.mp y]; exact gAll_no g3 hx5
        have al6 : gAll h h6 := gAll_tr (gAll_tr g3 ha5 (fun z y => y.elim)) kC (fun z y => g2 z (gFp_m.mpr (by simp [y])))
        simp only [Option.toList_some, Option.toList_none, List.cons_append, List.nil_append]
        refine g_blk [(.pop, .null), (.iinc 2 1, .int (nI 1)), (.goto (-36), .retAddr 10)] (Nat.le_of_ble_eq_true rfl) (by decide +kernel) ?_
        refine gx_popi (gx_iinc_2 rfl (gx_goto ((gx_nil ?_))))
        try simp only [nI_add, Nat.add_zero, Nat.zero_add, Nat.reduceAdd]
        exact ih (i + 1) h6 fl' (lsk ++ [x9]) (by omega) S.1 S.2 fr al6
  refine gC_of (by decide) rfl (Nat.le_of_ble_eq_true rfl) [some (.ref o), none, none] rfl ?_
  refine g_new nX4_13 (rc' := 59) (rs' := 2219) (by decide +kernel) (by omega) (by simp) (fun b hb => ?_)
  refine g_blk [(.dup, .null)] (Nat.le_of_ble_eq_true rfl) (by decide +kernel) ?_
  refine gx_dupr ((gx_nil ?_))
  refine g_callI (rc' := 52) (rs' := 2188) kX4_54 (of_init hp.1 (gUp_s _ _ _)) (by decide +kernel) rfl rfl rfl (Nat.le_of_ble_eq_true rfl) (Nat.le_of_ble_eq_true rfl) (Nat.le_of_ble_eq_true rfl) (by omega) (by omega) rfl (fun _ _ z => z.elim) (fun v9 h5 hz => ?_)
  obtain ⟨rfl, lb, tb, cb, db, bb, pb, eb, K, g1, g2, g3⟩ := hz
  have al5 : gAll h h5 := gAll_tr (gAll_up hb) g3 (fun z y => by rw [y]; exact hb)
  have fr : ∀ q ∈ gFp b tb cb db bb [lb] [pb] [], h q = none := fun q hq => by
    rcases g2 q hq with z | z
    · rw [z]; exact hb
    · exact gAll_no (gAll_up hb) z
  simp only [Option.toList_some, Option.toList_none, List.cons_append, List.nil_append]
  refine g_blk [(.astore_n 1, .null), (.iconst 0, .int (nI 0)), (.istore_n 2, .null)] (Nat.le_of_ble_eq_true rfl) (by decide +kernel) ?_
  refine gx_astore_n_1 rfl (gx_iconst (gx_istore_n_2 rfl ((gx_nil ?_))))
  exact g_weak (by simp [gLe]) (by omega) (by omega) (loop1 b lb tb cb db bb pb eb c 0 h5 [lb] [] (by omega) (gOx_cong K (fun q q1 => by unfold gM0; unfold gRel at q1; rw [if_pos (by omega)])) g1 fr al5)
end GDu2
