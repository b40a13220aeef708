/-! THE OFFICE AS A PIECE OF THE HEAP -/
section GFr
variable {Γ : gE} {de : Nat} {h h' : gHp}
theorem gAL_kp {a : Nat} {fp xs : List Nat} {S : Nat → Prop} (H : gAL Γ de h a fp xs) (hk : gKeep S h h') (hd : ∀ q ∈ fp, ¬ S q) : gAL Γ de h' a fp xs := by
  obtain ⟨mc, e, n, f, ⟨h1, h2, h3, h4, h5⟩, rfl⟩ := H
  refine ⟨mc, e, n, f, ⟨hk a _ (hd a fpL_mem) h1, h2, h3, h4, ?_⟩, rfl⟩
  rcases h5 with z | ⟨z1, z2, z3⟩
  · exact Or.inl z
  · exact Or.inr ⟨z1, hk e _ (hd e (by unfold fpL; rw [if_neg (by omega)]; simp)) z2, z3⟩
theorem gAL_nk {a : Nat} {fp xs : List Nat} (H : gAL Γ de h a fp xs) : ∀ q ∈ fp, (∃ fs, h q = some (gJ 4 fs)) ∨ ∃ n f, h q = some (gO Γ n f) := by
  obtain ⟨mc, e, n, f, ⟨h1, h2, h3, h4, h5⟩, rfl⟩ := H
  intro q hq
  unfold fpL at hq
  split at hq
  · rw [List.mem_singleton.mp hq]; exact Or.inl ⟨_, h1⟩
  · rcases List.mem_cons.mp hq with z | z
    · rw [z]; exact Or.inl ⟨_, h1⟩
    · rw [List.mem_singleton.mp z]
      rcases h5 with y | y
      · omega
      · exact Or.inr ⟨_, _, y.2.1⟩
theorem gAL_hd {a : Nat} {fp xs : List Nat} (H : gAL Γ de h a fp xs) : a ∈ fp := by
  obtain ⟨mc, e, n, f, -, rfl⟩ := H
  exact fpL_mem
def gFp (o ta ca da ba : Nat) (fl fq ls : List Nat) : List Nat := o :: ta :: ca :: da :: ba :: (fl ++ (fq ++ ls))
theorem gFp_kind {o c t la ta ca da ba pa ep : Nat} {fl fq ls ps : List Nat} {N : Nat → Int32} (H : gOx Γ de h o N c t la ta ca da ba pa ep fl fq ls ps) : ∀ q ∈ gFp o ta ca da ba fl fq ls, (∃ e, h q = some e ∧ ∀ fs, e ≠ gJ 9 fs) := by
  obtain ⟨ho, HL, hlc, hls, hta, HP, hpc, hps, hep, ⟨fc, hca, hfc⟩, ⟨fd, hda, hfd⟩, ⟨fb, hba, hfb⟩⟩ := H
  intro q hq
  unfold gFp at hq
  simp only [List.mem_cons, List.mem_append] at hq
  rcases hq with rfl | rfl | rfl | rfl | rfl | z | z | z
  · exact ⟨_, ho, fun fs y => by cases y⟩
  · exact ⟨_, hta, fun fs y => by cases y⟩
  · exact ⟨_, hca, fun fs y => by cases y⟩
  · exact ⟨_, hda, fun fs y => by cases y⟩
  · exact ⟨_, hba, fun fs y => by cases y⟩
  · rcases gAL_nk HL q z with ⟨fs, y⟩ | ⟨n, f, y⟩
    · exact ⟨_, y, fun fs x => by cases x⟩
    · exact ⟨_, y, fun fs x => by cases x⟩
  · rcases gAL_nk HP q z with ⟨fs, y⟩ | ⟨n, f, y⟩
    · exact ⟨_, y, fun fs x => by cases x⟩
    · exact ⟨_, y, fun fs x => by cases x⟩
  · obtain ⟨i, hi⟩ := List.getElem?_of_mem z
    exact ⟨_, hls i q hi, fun fs x => by cases x⟩
/-- the places of the row that an office shows -/
def gRel (c t q : Nat) : Prop := q < 3 ∨ (5 ≤ q ∧ q < 26) ∨ (26 ≤ q ∧ q < 26 + 3 * t) ∨ (62 ≤ q ∧ q < 62 + 7 * c)
theorem gLet_cong {N N' : Nat → Int32} {i a : Nat} (H : gLet h N i a) (e : ∀ q, 62 + 7 * i ≤ q → q < 62 + 7 * i + 7 → N q = N' q) : gLet h N' i a := by
  unfold gLet gBg at *
  rw [← e _ (Nat.le_refl _) (by omega), ← e (62 + 7 * i + 1) (by omega) (by omega), ← e (62 + 7 * i + 2) (by omega) (by omega), ← e (62 + 7 * i + 3) (by omega) (by omega), ← e (62 + 7 * i + 4) (by omega) (by omega), ← e (62 + 7 * i + 5) (by omega) (by omega), ← e (62 + 7 * i + 6) (by omega) (by omega)]
  exact H
theorem gPre_cong {N N' : Nat → Int32} {j p : Nat} (H : gPre h N j p) (e : ∀ q, 26 + 3 * j ≤ q → q < 26 + 3 * j + 3 → N q = N' q) : gPre h N' j p := by
  unfold gPre gSpan at *
  rw [← e _ (Nat.le_refl _) (by omega), ← e (26 + 3 * j + 1) (by omega) (by omega), ← e (26 + 3 * j + 2) (by omega) (by omega)]
  exact H
theorem gOx_cong {o c t la ta ca da ba pa ep : Nat} {fl fq ls ps : List Nat} {N N' : Nat → Int32} (H : gOx Γ de h o N c t la ta ca da ba pa ep fl fq ls ps) (e : ∀ q, gRel c t q → N q = N' q) : gOx Γ de h o N' c t la ta ca da ba pa ep fl fq ls ps := by
  obtain ⟨ho, HL, hlc, hls, hta, HP, hpc, hps, hep, ⟨fc, hca, hfc⟩, ⟨fd, hda, hfd⟩, ⟨fb, hba, hfb⟩⟩ := H
  refine ⟨?_, HL, hlc, fun i a hi => gLet_cong (hls i a hi) (fun q q1 q2 => e q ?_), hta, HP, hpc, fun j p hj => gPre_cong (hps j p hj) (fun q q1 q2 => e q ?_), hep, ⟨fc, hca, fun r hr => (hfc r hr).trans (e _ ?_)⟩, ⟨fd, hda, fun r hr => (hfd r hr).trans (e _ ?_)⟩, ⟨fb, hba, fun r hr => (hfb r hr).trans (e _ ?_)⟩⟩
  · rw [← e 0 (by unfold gRel; omega), ← e 1 (by unfold gRel; omega), ← e 2 (by unfold gRel; omega), ← e 5 (by unfold gRel; omega), ← e 6 (by unfold gRel; omega), ← e 7 (by unfold gRel; omega)]
    exact ho
  · have := (List.getElem?_eq_some_iff.mp hi).1
    unfold gRel; omega
  · have := (List.getElem?_eq_some_iff.mp hj).1
    unfold gRel; omega
  · unfold gRel; omega
  · unfold gRel; omega
  · unfold gRel; omega
theorem gOx_kp {o c t la ta ca da ba pa ep : Nat} {fl fq ls ps : List Nat} {N : Nat → Int32} {S : Nat → Prop} (H : gOx Γ de h o N c t la ta ca da ba pa ep fl fq ls ps) (hk : gKeep S h h') (hd : ∀ q ∈ gFp o ta ca da ba fl fq ls, ¬ S q) (hS : ∀ q, S q → ∀ fs, h q ≠ some (gJ 9 fs)) : gOx Γ de h' o N c t la ta ca da ba pa ep fl fq ls ps := by
  obtain ⟨ho, HL, hlc, hls, hta, HP, hpc, hps, hep, ⟨fc, hca, hfc⟩, ⟨fd, hda, hfd⟩, ⟨fb, hba, hfb⟩⟩ := H
  have hm : ∀ q, q ∈ gFp o ta ca da ba fl fq ls ↔ (q = o ∨ q = ta ∨ q = ca ∨ q = da ∨ q = ba ∨ q ∈ fl ∨ q ∈ fq ∨ q ∈ ls) := fun q => by unfold gFp; simp only [List.mem_cons, List.mem_append]
  refine ⟨hk o _ (hd o ((hm o).mpr (by simp))) ho, gAL_kp HL hk (fun q z => hd q ((hm q).mpr (by simp [z]))), hlc, fun i a hi => hk a _ (hd a ((hm a).mpr (by simp [List.mem_of_getElem? hi]))) (hls i a hi), hk ta _ (hd ta ((hm ta).mpr (by simp))) hta, gAL_kp HP hk (fun q z => hd q ((hm q).mpr (by simp [z]))), hpc, fun j p hj => hk p _ (fun z => hS p z _ (hps j p hj)) (hps j p hj), hk ep _ (fun z => hS ep z _ hep) hep, ⟨fc, hk ca _ (hd ca ((hm ca).mpr (by simp))) hca, hfc⟩, ⟨fd, hk da _ (hd da ((hm da).mpr (by simp))) hda, hfd⟩, ⟨fb, hk ba _ (hd ba ((hm ba).mpr (by simp))) hba, hfb⟩⟩
theorem nd_inj {l : List Nat} (nd : l.Nodup) {i j a : Nat} (hi : l[i]? = some a) (hj : l[j]? = some a) : i = j := by
  obtain ⟨h1, e1⟩ := List.getElem?_eq_some_iff.mp hi
  obtain ⟨h2, e2⟩ := List.getElem?_eq_some_iff.mp hj
  have hp := List.pairwise_iff_getElem.mp nd
  rcases Nat.lt_trichotomy i j with z | z | z
  · exact absurd (e1.trans e2.symm) (hp i j h1 h2 z)
  · exact z
  · exact absurd (e2.trans e1.symm) (hp j i h2 h1 z)
theorem gFp_ls {o ta ca da ba : Nat} {fl fq ls : List Nat} (nd : (gFp o ta ca da ba fl fq ls).Nodup) : ls.Nodup := by
  unfold gFp at nd
  simp only [List.nodup_cons, List.nodup_append] at nd
  exact nd.2.2.2.2.2.2.1.2.1
/-- what an office's method leaves -/
def gPost (Γ : gE) (de : Nat) (h : gHp) (o la ta ca da ba pa ep : Nat) (fp : List Nat) (N' : Nat → Int32) (c' t' : Nat) (h' : gHp) : Prop := ∃ fl' fq' ls' ps', gOx Γ de h' o N' c' t' la ta ca da ba pa ep fl' fq' ls' ps' ∧ (gFp o ta ca da ba fl' fq' ls').Nodup ∧ (∀ q ∈ gFp o ta ca da ba fl' fq' ls', q ∈ fp ∨ h q = none) ∧ gKeep (fun q => q ∈ fp) h h'
theorem gFr_tr {h1 : gHp} {fp fp1 fp2 : List Nat} (a : ∀ q ∈ fp1, q ∈ fp ∨ h q = none) (k : gKeep (fun q => q ∈ fp) h h1) (b : ∀ q ∈ fp2, q ∈ fp1 ∨ h1 q = none) : ∀ q ∈ fp2, q ∈ fp ∨ h q = none := by
  intro q hq
  rcases b q hq with z | z
  · exact a q z
  · by_cases y : q ∈ fp
    · exact Or.inl y
    · refine Or.inr ?_
      cases e : h q with
      | none => rfl
      | some x => rw [k q x y e] at z; cases z
theorem gKeep_tr2 {h1 h2 : gHp} {fp fp1 : List Nat} (a : ∀ q ∈ fp1, q ∈ fp ∨ h q = none) (k : gKeep (fun q => q ∈ fp) h h1) (k2 : gKeep (fun q => q ∈ fp1) h1 h2) : gKeep (fun q => q ∈ fp) h h2 := by
  intro q e hq h9
  refine k2 q e (fun z => ?_) (k q e hq h9)
  rcases a q z with y | y
  · exact hq y
  · rw [y] at h9; cases h9
theorem gUp_k {a : Nat} {e : va_E} : gKeep (fun q => q = a) h (gUp h a e) := gKeep.up rfl
/-- one letter's cell written -/
theorem gOx_upL {o c t la ta ca da ba pa ep : Nat} {fl fq ls ps : List Nat} {N N' : Nat → Int32} (H : gOx Γ de h o N c t la ta ca da ba pa ep fl fq ls ps) (ht : t ≤ 12) (nd : (gFp o ta ca da ba fl fq ls).Nodup) {i a : Nat} (hx : ls[i]? = some a) (e : ∀ q, gRel c t q → ¬ (62 + 7 * i ≤ q ∧ q < 62 + 7 * i + 7) → N q = N' q) {cell : va_E} (hc : some cell = some (gJ 6 [.int (N' (62 + 7 * i)), .int (N' (62 + 7 * i + 1)), .int (N' (62 + 7 * i + 2)), .int (N' (62 + 7 * i + 3)), .int (N' (62 + 7 * i + 4)), .int (N' (62 + 7 * i + 5)), .int (gBg N' i)])) : gOx Γ de (gUp h a cell) o N' c t la ta ca da ba pa ep fl fq ls ps := by
  obtain ⟨ho, HL, hlc, hls, hta, HP, hpc, hps, hep, ⟨fc, hca, hfc⟩, ⟨fd, hda, hfd⟩, ⟨fb, hba, hfb⟩⟩ := H
  have ha := hls i a hx
  have hi : i < c := by rw [← hlc]; exact (List.getElem?_eq_some_iff.mp hx).1
  unfold gLet at ha
  have ne : ∀ {b : Nat} {x : va_E}, h b = some x → (∀ fs, x ≠ gJ 6 fs) → gUp h a cell b = some x := fun hb hx9 => (gUp_n _ _ (fun z => by rw [z, ha] at hb; exact hx9 _ (Option.some.inj hb).symm)).trans hb
  have nal : ∀ {b : Nat} {fp xs : List Nat}, gAL Γ de h b fp xs → gAL Γ de (gUp h a cell) b fp xs := fun G9 => gAL_kp G9 gUp_k (fun q hq z => by
    rcases gAL_nk G9 q hq with ⟨fs, y⟩ | ⟨n, f, y⟩ <;> (rw [z, ha] at y; cases y))
  refine ⟨?_, nal HL, hlc, fun j b hj => ?_, ne hta (fun fs z => by cases z), nal HP, hpc, fun j p hj => gPre_cong (ne (hps j p hj) (fun fs z => by cases z)) (fun q q1 q2 => e q ?_ (by have := (List.getElem?_eq_some_iff.mp hj).1; omega)), ne hep (fun fs z => by cases z), ⟨fc, ne hca (fun fs z => by cases z), fun r hr => (hfc r hr).trans (e _ (by unfold gRel; omega) (by omega))⟩, ⟨fd, ne hda (fun fs z => by cases z), fun r hr => (hfd r hr).trans (e _ (by unfold gRel; omega) (by omega))⟩, ⟨fb, ne hba (fun fs z => by cases z), fun r hr => (hfb r hr).trans (e _ (by unfold gRel; omega) (by omega))⟩⟩
  · rw [← e 0 (by unfold gRel; omega) (by omega), ← e 1 (by unfold gRel; omega) (by omega), ← e 2 (by unfold gRel; omega) (by omega), ← e 5 (by unfold gRel; omega) (by omega), ← e 6 (by unfold gRel; omega) (by omega), ← e 7 (by unfold gRel; omega) (by omega)]
    exact ne ho (fun fs z => by cases z)
  · by_cases y : j = i
    · subst y
      rw [hx] at hj
      cases hj
      unfold gLet
      rw [gUp_s]
      exact hc
    · have hab : b ≠ a := fun z => y (nd_inj (gFp_ls nd) hj (by rw [hx, z]))
      have hjc : j < c := by rw [← hlc]; exact (List.getElem?_eq_some_iff.mp hj).1
      refine gLet_cong (N := N) ?_ (fun q q1 q2 => e q (by unfold gRel; omega) (by omega))
      unfold gLet
      rw [gUp_n _ _ hab]
      exact hls j b hj
  · have := (List.getElem?_eq_some_iff.mp hj).1
    unfold gRel; omega
/-- the office's own numbers written -/
theorem gOx_upO {o c t la ta ca da ba pa ep : Nat} {fl fq ls ps : List Nat} {N N' : Nat → Int32} (H : gOx Γ de h o N c t la ta ca da ba pa ep fl fq ls ps) (e : ∀ q, gRel c t q → 8 ≤ q → N q = N' q) {cell : va_E} (hc : some cell = some (gJ 7 [.ref la, .ref ta, .ref ca, .ref da, .ref ba, .int (N' 0), .int (N' 1), .int (N' 2), .int (N' 5), .int (N' 6), .int (N' 7)])) : gOx Γ de (gUp h o cell) o N' c t la ta ca da ba pa ep fl fq ls ps := by
  obtain ⟨ho, HL, hlc, hls, hta, HP, hpc, hps, hep, ⟨fc, hca, hfc⟩, ⟨fd, hda, hfd⟩, ⟨fb, hba, hfb⟩⟩ := H
  have ne : ∀ {b : Nat} {x : va_E}, h b = some x → (∀ fs, x ≠ gJ 7 fs) → gUp h o cell b = some x := fun hb hx9 => (gUp_n _ _ (fun z => by rw [z, ho] at hb; exact hx9 _ (Option.some.inj hb).symm)).trans hb
  have nal : ∀ {b : Nat} {fp xs : List Nat}, gAL Γ de h b fp xs → gAL Γ de (gUp h o cell) b fp xs := fun G9 => gAL_kp G9 gUp_k (fun q hq z => by
    rcases gAL_nk G9 q hq with ⟨fs, y⟩ | ⟨n, f, y⟩ <;> (rw [z, ho] at y; cases y))
  refine ⟨by rw [gUp_s]; exact hc, nal HL, hlc, fun j b hj => gLet_cong (ne (hls j b hj) (fun fs z => by cases z)) (fun q q1 q2 => e q ?_ (by omega)), ne hta (fun fs z => by cases z), nal HP, hpc, fun j p hj => gPre_cong (ne (hps j p hj) (fun fs z => by cases z)) (fun q q1 q2 => e q ?_ (by omega)), ne hep (fun fs z => by cases z), ⟨fc, ne hca (fun fs z => by cases z), fun r hr => (hfc r hr).trans (e _ (by unfold gRel; omega) (by omega))⟩, ⟨fd, ne hda (fun fs z => by cases z), fun r hr => (hfd r hr).trans (e _ (by unfold gRel; omega) (by omega))⟩, ⟨fb, ne hba (fun fs z => by cases z), fun r hr => (hfb r hr).trans (e _ (by unfold gRel; omega) (by omega))⟩⟩
  · have := (List.getElem?_eq_some_iff.mp hj).1
    unfold gRel; omega
  · have := (List.getElem?_eq_some_iff.mp hj).1
    unfold gRel; omega
theorem gOx_upB {o c t la ta ca da ba pa ep : Nat} {fl fq ls ps : List Nat} {N N' : Nat → Int32} (H : gOx Γ de h o N c t la ta ca da ba pa ep fl fq ls ps) (nd : (gFp o ta ca da ba fl fq ls).Nodup) {f : Nat → Int32} (hf : ∀ r, r < 6 → f r = N' (8 + 3 * r + 2)) (e : ∀ q, gRel c t q → ¬ (8 ≤ q ∧ q < 26 ∧ q % 3 = (8 + 2) % 3) → N q = N' q) : gOx Γ de (gUp h ba (gI Γ 6 f)) o N' c t la ta ca da ba pa ep fl fq ls ps := by
  obtain ⟨ho, HL, hlc, hls, hta, HP, hpc, hps, hep, ⟨fc, hca, hfc⟩, ⟨fd, hda, hfd⟩, ⟨fb, hba, hfb⟩⟩ := H
  unfold gFp at nd
  simp only [List.nodup_cons, List.mem_cons, not_or] at nd
  have ne : ∀ {b : Nat} {x : va_E}, h b = some x → (∀ n f, x ≠ gI Γ n f) → gUp h ba (gI Γ 6 f) b = some x := fun hb hx9 => (gUp_n _ _ (fun z => by rw [z, hba] at hb; exact hx9 _ _ (Option.some.inj hb).symm)).trans hb
  have nal : ∀ {b : Nat} {fp xs : List Nat}, gAL Γ de h b fp xs → gAL Γ de (gUp h ba (gI Γ 6 f)) b fp xs := fun G9 => gAL_kp G9 gUp_k (fun q hq z => by
    rcases gAL_nk G9 q hq with ⟨fs, y⟩ | ⟨n, f, y⟩
    · rw [z, hba] at y; cases y
    · rw [z, hba] at y
      have y2 := congrArg (fun x : Option va_E => match x with | some (.inl (_, _, .inl _)) => true | _ => false) y
      cases y2)
  refine ⟨?_, nal HL, hlc, fun j b hj => gLet_cong (ne (hls j b hj) (fun n f z => by cases z)) (fun q q1 q2 => e q ?_ (by omega)), ne hta (fun n f z => by cases z), nal HP, hpc, fun j p hj => gPre_cong (ne (hps j p hj) (fun n f z => by cases z)) (fun q q1 q2 => e q ?_ (by omega)), ne hep (fun n f z => by cases z), ⟨fc, (gUp_n _ _ nd.2.2.1.2.1).trans hca, fun r hr => (hfc r hr).trans (e _ (by unfold gRel; omega) (by omega))⟩, ⟨fd, (gUp_n _ _ nd.2.2.2.1.1).trans hda, fun r hr => (hfd r hr).trans (e _ (by unfold gRel; omega) (by omega))⟩, ⟨f, gUp_s _ _ _, fun r hr => hf r hr⟩⟩
  · rw [← e 0 (by unfold gRel; omega) (by omega), ← e 1 (by unfold gRel; omega) (by omega), ← e 2 (by unfold gRel; omega) (by omega), ← e 5 (by unfold gRel; omega) (by omega), ← e 6 (by unfold gRel; omega) (by omega), ← e 7 (by unfold gRel; omega) (by omega)]
    exact ne ho (fun n f z => by cases z)
  · have := (List.getElem?_eq_some_iff.mp hj).1
    unfold gRel; omega
  · have := (List.getElem?_eq_some_iff.mp hj).1
    unfold gRel; omega
theorem gOx_upC {o c t la ta ca da ba pa ep : Nat} {fl fq ls ps : List Nat} {N N' : Nat → Int32} (H : gOx Γ de h o N c t la ta ca da ba pa ep fl fq ls ps) (nd : (gFp o ta ca da ba fl fq ls).Nodup) {f : Nat → Int32} (hf : ∀ r, r < 6 → f r = N' (8 + 3 * r + 0)) (e : ∀ q, gRel c t q → ¬ (8 ≤ q ∧ q < 26 ∧ q % 3 = (8 + 0) % 3) → N q = N' q) : gOx Γ de (gUp h ca (gI Γ 6 f)) o N' c t la ta ca da ba pa ep fl fq ls ps := by
  obtain ⟨ho, HL, hlc, hls, hta, HP, hpc, hps, hep, ⟨fc, hca, hfc⟩, ⟨fd, hda, hfd⟩, ⟨fb, hba, hfb⟩⟩ := H
  unfold gFp at nd
  simp only [List.nodup_cons, List.mem_cons, not_or] at nd
  have ne : ∀ {b : Nat} {x : va_E}, h b = some x → (∀ n f, x ≠ gI Γ n f) → gUp h ca (gI Γ 6 f) b = some x := fun hb hx9 => (gUp_n _ _ (fun z => by rw [z, hca] at hb; exact hx9 _ _ (Option.some.inj hb).symm)).trans hb
  have nal : ∀ {b : Nat} {fp xs : List Nat}, gAL Γ de h b fp xs → gAL Γ de (gUp h ca (gI Γ 6 f)) b fp xs := fun G9 => gAL_kp G9 gUp_k (fun q hq z => by
    rcases gAL_nk G9 q hq with ⟨fs, y⟩ | ⟨n, f, y⟩
    · rw [z, hca] at y; cases y
    · rw [z, hca] at y
      have y2 := congrArg (fun x : Option va_E => match x with | some (.inl (_, _, .inl _)) => true | _ => false) y
      cases y2)
  refine ⟨?_, nal HL, hlc, fun j b hj => gLet_cong (ne (hls j b hj) (fun n f z => by cases z)) (fun q q1 q2 => e q ?_ (by omega)), ne hta (fun n f z => by cases z), nal HP, hpc, fun j p hj => gPre_cong (ne (hps j p hj) (fun n f z => by cases z)) (fun q q1 q2 => e q ?_ (by omega)), ne hep (fun n f z => by cases z), ⟨f, gUp_s _ _ _, fun r hr => hf r hr⟩, ⟨fd, (gUp_n _ _ (fun z => nd.2.2.1.1 z.symm)).trans hda, fun r hr => (hfd r hr).trans (e _ (by unfold gRel; omega) (by omega))⟩, ⟨fb, (gUp_n _ _ (fun z => nd.2.2.1.2.1 z.symm)).trans hba, fun r hr => (hfb r hr).trans (e _ (by unfold gRel; omega) (by omega))⟩⟩
  · rw [← e 0 (by unfold gRel; omega) (by omega), ← e 1 (by unfold gRel; omega) (by omega), ← e 2 (by unfold gRel; omega) (by omega), ← e 5 (by unfold gRel; omega) (by omega), ← e 6 (by unfold gRel; omega) (by omega), ← e 7 (by unfold gRel; omega) (by omega)]
    exact ne ho (fun n f z => by cases z)
  · have := (List.getElem?_eq_some_iff.mp hj).1
    unfold gRel; omega
  · have := (List.getElem?_eq_some_iff.mp hj).1
    unfold gRel; omega
theorem gOx_upD {o c t la ta ca da ba pa ep : Nat} {fl fq ls ps : List Nat} {N N' : Nat → Int32} (H : gOx Γ de h o N c t la ta ca da ba pa ep fl fq ls ps) (nd : (gFp o ta ca da ba fl fq ls).Nodup) {f : Nat → Int32} (hf : ∀ r, r < 6 → f r = N' (8 + 3 * r + 1)) (e : ∀ q, gRel c t q → ¬ (8 ≤ q ∧ q < 26 ∧ q % 3 = (8 + 1) % 3) → N q = N' q) : gOx Γ de (gUp h da (gI Γ 6 f)) o N' c t la ta ca da ba pa ep fl fq ls ps := by
  obtain ⟨ho, HL, hlc, hls, hta, HP, hpc, hps, hep, ⟨fc, hca, hfc⟩, ⟨fd, hda, hfd⟩, ⟨fb, hba, hfb⟩⟩ := H
  unfold gFp at nd
  simp only [List.nodup_cons, List.mem_cons, not_or] at nd
  have ne : ∀ {b : Nat} {x : va_E}, h b = some x → (∀ n f, x ≠ gI Γ n f) → gUp h da (gI Γ 6 f) b = some x := fun hb hx9 => (gUp_n _ _ (fun z => by rw [z, hda] at hb; exact hx9 _ _ (Option.some.inj hb).symm)).trans hb
  have nal : ∀ {b : Nat} {fp xs : List Nat}, gAL Γ de h b fp xs → gAL Γ de (gUp h da (gI Γ 6 f)) b fp xs := fun G9 => gAL_kp G9 gUp_k (fun q hq z => by
    rcases gAL_nk G9 q hq with ⟨fs, y⟩ | ⟨n, f, y⟩
    · rw [z, hda] at y; cases y
    · rw [z, hda] at y
      have y2 := congrArg (fun x : Option va_E => match x with | some (.inl (_, _, .inl _)) => true | _ => false) y
      cases y2)
  refine ⟨?_, nal HL, hlc, fun j b hj => gLet_cong (ne (hls j b hj) (fun n f z => by cases z)) (fun q q1 q2 => e q ?_ (by omega)), ne hta (fun n f z => by cases z), nal HP, hpc, fun j p hj => gPre_cong (ne (hps j p hj) (fun n f z => by cases z)) (fun q q1 q2 => e q ?_ (by omega)), ne hep (fun n f z => by cases z), ⟨fc, (gUp_n _ _ nd.2.2.1.1).trans hca, fun r hr => (hfc r hr).trans (e _ (by unfold gRel; omega) (by omega))⟩, ⟨f, gUp_s _ _ _, fun r hr => hf r hr⟩, ⟨fb, (gUp_n _ _ (fun z => nd.2.2.2.1.1 z.symm)).trans hba, fun r hr => (hfb r hr).trans (e _ (by unfold gRel; omega) (by omega))⟩⟩
  · rw [← e 0 (by unfold gRel; omega) (by omega), ← e 1 (by unfold gRel; omega) (by omega), ← e 2 (by unfold gRel; omega) (by omega), ← e 5 (by unfold gRel; omega) (by omega), ← e 6 (by unfold gRel; omega) (by omega), ← e 7 (by unfold gRel; omega) (by omega)]
    exact ne ho (fun n f z => by cases z)
  · have := (List.getElem?_eq_some_iff.mp hj).1
    unfold gRel; omega
  · have := (List.getElem?_eq_some_iff.mp hj).1
    unfold gRel; omega
end GFr
