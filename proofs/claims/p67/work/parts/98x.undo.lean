/-! THE FACE: UNDO, SAVE, RESTORE -/
section GFx
variable {Γ : gE} {de mi : Nat} {h h' h1 : gHp} {m B : Nat} {V : Nat → Int32} {F : Nat → Nat → Int32} {ex : List oT}
theorem pw_ins {l1 l2 : List oT} {x : oT} (h : (l1 ++ l2).Pairwise gApart) (hx : ∀ y ∈ l1 ++ l2, gApart x y) : (l1 ++ x :: l2).Pairwise gApart := by
  obtain ⟨p1, p2, p3⟩ := List.pairwise_append.mp h
  refine List.pairwise_append.mpr ⟨p1, List.pairwise_cons.mpr ⟨fun b hb => hx b (List.mem_append_right _ hb), p2⟩, fun a ha b hb => ?_⟩
  rcases List.mem_cons.mp hb with rfl | z
  · exact (hx a (List.mem_append_left _ ha)).symm
  · exact p3 a ha b z
theorem K12_no {e : va_E} (z : tgO e ∨ tg e = 9) : ¬ tg e = 12 := by
  unfold tgO at z
  omega
theorem K12_noT {e : va_E} (z : tgT e ∨ tgB e ∨ tgL e) : ¬ tg e = 12 := by
  unfold tgT tgB tgL at z
  omega
theorem up12 {fs : List Value} {c : va_E} (hm : h m = some (gJ 12 fs)) : gFr (fun e => tg e = 12) h (gUp h m c) ∧ gFr (kC Γ) h (gUp h m c) := by
  refine ⟨gFr.of (S := fun q => q = m) (gKeep.up rfl) (fun q hq e y => ?_), gFr.of (S := fun q => q = m) (gKeep.up rfl) (fun q hq e y => ?_)⟩
  · rw [hq, hm] at y; cases y; rfl
  · rw [hq, hm] at y; cases y; exact kC_J (by decide)
theorem gOne.k12 {x : oT} (H : gOne Γ de h B x) (k : gFr (fun e => tg e = 12) h h1) : gOne Γ de h1 B x := H.ft k (fun _ z => K12_no z)
theorem gAL_k12 {hl : Nat} {fl xs : List Nat} (H : gAL Γ de h hl fl xs) (k : gFr (fun e => tg e = 12) h h1) : gAL Γ de h1 hl fl xs := gAL_ft H k (fun e z => by omega)
theorem gTl.k12 {tt bu sb : Nat} (H : gTl Γ h V F tt bu sb) (k : gFr (fun e => tg e = 12) h h1) : gTl Γ h1 V F tt bu sb := H.ft k (fun _ z => K12_noT z)
/-- rows that agree below 202 -/
theorem rIV.cg {N N' : Nat → Int32} {c t nx : Nat} (I : rIV N c t nx) (e : ∀ q, q < 202 → N q = N' q) : rIV N' c t nx := by
  have hc := I.hc
  have ht := I.ht
  obtain ⟨⟨a1, a2⟩, ⟨a3, a4⟩, ⟨hh, a5, a6⟩, ⟨a7, dl, dd, a8, a9, a10⟩, a11, a12, a13, a14⟩ := I
  refine ⟨⟨a1, by rw [← e 3 (by omega)]; exact a2⟩, ⟨a3, by rw [← e 4 (by omega)]; exact a4⟩, ⟨hh, a5, by rw [← e 0 (by omega)]; exact a6⟩, ⟨by rw [← e 2 (by omega)]; exact a7, dl, dd, by rw [← e 5 (by omega)]; exact a8, by rw [← e 6 (by omega)]; exact a9, a10⟩, fun r hr => ?_, rUp_cg ht (fun q q1 q2 => e q (by omega)) a12, rPv_cg ht (fun q q1 q2 => e q (by omega)) a13, ?_⟩
  · obtain ⟨a, b, g, b1, b2, b3, b4, b5, b6⟩ := a11 r hr
    exact ⟨a, b, g, b1, b2, b3, by rw [← e _ (by omega)]; exact b4, by rw [← e _ (by omega)]; exact b5, by rw [← e _ (by omega)]; exact b6⟩
  · have el : lqs N' c = lqs N c := lqs_of lqs_len (fun i hi => by
      rw [lqs_get hi]
      unfold lqN
      rw [e _ (by omega), e _ (by omega), e _ (by omega), e _ (by omega), e _ (by omega), e _ (by omega), e _ (by omega)])
    rw [el]
    exact lqI.cg a14 (fun a ha => by unfold rg; rw [e _ (by omega)])
theorem gRel_lt {c t q : Nat} (hc : c ≤ 20) (ht : t ≤ 12) (h : gRel c t q) : q < 202 := by
  unfold gRel at h
  omega
theorem gOne.cg {N N' : Nat → Int32} {o : Nat} {fo : List Nat} (H : gOne Γ de h B (N, o, fo)) (e : ∀ q, q < 202 → N q = N' q) : gOne Γ de h B (N', o, fo) := by
  obtain ⟨c, t, nx, ⟨la, ta, ca, da, ba, pa, ep, fl, fq, ls, ps, H, h2, nd⟩, I, hB⟩ := H
  exact ⟨c, t, nx, ⟨la, ta, ca, da, ba, pa, ep, fl, fq, ls, ps, gOx_cong H (fun q hq => e q (gRel_lt I.hc I.ht hq)), h2, nd⟩, I.cg e, hB⟩
/-- the list of former offices -/
theorem gMX.ls (G : gMX Γ de h m V F B ex) : ∃ o svv hl tt bu sb fl xs, gMc h m o svv hl tt bu (V 10) sb (V 7) (V 8) ∧ gAL Γ de h hl fl xs ∧ V 6 = nI xs.length ∧ xs.length ≤ 8 := by
  obtain ⟨o, fo, sv, fr, svv, hl, tt, bu, sb, fl, a1, a2, a3, a4, ⟨a51, a52, a53⟩, ⟨a6, a7⟩, a8⟩ := G
  exact ⟨o, svv, hl, tt, bu, sb, fl, _, a1, a6, by rw [List.length_map]; exact a51, by rw [List.length_map]; exact a52⟩
/-- saved: the first of the offices beside -/
theorem gMX.sv {x : oT} (G : gMX Γ de h m V F B (x :: ex)) : ∃ o svv hl tt bu sb, gMc h m o svv hl tt bu (V 10) sb (V 7) (V 8) ∧ gMX Γ de (gUp h m (gJ 12 [.ref o, .ref x.2.1, .ref hl, .ref tt, .ref bu, .int (V 10), .ref sb, .int (V 7), .int (V 8)])) m (vU V 5 (nI 1)) (fR F 3 x.1) B ex ∧ gFr (kC Γ) h (gUp h m (gJ 12 [.ref o, .ref x.2.1, .ref hl, .ref tt, .ref bu, .int (V 10), .ref sb, .int (V 7), .int (V 8)])) := by
  obtain ⟨o, fo, sv, fr, svv, hl, tt, bu, sb, fl, a1, a2, a3, a4, a5, ⟨a6, a7⟩, a8⟩ := G
  obtain ⟨k1, k2⟩ := up12 (Γ := Γ) (c := gJ 12 [.ref o, .ref x.2.1, .ref hl, .ref tt, .ref bu, .int (V 10), .ref sb, .int (V 7), .int (V 8)]) a1
  have a2' : ∀ y ∈ x :: (ex ++ ((F 0, o, fo) :: (sv ++ fr))), gOne Γ de h B y := a2
  obtain ⟨p1, p2⟩ := List.pairwise_cons.mp (show (x :: (ex ++ ((F 0, o, fo) :: (sv ++ fr)))).Pairwise gApart from a3)
  have hs : (ex ++ ([(F 0, o, fo)] ++ fr)).Sublist (ex ++ ((F 0, o, fo) :: (sv ++ fr))) := List.Sublist.append (List.Sublist.refl _) (List.Sublist.cons_cons _ (List.sublist_append_right _ _))
  have e1 : ex ++ ((F 0, o, fo) :: ([(x.1, x.2.1, x.2.2)] ++ fr)) = (ex ++ [(F 0, o, fo)]) ++ x :: fr := by simp only [List.append_assoc, List.cons_append, List.nil_append]
  have hm : ∀ y ∈ ex ++ ((F 0, o, fo) :: ([(x.1, x.2.1, x.2.2)] ++ fr)), y ∈ x :: (ex ++ ((F 0, o, fo) :: (sv ++ fr))) := fun y hy => by
    simp only [List.mem_append, List.mem_cons, List.not_mem_nil, or_false] at hy ⊢
    rcases hy with z | z | z | z
    · exact Or.inr (Or.inl z)
    · exact Or.inr (Or.inr (Or.inl z))
    · exact Or.inl z
    · exact Or.inr (Or.inr (Or.inr (Or.inr z)))
  refine ⟨o, svv, hl, tt, bu, sb, a1, ⟨o, fo, [(x.1, x.2.1, x.2.2)], fr, .ref x.2.1, hl, tt, bu, sb, fl, gUp_s _ _ _, ?_, ?_, Or.inr ⟨rfl, _, _, rfl, rfl⟩, a5, ⟨gAL_k12 a6 k1, ?_⟩, a8.k12 k1⟩, k2⟩
  · exact fun y hy => (a2' y (hm y hy)).k12 k1
  · show (ex ++ ((F 0, o, fo) :: ([(x.1, x.2.1, x.2.2)] ++ fr))).Pairwise gApart
    rw [e1]
    refine pw_ins ?_ (fun y hy => p1 y ?_)
    · rw [List.append_assoc]; exact p2.sublist hs
    · rw [List.append_assoc] at hy; exact hs.subset hy
  · exact fun q hq y hy => a7 q hq y (hm y hy)
/-- restored: the first of the offices beside becomes the office now; none is former -/
theorem gMX.rs {b o hl tt bu sb : Nat} {svv : Value} {fpb : List Nat} (G : gMX Γ de h m V F B ((F 3, b, fpb) :: ex)) (h5 : V 5 = nI 1) (hm : gMc h m o svv hl tt bu (V 10) sb (V 7) (V 8)) : gMX Γ de (gUp h m (gJ 12 [.ref b, svv, .ref hl, .ref tt, .ref bu, .int (V 10), .ref sb, .int (V 7), .int (V 8)])) m V (fR F 0 (F 3)) B ex ∧ gFr (kC Γ) h (gUp h m (gJ 12 [.ref b, svv, .ref hl, .ref tt, .ref bu, .int (V 10), .ref sb, .int (V 7), .int (V 8)])) := by
  obtain ⟨o2, fo, sv, fr, svv2, hl2, tt2, bu2, sb2, fl, a1, a2, a3, a4, a5, ⟨a6, a7⟩, a8⟩ := G
  have ee := Option.some.inj (a1.symm.trans hm)
  cases ee
  obtain ⟨k1, k2⟩ := up12 (Γ := Γ) (c := gJ 12 [.ref b, svv, .ref hl, .ref tt, .ref bu, .int (V 10), .ref sb, .int (V 7), .int (V 8)]) a1
  have a2' : ∀ y ∈ (F 3, b, fpb) :: (ex ++ ((F 0, o, fo) :: (sv ++ fr))), gOne Γ de h B y := a2
  obtain ⟨p1, p2⟩ := List.pairwise_cons.mp (show ((F 3, b, fpb) :: (ex ++ ((F 0, o, fo) :: (sv ++ fr)))).Pairwise gApart from a3)
  have hs : (ex ++ (sv ++ fr)).Sublist (ex ++ ((F 0, o, fo) :: (sv ++ fr))) := List.Sublist.append (List.Sublist.refl _) (List.Sublist.cons _ (List.Sublist.refl _))
  have hmm : ∀ y ∈ ex ++ ((F 3, b, fpb) :: (sv ++ fr)), y ∈ (F 3, b, fpb) :: (ex ++ ((F 0, o, fo) :: (sv ++ fr))) := fun y hy => by
    simp only [List.mem_append, List.mem_cons] at hy ⊢
    rcases hy with z | z | z | z
    · exact Or.inr (Or.inl z)
    · exact Or.inl z
    · exact Or.inr (Or.inr (Or.inr (Or.inl z)))
    · exact Or.inr (Or.inr (Or.inr (Or.inr z)))
  refine ⟨⟨b, fpb, sv, fr, svv, hl, tt, bu, sb, fl, gUp_s _ _ _, fun y hy => (a2' y (hmm y hy)).k12 k1, pw_ins (p2.sublist hs) (fun y hy => p1 y (hs.subset hy)), a4, a5, ⟨gAL_k12 a6 k1, fun q hq y hy => a7 q hq y (hmm y hy)⟩, a8.k12 k1⟩, k2⟩
/-- all former offices forgotten -/
theorem gMX.cl (G : gMX Γ de h m V F B ex) : ∃ o svv hl tt bu sb fl xs, gMc h m o svv hl tt bu (V 10) sb (V 7) (V 8) ∧ gAL Γ de h hl fl xs ∧ ∀ h1 : gHp, gAL Γ de h1 hl fl [] → gKeep (fun q => q ∈ fl) h h1 → gMX Γ de h1 m (vU V 6 (nI 0)) F B ex ∧ gFr (kC Γ) h h1 := by
  obtain ⟨o, fo, sv, fr, svv, hl, tt, bu, sb, fl, a1, a2, a3, a4, a5, ⟨a6, a7⟩, a8⟩ := G
  refine ⟨o, svv, hl, tt, bu, sb, fl, _, a1, a6, fun h1 hA hk => ?_⟩
  have kL := gAL_tgk a6 hk
  have hs : (ex ++ ((F 0, o, fo) :: (sv ++ []))).Sublist (ex ++ ((F 0, o, fo) :: (sv ++ fr))) := List.Sublist.append (List.Sublist.refl _) (List.Sublist.cons_cons _ (List.Sublist.append (List.Sublist.refl _) (List.nil_sublist _)))
  exact ⟨⟨o, fo, sv, [], svv, hl, tt, bu, sb, fl, kL _ _ a1 t12_4, fun y hy => (a2 y (hs.subset hy)).kpl hk a6 (fun q hq => a7 q hq y (hs.subset hy)), a3.sublist hs, a4, ⟨rfl, Nat.zero_le _, fun i x hi => by cases hi⟩, ⟨hA, fun q hq y hy => a7 q hq y (hs.subset hy)⟩, a8.ft kL (fun e z => tg_TBL4 z)⟩, gAL_kck a6 hk⟩
/-- the latest former office becomes the office now -/
theorem gMX.un {r : Nat} (G : gMX Γ de h m V F B ex) (h6 : V 6 = nI (r + 1)) (hr : r < 8) : ∃ o svv hl tt bu sb fl xs b, gMc h m o svv hl tt bu (V 10) sb (V 7) (V 8) ∧ gAL Γ de h hl fl xs ∧ xs.length = r + 1 ∧ xs[r]? = some b ∧ gEl h 7 xs ∧ b ∉ fl ∧ m ∉ fl ∧ ∀ h1 : gHp, gAL Γ de h1 hl fl (xs.eraseIdx r) → gKeep (fun q => q ∈ fl) h h1 → gMX Γ de (gUp h1 m (gJ 12 [.ref b, svv, .ref hl, .ref tt, .ref bu, .int (V 10), .ref sb, .int (V 7), .int (V 8)])) m (vU V 6 (nI r)) (fR F 0 (rCp (F 4) (F 0) (r * 202) 0 202)) B ex ∧ gFr (kC Γ) h (gUp h1 m (gJ 12 [.ref b, svv, .ref hl, .ref tt, .ref bu, .int (V 10), .ref sb, .int (V 7), .int (V 8)])) := by
  obtain ⟨o, fo, sv, fr, svv, hl, tt, bu, sb, fl, a1, a2, a3, a4, ⟨a51, a52, a53⟩, ⟨a6, a7⟩, a8⟩ := G
  have hlen : fr.length = r + 1 := (nI_eqI (by omega) (by omega)).mp (a51.symm.trans h6)
  obtain ⟨x, hx⟩ : ∃ z, fr[r]? = some z := ⟨_, List.getElem?_eq_getElem (by omega)⟩
  have e0 : fr.eraseIdx r ++ [x] = fr := by
    apply List.ext_getElem?
    intro i
    have hl0 : (fr.eraseIdx r).length = r := by rw [List.length_eraseIdx, if_pos (by omega)]; omega
    by_cases hi : i < r
    · rw [List.getElem?_append_left (by omega), List.getElem?_eraseIdx, if_pos hi]
    · rw [List.getElem?_append_right (by omega), hl0]
      by_cases h2 : i = r
      · subst h2; rw [Nat.sub_self, hx]; rfl
      · rw [List.getElem?_eq_none (by simp only [List.length_singleton]; omega), List.getElem?_eq_none (by omega)]
  have hxm : x ∈ ex ++ ((F 0, o, fo) :: (sv ++ fr)) := List.mem_append_right _ (List.mem_cons_of_mem _ (List.mem_append_right _ (List.mem_of_getElem? hx)))
  have hs : (ex ++ (sv ++ fr.eraseIdx r)).Sublist (ex ++ ((F 0, o, fo) :: (sv ++ fr.eraseIdx r))) := List.Sublist.append (List.Sublist.refl _) (List.Sublist.cons _ (List.Sublist.refl _))
  have e1 : ex ++ ((F 0, o, fo) :: (sv ++ fr)) = (ex ++ ((F 0, o, fo) :: (sv ++ fr.eraseIdx r))) ++ [x] := by
    conv => lhs; rw [← e0]
    simp only [List.append_assoc, List.cons_append]
  have a3' := a3
  rw [e1] at a3'
  obtain ⟨p1, -, p3⟩ := List.pairwise_append.mp a3'
  have hin : ∀ y ∈ ex ++ (sv ++ fr.eraseIdx r), y ∈ ex ++ ((F 0, o, fo) :: (sv ++ fr)) := fun y hy => by rw [e1]; exact List.mem_append_left _ (hs.subset hy)
  refine ⟨o, svv, hl, tt, bu, sb, fl, fr.map (fun y => y.2.1), x.2.1, a1, a6, by rw [List.length_map]; exact hlen, by rw [List.getElem?_map, hx]; rfl, fun y hy => ?_, fun z => a7 _ z x hxm (a2 x hxm).in, fun z => ?_, fun h1 hA hk => ?_⟩
  · obtain ⟨z, hz, rfl⟩ := List.mem_map.mp hy
    exact (a2 z (List.mem_append_right _ (List.mem_cons_of_mem _ (List.mem_append_right _ hz)))).at7
  · obtain ⟨e, e2, e3⟩ := gAL_tg a6 m z
    cases (Option.some.inj (e2.symm.trans a1))
    exact absurd e3 t12_4
  · have kL := gAL_tgk a6 hk
    have hm1 : h1 m = some _ := kL _ _ a1 t12_4
    obtain ⟨k1, k2⟩ := up12 (Γ := Γ) (c := gJ 12 [.ref x.2.1, svv, .ref hl, .ref tt, .ref bu, .int (V 10), .ref sb, .int (V 7), .int (V 8)]) hm1
    have hone : ∀ y ∈ ex ++ ((F 0, o, fo) :: (sv ++ fr)), gOne Γ de (gUp h1 m (gJ 12 [.ref x.2.1, svv, .ref hl, .ref tt, .ref bu, .int (V 10), .ref sb, .int (V 7), .int (V 8)])) B y := fun y hy => ((a2 y hy).kpl hk a6 (fun q hq => a7 q hq y hy)).k12 k1
    have hrow : ∀ q, q < 202 → x.1 q = rCp (F 4) (F 0) (r * 202) 0 202 q := fun q hq => by
      unfold rCp
      rw [if_pos (by omega), a53 r x hx q hq]
      have e9 : 202 * r + q = r * 202 + (q - 0) := by omega
      rw [e9]
    refine ⟨⟨x.2.1, x.2.2, sv, fr.eraseIdx r, svv, hl, tt, bu, sb, fl, gUp_s _ _ _, fun y hy => ?_, ?_, a4, ⟨?_, ?_, fun i y hi => ?_⟩, ⟨?_, fun q hq y hy => ?_⟩, (a8.ft kL (fun e z => tg_TBL4 z)).k12 k1⟩, (gAL_kck a6 hk).tr k2⟩
    · have hy : y ∈ ex ++ ((rCp (F 4) (F 0) (r * 202) 0 202, x.2.1, x.2.2) :: (sv ++ fr.eraseIdx r)) := hy
      rcases List.mem_append.mp hy with z | z
      · exact hone y (List.mem_append_left _ z)
      · rcases List.mem_cons.mp z with rfl | w
        · exact (show gOne Γ de _ B (x.1, x.2.1, x.2.2) from hone x hxm).cg hrow
        · exact hone y (hin y (List.mem_append_right _ w))
    · show (ex ++ ((rCp (F 4) (F 0) (r * 202) 0 202, x.2.1, x.2.2) :: (sv ++ fr.eraseIdx r))).Pairwise gApart
      exact pw_ins (p1.sublist hs) (fun y hy => (show gApart y x from p3 y (hs.subset hy) x (List.mem_singleton.mpr rfl)).symm)
    · rw [List.length_eraseIdx, if_pos (by omega), hlen]; rfl
    · rw [List.length_eraseIdx, if_pos (by omega)]; omega
    · by_cases hi2 : i < r
      · rw [List.getElem?_eraseIdx, if_pos hi2] at hi
        exact a53 i y hi
      · rw [List.getElem?_eq_none (by rw [List.length_eraseIdx, if_pos (by omega)]; omega)] at hi
        cases hi
    · rw [show (fr.eraseIdx r).map (fun y => y.2.1) = (fr.map (fun y => y.2.1)).eraseIdx r from by
        apply List.ext_getElem?
        intro i
        rw [List.getElem?_map, List.getElem?_eraseIdx, List.getElem?_eraseIdx]
        split <;> rw [List.getElem?_map]]
      exact gAL_k12 hA k1
    · have hy : y ∈ ex ++ ((rCp (F 4) (F 0) (r * 202) 0 202, x.2.1, x.2.2) :: (sv ++ fr.eraseIdx r)) := hy
      rcases List.mem_append.mp hy with z | z
      · exact a7 q hq y (List.mem_append_left _ z)
      · rcases List.mem_cons.mp z with rfl | w
        · exact a7 q hq x hxm
        · exact a7 q hq y (hin y (List.mem_append_right _ w))
end GFx
