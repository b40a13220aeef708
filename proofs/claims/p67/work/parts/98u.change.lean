/-! THE FACE: WHAT A CHANGE LEAVES -/
section GFu
variable {Γ : gE} {de mi : Nat} {h h' h1 : gHp} {m B : Nat} {V : Nat → Int32} {F : Nat → Nat → Int32} {ex : List oT}
theorem gOne.keep {x y : oT} {B2 : Nat} (Hy : gOne Γ de h B y) (Hx : gOne Γ de h B2 x) (hk : gKeep (fun q => q ∈ x.2.2) h h') (hd : ∀ q ∈ y.2.2, q ∉ x.2.2) : gOne Γ de h' B y := by
  obtain ⟨c, t, nx, a, b⟩ := Hy
  obtain ⟨c2, t2, nx2, a2, b2⟩ := Hx
  exact ⟨c, t, nx, a2.other a hk hd, b⟩
theorem gOne.cell {x : oT} (Hx : gOne Γ de h B x) : ∀ q ∈ x.2.2, ∃ e, h q = some e ∧ tgO e := by
  obtain ⟨c2, t2, nx2, a2, b2⟩ := Hx
  exact a2.tgs
theorem gOne.at7 {x : oT} (Hx : gOne Γ de h B x) : ∃ vs, h x.2.1 = some (gJ 7 vs) := by
  obtain ⟨c2, t2, nx2, ⟨la, ta, ca, da, ba, pa, ep, fl, fq, ls, ps, H, -, -⟩, b2⟩ := Hx
  exact ⟨_, H.1⟩
theorem gOne.in {x : oT} (Hx : gOne Γ de h B x) : x.2.1 ∈ x.2.2 := by
  obtain ⟨c2, t2, nx2, a2, b2⟩ := Hx
  exact a2.mem
theorem gOne.tgk {x : oT} (Hx : gOne Γ de h B x) (hk : gKeep (fun q => q ∈ x.2.2) h h') : gFr tgO h h' := gFr.of hk (fun q hq e y => by
  obtain ⟨e1, z1, z2⟩ := Hx.cell q hq
  rw [z1] at y
  cases y
  exact z2)
theorem gOne.kck {x : oT} (Hx : gOne Γ de h B x) (hk : gKeep (fun q => q ∈ x.2.2) h h') : gFr (kC Γ) h h' := gFr.of hk (fun q hq e y => by
  obtain ⟨c2, t2, nx2, a2, b2⟩ := Hx
  exact a2.kc q hq e y)
theorem gApart.symm {x y : oT} (a : gApart x y) : gApart y x := fun q hq z => a q z hq
/-- an office beside the others -/
theorem gMX.dup {N : Nat → Int32} {c t nx b : Nat} {fpb : List Nat} (G : gMX Γ de h m V F B ex) (Hb : gOf Γ de h1 N c t b fpb) (I : rIV N c t nx) (hn : nx ≤ B) (hfr : ∀ q ∈ fpb, h q = none) (ka : gAll h h1) : gMX Γ de h1 m V F B ((N, b, fpb) :: ex) := by
  obtain ⟨o, fo, sv, fr, svv, hl, tt, bu, sb, fl, a1, a2, a3, a4, a5, ⟨a6, a7⟩, a8⟩ := G
  have k : gFr (fun _ => False) h h1 := gFr.all ka
  refine ⟨o, fo, sv, fr, svv, hl, tt, bu, sb, fl, ka _ _ (fun z => z) a1, fun x hx => ?_, ?_, a4, a5, ⟨gAL_ft a6 k (fun _ _ z => z), fun q hq x hx => ?_⟩, a8.ft k (fun _ _ z => z)⟩
  · have hx : x ∈ (N, b, fpb) :: (ex ++ ((F 0, o, fo) :: (sv ++ fr))) := hx
    rcases List.mem_cons.mp hx with rfl | z
    · exact ⟨c, t, nx, Hb, I, hn⟩
    · exact (a2 x z).ft k (fun _ _ y => y)
  · show ((N, b, fpb) :: (ex ++ ((F 0, o, fo) :: (sv ++ fr)))).Pairwise gApart
    refine List.pairwise_cons.mpr ⟨fun y hy q hq z => ?_, a3⟩
    obtain ⟨e, e1, -⟩ := (a2 y hy).cell q z
    rw [hfr q hq] at e1
    cases e1
  · have hx : x ∈ (N, b, fpb) :: (ex ++ ((F 0, o, fo) :: (sv ++ fr))) := hx
    rcases List.mem_cons.mp hx with rfl | z
    · intro z9
      obtain ⟨e, e1, -⟩ := gAL_tg a6 q hq
      rw [hfr q z9] at e1
      cases e1
    · exact a7 q hq x z
theorem gMX.drop {x : oT} (G : gMX Γ de h m V F B (x :: ex)) : gMX Γ de h m V F B ex := by
  obtain ⟨o, fo, sv, fr, svv, hl, tt, bu, sb, fl, a1, a2, a3, a4, a5, ⟨a6, a7⟩, a8⟩ := G
  exact ⟨o, fo, sv, fr, svv, hl, tt, bu, sb, fl, a1, fun y hy => a2 y (List.mem_cons_of_mem _ hy), (List.pairwise_cons.mp a3).2, a4, a5, ⟨a6, fun q hq y hy => a7 q hq y (List.mem_cons_of_mem _ hy)⟩, a8⟩
theorem gSet {l1 l2 : List oT} {x x' : oT} {B' : Nat} (hB : B ≤ B') (a2 : ∀ y ∈ l1 ++ x :: l2, gOne Γ de h B y) (a3 : (l1 ++ x :: l2).Pairwise gApart) (Hx : gOne Γ de h' B' x') (hf : ∀ q ∈ x'.2.2, q ∈ x.2.2 ∨ h q = none) (hk : gKeep (fun q => q ∈ x.2.2) h h') : (∀ y ∈ l1 ++ x' :: l2, gOne Γ de h' B' y) ∧ (l1 ++ x' :: l2).Pairwise gApart := by
  have hx := a2 x (List.mem_append_right _ List.mem_cons_self)
  obtain ⟨p1, p2, p3⟩ := List.pairwise_append.mp a3
  obtain ⟨p4, p5⟩ := List.pairwise_cons.mp p2
  have fresh : ∀ y, gOne Γ de h B y → ∀ q ∈ x'.2.2, q ∈ y.2.2 → q ∈ x.2.2 := fun y hy q hq z => (hf q hq).resolve_right (fun w => by
    obtain ⟨e, e1, -⟩ := hy.cell q z
    rw [w] at e1
    cases e1)
  refine ⟨fun y hy => ?_, List.pairwise_append.mpr ⟨p1, List.pairwise_cons.mpr ⟨fun b hb q hq z => ?_, p5⟩, fun a ha b hb q hq z => ?_⟩⟩
  · rcases List.mem_append.mp hy with z | z
    · exact ((a2 y (List.mem_append_left _ z)).keep hx hk (p3 y z x List.mem_cons_self)).mono hB
    · rcases List.mem_cons.mp z with rfl | z
      · exact Hx
      · exact ((a2 y (List.mem_append_right _ (List.mem_cons_of_mem _ z))).keep hx hk (fun q hq w => p4 y z q w hq)).mono hB
  · exact p4 b hb q (fresh b (a2 b (List.mem_append_right _ (List.mem_cons_of_mem _ hb))) q hq z) z
  · rcases List.mem_cons.mp hb with rfl | hb
    · exact p3 a ha x List.mem_cons_self q hq (fresh a (a2 a (List.mem_append_left _ ha)) q z hq)
    · exact p3 a ha b (List.mem_cons_of_mem _ hb) q hq z
theorem tg_TBL {e : va_E} (z : tgT e ∨ tgB e ∨ tgL e) : ¬ tgO e := by
  unfold tgT tgB tgL at z
  unfold tgO
  omega
/-- the rest of the picture when one of its offices is written -/
theorem gSetL {l1 l2 : List oT} {x x' : oT} {fl xs : List Nat} {hl : Nat} (a2 : ∀ y ∈ l1 ++ x :: l2, gOne Γ de h B y) (a6 : gAL Γ de h hl fl xs) (a7 : ∀ q ∈ fl, ∀ y ∈ l1 ++ x :: l2, q ∉ y.2.2) (hf : ∀ q ∈ x'.2.2, q ∈ x.2.2 ∨ h q = none) (hk : gKeep (fun q => q ∈ x.2.2) h h') : gAL Γ de h' hl fl xs ∧ ∀ q ∈ fl, ∀ y ∈ l1 ++ x' :: l2, q ∉ y.2.2 := by
  have hmx : x ∈ l1 ++ x :: l2 := List.mem_append_right _ List.mem_cons_self
  refine ⟨gAL_kp a6 hk (fun q hq => a7 q hq x hmx), fun q hq y hy z => ?_⟩
  rcases List.mem_append.mp hy with w | w
  · exact a7 q hq y (List.mem_append_left _ w) z
  · rcases List.mem_cons.mp w with rfl | w
    · rcases hf q z with v | v
      · exact a7 q hq x hmx v
      · obtain ⟨e, e1, -⟩ := gAL_tg a6 q hq
        rw [v] at e1
        cases e1
    · exact a7 q hq y (List.mem_append_right _ (List.mem_cons_of_mem _ w)) z
/-- the office now, and what its change makes of the picture -/
theorem gMX.op (G : gMX Γ de h m V F B ex) : ∃ o fo nx svv hl tt bu sb, gMc h m o svv hl tt bu (V 10) sb (V 7) (V 8) ∧ gOf Γ de h (F 0) (rc (F 0)) (rtt (F 0)) o fo ∧ rIV (F 0) (rc (F 0)) (rtt (F 0)) nx ∧ nx ≤ B ∧ ∀ (h1 : gHp) (N' : Nat → Int32) (c' t' n' : Nat) (fo' : List Nat) (B' : Nat), B ≤ B' → gOf Γ de h1 N' c' t' o fo' → rIV N' c' t' n' → n' ≤ B' → (∀ q ∈ fo', q ∈ fo ∨ h q = none) → gKeep (fun q => q ∈ fo) h h1 → gMX Γ de h1 m V (fR F 0 N') B' ex ∧ gFr (kC Γ) h h1 := by
  obtain ⟨o, fo, sv, fr, svv, hl, tt, bu, sb, fl, a1, a2, a3, a4, a5, ⟨a6, a7⟩, a8⟩ := G
  have hx := a2 (F 0, o, fo) (List.mem_append_right _ List.mem_cons_self)
  obtain ⟨c, t, nx, b1, b4, b5⟩ := id hx
  have e1 := b4.c_eq
  have e2 := b4.t_eq
  rw [← e1, ← e2] at b1 b4
  refine ⟨o, fo, nx, svv, hl, tt, bu, sb, a1, b1, b4, b5, fun h1 N' c' t' n' fo' B' hB Ho I hn hf hk => ?_⟩
  have kt : gFr tgO h h1 := hx.tgk hk
  obtain ⟨s1, s2⟩ := gSet (x' := (N', o, fo')) hB a2 a3 ⟨c', t', n', Ho, I, hn⟩ hf hk
  obtain ⟨s3, s4⟩ := gSetL (x' := (N', o, fo')) a2 a6 a7 hf hk
  exact ⟨⟨o, fo', sv, fr, svv, hl, tt, bu, sb, fl, kt _ _ a1 (by unfold tgO; show ¬ ((12 : Nat) = 7 ∨ (12 : Nat) = 11 ∨ (12 : Nat) = 106 ∨ (12 : Nat) = 4 ∨ (12 : Nat) = 50 ∨ (12 : Nat) = 6); decide), s1, s2, a4, a5, ⟨s3, s4⟩, a8.ft kt (fun e z => tg_TBL z)⟩, hx.kck hk⟩
/-- the first of the offices beside, and what its change makes of the picture -/
theorem gMX.hd {x : oT} (G : gMX Γ de h m V F B (x :: ex)) : gOne Γ de h B x ∧ (∃ o svv hl tt bu sb, gMc h m o svv hl tt bu (V 10) sb (V 7) (V 8)) ∧ ∀ (h1 : gHp) (x' : oT) (B' : Nat), B ≤ B' → gOne Γ de h1 B' x' → (∀ q ∈ x'.2.2, q ∈ x.2.2 ∨ h q = none) → gKeep (fun q => q ∈ x.2.2) h h1 → gMX Γ de h1 m V F B' (x' :: ex) ∧ gFr (kC Γ) h h1 := by
  obtain ⟨o, fo, sv, fr, svv, hl, tt, bu, sb, fl, a1, a2, a3, a4, a5, ⟨a6, a7⟩, a8⟩ := G
  have hx := a2 x List.mem_cons_self
  refine ⟨hx, ⟨o, svv, hl, tt, bu, sb, a1⟩, fun h1 x' B' hB Ho hf hk => ?_⟩
  have kt : gFr tgO h h1 := hx.tgk hk
  obtain ⟨s1, s2⟩ := gSet (l1 := []) (l2 := ex ++ ((F 0, o, fo) :: (sv ++ fr))) hB a2 a3 Ho hf hk
  obtain ⟨s3, s4⟩ := gSetL (l1 := []) (l2 := ex ++ ((F 0, o, fo) :: (sv ++ fr))) a2 a6 a7 hf hk
  exact ⟨⟨o, fo, sv, fr, svv, hl, tt, bu, sb, fl, kt _ _ a1 (by unfold tgO; show ¬ ((12 : Nat) = 7 ∨ (12 : Nat) = 11 ∨ (12 : Nat) = 106 ∨ (12 : Nat) = 4 ∨ (12 : Nat) = 50 ∨ (12 : Nat) = 6); decide), s1, s2, a4, a5, ⟨s3, s4⟩, a8.ft kt (fun e z => tg_TBL z)⟩, hx.kck hk⟩
/-- a former office more: the list -/
def frN (fr : List oT) (x : oT) : List oT := (if fr.length = 8 then fr.eraseIdx 0 else fr) ++ [x]
theorem frN_len {fr : List oT} {x : oT} (h8 : fr.length ≤ 8) : (frN fr x).length = rMr fr.length := by
  unfold frN rMr
  by_cases e : fr.length = 8
  · rw [if_pos e, if_pos e, List.length_append, List.length_eraseIdx, if_pos (by omega)]
    show fr.length - 1 + 1 = 8
    omega
  · rw [if_neg e, if_neg e, List.length_append]
    rfl
theorem frN_row {fr : List oT} {x : oT} {g : Nat → Int32} (h8 : fr.length ≤ 8) (hr : ∀ i y, fr[i]? = some y → ∀ q, q < 202 → y.1 q = g (202 * i + q)) : ∀ i y, (frN fr x)[i]? = some y → ∀ q, q < 202 → y.1 q = rMem g x.1 fr.length (202 * i + q) := by
  intro i y hi q hq
  unfold frN at hi
  unfold rMem
  by_cases e : fr.length = 8
  · rw [if_pos e] at hi ⊢
    have hl : (fr.eraseIdx 0).length = 7 := by rw [List.length_eraseIdx, if_pos (by omega)]; omega
    unfold rCp
    by_cases h7 : i < 7
    · rw [List.getElem?_append_left (by omega), List.getElem?_eraseIdx, if_neg (by omega)] at hi
      rw [if_neg (by omega)]
      unfold rSh
      rw [if_pos (by omega), hr _ y hi q hq]
      congr 1
      omega
    · rw [List.getElem?_append_right (by omega), hl] at hi
      have : i = 7 := by
        have := (List.getElem?_eq_some_iff.mp hi).1
        simp only [List.length_singleton] at this
        omega
      subst this
      cases hi
      rw [if_pos (by omega)]
      have e9 : 0 + (202 * 7 + q - 1414) = q := by omega
      rw [e9]
  · rw [if_neg e] at hi ⊢
    unfold rCp
    by_cases h7 : i < fr.length
    · rw [List.getElem?_append_left h7] at hi
      rw [if_neg (by omega)]
      exact hr _ y hi q hq
    · rw [List.getElem?_append_right (by omega)] at hi
      have : i = fr.length := by
        have := (List.getElem?_eq_some_iff.mp hi).1
        simp only [List.length_singleton] at this
        omega
      subst this
      rw [Nat.sub_self] at hi
      cases hi
      rw [if_pos (by omega)]
      have e9 : 0 + (202 * fr.length + q - fr.length * 202) = q := by omega
      rw [e9]
theorem frN_map {fr : List oT} {x : oT} : (frN fr x).map (fun y => y.2.1) = (if (fr.map (fun y => y.2.1)).length = 8 then (fr.map (fun y => y.2.1)).eraseIdx 0 else fr.map (fun y => y.2.1)) ++ [x.2.1] := by
  unfold frN
  rw [List.length_map, List.map_append]
  split
  · congr 1
    cases fr <;> rfl
  · rfl
theorem frN_sub (fr : List oT) (x : oT) : ∃ f0, frN fr x = f0 ++ [x] ∧ f0.Sublist fr := by
  unfold frN
  split
  · exact ⟨_, rfl, List.eraseIdx_sublist _ _⟩
  · exact ⟨_, rfl, List.Sublist.refl _⟩
theorem pw_end {l1 l2 l3 : List oT} {x : oT} (hs : l3.Sublist l2) (h : (x :: (l1 ++ l2)).Pairwise gApart) : (l1 ++ (l3 ++ [x])).Pairwise gApart := by
  obtain ⟨p1, p2⟩ := List.pairwise_cons.mp h
  rw [← List.append_assoc]
  refine List.pairwise_append.mpr ⟨p2.sublist (List.Sublist.append (List.Sublist.refl _) hs), List.pairwise_singleton _ _, fun a ha b hb => ?_⟩
  rw [List.mem_singleton.mp hb]
  refine (p1 a ?_).symm
  rcases List.mem_append.mp ha with z | z
  · exact List.mem_append_left _ z
  · exact List.mem_append_right _ (hs.subset z)
theorem pw_mem {l1 l2 l3 : List oT} {x y : oT} (hs : l3.Sublist l2) (hy : y ∈ l1 ++ (l3 ++ [x])) : y ∈ x :: (l1 ++ l2) := by
  rcases List.mem_append.mp hy with z | z
  · exact List.mem_cons_of_mem _ (List.mem_append_left _ z)
  · rcases List.mem_append.mp z with w | w
    · exact List.mem_cons_of_mem _ (List.mem_append_right _ (hs.subset w))
    · rw [List.mem_singleton.mp w]; exact List.mem_cons_self
end GFu
