/-! THE LAW: its 64 rows as the class and the reference answer -/
section GLzh
variable {Γ : gE} {de mi : Nat} {h : gHp} {m o out outD B : Nat} {ad : Nat → Nat} {V : Nat → Int32} {F : Nat → Nat → Int32}
variable {sc i L mc ms qc qs : Nat} {xs : Nat → Int32} {Z : Option Value → gHp → Prop} {ZX : String → gHp → Prop}
variable {d1 d10 sr ss nm ka sm : Nat} {vf : Value} {ks kss : Nat → Nat}
/-- what stays of the start -/
def gHs (Γ : gE) (de mi d1 d10 : Nat) (vf : Value) (sr ss nm ka sm : Nat) (ks kss : Nat → Nat) : Prop := gDi Γ ∧ gPall Γ de mi ∧ gPxs Γ ∧ gPsb Γ d1 d10 vf ∧ gPtx Γ sr ss ∧ gPnm Γ nm ∧ gPkw Γ ka ks kss ∧ gPsw Γ sm ks ∧ gPnc Γ
theorem gMX.v5 {ex : List oT} (H : gMX Γ de h m V F B ex) : V 5 = nI 0 ∨ V 5 = nI 1 := by
  obtain ⟨o, fo, sv, fr, svv, hl, tt, bu, sb, fl, a1, a2, a3, a4, a5, a6, a7⟩ := H
  rcases a4 with ⟨e, -, -⟩ | ⟨e, -⟩
  · exact Or.inl e
  · exact Or.inr e
theorem gMX.v6 {ex : List oT} (H : gMX Γ de h m V F B ex) : ∃ r, r ≤ 8 ∧ V 6 = nI r := by
  obtain ⟨o, fo, sv, fr, svv, hl, tt, bu, sb, fl, a1, a2, a3, a4, a5, a6, a7⟩ := H
  exact ⟨fr.length, a5.2.1, a5.1⟩
theorem gMX.tx9 {ex : List oT} (H : gMX Γ de h m V F B ex) : ∃ (n : Nat) (tx : Nat → Nat), V 10 = nI n ∧ n ≤ 60 ∧ ∀ i, i < n → F 9 i = nI (tx i) ∧ tx i < 128 := by
  obtain ⟨o, fo, sv, fr, svv, hl, tt, bu, sb, fl, a1, a2, a3, a4, a5, a6, a7⟩ := H
  obtain ⟨-, ⟨n, tx, f9, e1, e2, e3, e4⟩, -⟩ := a7
  exact ⟨n, tx, e1, e2, fun i hi => ⟨(e4 i hi).1, (e4 i hi).2.1⟩⟩
theorem gMX.tx11 {ex : List oT} (H : gMX Γ de h m V F B ex) : ∃ (n : Nat) (lx : Nat → Nat), V 12 = nI n ∧ n ≤ 60 ∧ ∀ i, i < n → F 11 i = nI (lx i) ∧ lx i < 128 := by
  obtain ⟨o, fo, sv, fr, svv, hl, tt, bu, sb, fl, a1, a2, a3, a4, a5, a6, a7⟩ := H
  obtain ⟨-, -, lv, lm, xs, e1, e2, e3, e4⟩ := a7
  refine ⟨xs.length, fun i => xs.getD i 0, e3, by omega, fun i hi => ?_⟩
  have e : xs[i]? = some (xs.getD i 0) := by
    rw [List.getD_eq_getElem?_getD, List.getElem?_eq_getElem hi]
    rfl
  exact e4 i _ e
theorem fP_to {V' : Nat → Int32} {F' : Nat → Nat → Int32} {B1 B' : Nat} (hB : B1 ≤ B') : ∀ h1, fP Γ de h m V' F' B1 h1 → (∀ V1 F1, (V1 = V' ∧ F1 = F') → gMO Γ de h1 m V1 F1 B') ∧ gFr (kC Γ) h h1 := fun h1 p => ⟨fun V1 F1 q => by
  rw [q.1, q.2]
  exact p.1.mono hB, p.2⟩
theorem LI.mono {B' : Nat} (I : LI Γ de h m o ad out outD V F B) (hB : B ≤ B') : LI Γ de h m o ad out outD V F B' := ⟨I.1.mono hB, I.2⟩
theorem cV_13 {τ : Int32} {r : Nat} : cV V τ r 13 = τ := by
  unfold cV
  split
  · exact (vU_n (by decide)).trans vU_s
  · exact vU_s
theorem cV_10 {τ : Int32} {r : Nat} : cV V τ r 10 = V 10 := by
  unfold cV
  split
  · exact (vU_n (by decide)).trans (vU_n (by decide))
  · exact vU_n (by decide)
theorem rt1 (a : Int32) : rT a (nI 1) (nI 1) = 0 ∨ rT a (nI 1) (nI 1) = nI 1 := by
  rcases rT_in a (nI 1) (nI 1) with z | z | ⟨-, z⟩ | ⟨-, z⟩
  · exact Or.inl z
  · exact Or.inr z
  · exact absurd z (by decide)
  · exact absurd z (by decide)
theorem rt2 (a b : Int32) : rT a b (nI 1) = 0 ∨ rT a b (nI 1) = nI 1 ∨ rT a b (nI 1) = nI 2 := by
  rcases rT_in a b (nI 1) with z | z | ⟨z, -⟩ | ⟨-, z⟩
  · exact Or.inl z
  · exact Or.inr (Or.inl z)
  · exact Or.inr (Or.inr z)
  · exact absurd z (by decide)
theorem rt3 (a b c : Int32) : rT a b c = 0 ∨ rT a b c = nI 1 ∨ rT a b c = nI 2 ∨ rT a b c = nI 3 := by
  rcases rT_in a b c with z | z | ⟨z, -⟩ | ⟨z, -⟩
  · exact Or.inl z
  · exact Or.inr (Or.inl z)
  · exact Or.inr (Or.inr (Or.inl z))
  · exact Or.inr (Or.inr (Or.inr z))
theorem rt2' (a : Int32) : rT a (nI 1) (nI 1) = 0 ∨ rT a (nI 1) (nI 1) = nI 1 ∨ rT a (nI 1) (nI 1) = nI 2 := rt2 a _
theorem if1 {p : Prop} [Decidable p] : (if p then nI 1 else nI 0) = 0 ∨ (if p then nI 1 else nI 0) = nI 1 := by
  split
  · exact Or.inr rfl
  · exact Or.inl z0
theorem run_vx {R : Nat ⊕ List pcT} {r : Nat} {v : Option Value} {V1 : Nat → Int32} {F1 : Nat → Nat → Int32} (H : runZ V F R r v V1 F1) : v = some (.int (runX (F 0) R)) ∧ V1 13 = runT (F 0) R ∧ V1 10 = nI 0 := by
  obtain ⟨-, h10, -, hm⟩ := H
  cases R with
  | inl e => exact ⟨hm.1, hm.2.1, h10⟩
  | inr cs =>
    obtain ⟨-, hm⟩ := hm
    unfold runX runT
    cases he : exR (F 0) cs 0 with
    | inl i =>
      rw [he] at hm
      simp only [he]
      exact ⟨hm.1, hm.2.1, h10⟩
    | inr N' =>
      rw [he] at hm
      simp only [he]
      exact ⟨hm.1, hm.2.1, h10⟩
theorem runT_in {N : Nat → Int32} {R : Nat ⊕ List pcT} : runT N R = 0 ∨ runT N R = nI 1 ∨ runT N R = nI 2 := by
  unfold runT
  cases R with
  | inl e => exact Or.inr (Or.inl rfl)
  | inr cs =>
    cases he : exR N cs 0 with
    | inl i => simp only [he]; exact Or.inr (Or.inr True.intro)
    | inr N' => simp only [he]; exact Or.inl z0
set_option maxRecDepth 100000 in
theorem lc_0 (H : gHs Γ de mi d1 d10 vf sr ss nm ka sm ks kss) (hsa : gPa Γ .int sc L (fun j => .int (xs j))) (hL : L ≤ 2048) (hi : i + 3 < L) (I : LI Γ de h m o ad out outD V F B) (hB9 : B ≤ 9000) {n : Nat} (h10 : V 10 = nI n) (hn60 : n ≤ 60) (K : ∀ h' V1 F1 n', V1 10 = nI n' → LI Γ de h' m o ad out outD V1 F1 (B + 12) → G Γ M_L_law 32 mc ms Z ZX qc (qs + 520 * n') 3368 (L0 sc m o out outD i) [] h') : G Γ M_L_law 32 mc ms Z ZX (qc + 1000) (qs + 13600 + 520 * n) 316 (L0 sc m o out outD i) [] h := by
  obtain ⟨hd, hpl, hp, hps, hpt, hnm, hkw, hsw, hnc⟩ := H
  obtain ⟨nx, o9, svv, hl, tt, bu, sb, fo, hm, HO, IV, hnx⟩ := I.1.ro
  obtain ⟨r, hr8, h6⟩ := I.1.v6
  have hb9 : (if nI (fl0 (xs (i + 3))) = 0 then nI 0 else nI 1) = nI (fl0 (xs (i + 3))) := by
    rcases (by have := fl0_le (xs (i + 3)); omega : fl0 (xs (i + 3)) = 0 ∨ fl0 (xs (i + 3)) = 1) with z | z <;> rw [z] <;> decide
  have R := rp_accept (Γ := Γ) (o := o) (ad := ad) (V := V) IV.hc IV.h3 (xs (i + 1)) (xs (i + 2)) (nI (fl0 (xs (i + 3)))) hr8 h6
  rw [hb9] at R
  refine g_weak (rc' := qc + 1000) (rs' := qs + 520 * n + 13000) (L' := L0 sc m o out outD i) ⟨rfl, rfl, rfl, rfl, rfl, rfl, True.intro⟩ (Nat.le_refl _) (by omega) ?_
  exact lq_0 hd hnc hsa hL hi I (fs := _) hm (fb_accept hp hpl I.1 hB9 (xs (i + 1)) (xs (i + 2)) (fl0_le _) h6 hr8) (fP_to (by omega)) (mE_ofC (R) ⟨rfl, rfl, rfl⟩) (by first | exact rt1 _ | exact rt2 _ _ | exact rt3 _ _ _ | exact if1) (fun V1 F1 q => by first | exact (congrFun q.1 13).trans vU_s | exact (congrFun q.1 13).trans cV_13 | exact (congrFun q.1 13).trans ((vU_n (by decide)).trans vU_s)) (fun h' V1 F1 q I' => K h' V1 F1 n (by first | exact (congrFun q.1 10).trans ((vU_n (by decide)).trans h10) | exact (congrFun q.1 10).trans (cV_10.trans h10) | exact (congrFun q.1 10).trans ((vU_n (by decide)).trans ((vU_n (by decide)).trans h10)) | exact (congrFun q.1 10).trans vU_s) I')
set_option maxRecDepth 100000 in
theorem lc_1 (H : gHs Γ de mi d1 d10 vf sr ss nm ka sm ks kss) (hsa : gPa Γ .int sc L (fun j => .int (xs j))) (hL : L ≤ 2048) (hi : i + 3 < L) (I : LI Γ de h m o ad out outD V F B) (hB9 : B ≤ 9000) {n : Nat} (h10 : V 10 = nI n) (hn60 : n ≤ 60) (K : ∀ h' V1 F1 n', V1 10 = nI n' → LI Γ de h' m o ad out outD V1 F1 (B + 12) → G Γ M_L_law 32 mc ms Z ZX qc (qs + 520 * n') 3368 (L0 sc m o out outD i) [] h') : G Γ M_L_law 32 mc ms Z ZX (qc + 1000) (qs + 13600 + 520 * n) 412 (L0 sc m o out outD i) [] h := by
  obtain ⟨hd, hpl, hp, hps, hpt, hnm, hkw, hsw, hnc⟩ := H
  obtain ⟨nx, o9, svv, hl, tt, bu, sb, fo, hm, HO, IV, hnx⟩ := I.1.ro
  obtain ⟨r, hr8, h6⟩ := I.1.v6
  refine g_weak (rc' := qc + 1000) (rs' := qs + 520 * n + 13000) (L' := L0 sc m o out outD i) ⟨rfl, rfl, rfl, rfl, rfl, rfl, True.intro⟩ (Nat.le_refl _) (by omega) ?_
  exact lq_1 hd hnc hsa hL hi I (fs := _) hm (fb_addPrefix hp hpl I.1 hB9 ((xs (i + 1))) ((xs (i + 2))) ((xs (i + 3))) h6 hr8) (fP_to (by omega)) (mE_ofC (rp_addPrefix IV.ht IV.h4 ((xs (i + 1))) ((xs (i + 2))) ((xs (i + 3))) hr8 h6) ⟨rfl, rfl, rfl⟩) (by first | exact rt1 _ | exact rt2 _ _ | exact rt3 _ _ _ | exact if1) (fun V1 F1 q => by first | exact (congrFun q.1 13).trans vU_s | exact (congrFun q.1 13).trans cV_13 | exact (congrFun q.1 13).trans ((vU_n (by decide)).trans vU_s)) (fun h' V1 F1 q I' => K h' V1 F1 n (by first | exact (congrFun q.1 10).trans ((vU_n (by decide)).trans h10) | exact (congrFun q.1 10).trans (cV_10.trans h10) | exact (congrFun q.1 10).trans ((vU_n (by decide)).trans ((vU_n (by decide)).trans h10)) | exact (congrFun q.1 10).trans vU_s) I')
set_option maxRecDepth 100000 in
theorem lc_2 (H : gHs Γ de mi d1 d10 vf sr ss nm ka sm ks kss) (hsa : gPa Γ .int sc L (fun j => .int (xs j))) (hL : L ≤ 2048) (hi : i + 3 < L) (I : LI Γ de h m o ad out outD V F B) (hB9 : B ≤ 9000) {n : Nat} (h10 : V 10 = nI n) (hn60 : n ≤ 60) (K : ∀ h' V1 F1 n', V1 10 = nI n' → LI Γ de h' m o ad out outD V1 F1 (B + 12) → G Γ M_L_law 32 mc ms Z ZX qc (qs + 520 * n') 3368 (L0 sc m o out outD i) [] h') : G Γ M_L_law 32 mc ms Z ZX (qc + 1000) (qs + 13600 + 520 * n) 492 (L0 sc m o out outD i) [] h := by
  obtain ⟨hd, hpl, hp, hps, hpt, hnm, hkw, hsw, hnc⟩ := H
  obtain ⟨nx, o9, svv, hl, tt, bu, sb, fo, hm, HO, IV, hnx⟩ := I.1.ro
  obtain ⟨r, hr8, h6⟩ := I.1.v6
  refine g_weak (rc' := qc + 1000) (rs' := qs + 520 * n + 13000) (L' := L0 sc m o out outD i) ⟨rfl, rfl, rfl, rfl, rfl, rfl, True.intro⟩ (Nat.le_refl _) (by omega) ?_
  exact lq_2 hd hnc hsa hL hi I (fs := _) hm (fb_removePrefix hp hpl I.1 hB9 ((xs (i + 1))) ((xs (i + 2))) h6 hr8) (fP_to (by omega)) (mE_ofC (rp_removePrefix IV.ht IV.h4 ((xs (i + 1))) ((xs (i + 2))) hr8 h6) ⟨rfl, rfl, rfl⟩) (by first | exact rt1 _ | exact rt2 _ _ | exact rt3 _ _ _ | exact if1) (fun V1 F1 q => by first | exact (congrFun q.1 13).trans vU_s | exact (congrFun q.1 13).trans cV_13 | exact (congrFun q.1 13).trans ((vU_n (by decide)).trans vU_s)) (fun h' V1 F1 q I' => K h' V1 F1 n (by first | exact (congrFun q.1 10).trans ((vU_n (by decide)).trans h10) | exact (congrFun q.1 10).trans (cV_10.trans h10) | exact (congrFun q.1 10).trans ((vU_n (by decide)).trans ((vU_n (by decide)).trans h10)) | exact (congrFun q.1 10).trans vU_s) I')
set_option maxRecDepth 100000 in
theorem lc_3 (H : gHs Γ de mi d1 d10 vf sr ss nm ka sm ks kss) (hsa : gPa Γ .int sc L (fun j => .int (xs j))) (hL : L ≤ 2048) (hi : i + 3 < L) (I : LI Γ de h m o ad out outD V F B) (hB9 : B ≤ 9000) {n : Nat} (h10 : V 10 = nI n) (hn60 : n ≤ 60) (K : ∀ h' V1 F1 n', V1 10 = nI n' → LI Γ de h' m o ad out outD V1 F1 (B + 12) → G Γ M_L_law 32 mc ms Z ZX qc (qs + 520 * n') 3368 (L0 sc m o out outD i) [] h') : G Γ M_L_law 32 mc ms Z ZX (qc + 1000) (qs + 13600 + 520 * n) 560 (L0 sc m o out outD i) [] h := by
  obtain ⟨hd, hpl, hp, hps, hpt, hnm, hkw, hsw, hnc⟩ := H
  obtain ⟨nx, o9, svv, hl, tt, bu, sb, fo, hm, HO, IV, hnx⟩ := I.1.ro
  obtain ⟨r, hr8, h6⟩ := I.1.v6
  refine g_weak (rc' := qc + 1000) (rs' := qs + 520 * n + 13000) (L' := L0 sc m o out outD i) ⟨rfl, rfl, rfl, rfl, rfl, rfl, True.intro⟩ (Nat.le_refl _) (by omega) ?_
  exact lq_3 hd hnc hsa hL hi I (fs := _) hm (fb_sort hp hpl I.1 hB9 ((xs (i + 1))) h6 hr8) (fP_to (by omega)) (mE_ofC (rp_sort IV.hc IV.h3 IV.ht IV.h4 IV.OK ((xs (i + 1))) hr8 h6) ⟨rfl, rfl, rfl⟩) (by first | exact rt1 _ | exact rt2 _ _ | exact rt3 _ _ _ | exact if1) (fun V1 F1 q => by first | exact (congrFun q.1 13).trans vU_s | exact (congrFun q.1 13).trans cV_13 | exact (congrFun q.1 13).trans ((vU_n (by decide)).trans vU_s)) (fun h' V1 F1 q I' => K h' V1 F1 n (by first | exact (congrFun q.1 10).trans ((vU_n (by decide)).trans h10) | exact (congrFun q.1 10).trans (cV_10.trans h10) | exact (congrFun q.1 10).trans ((vU_n (by decide)).trans ((vU_n (by decide)).trans h10)) | exact (congrFun q.1 10).trans vU_s) I')
set_option maxRecDepth 100000 in
theorem lc_4 (H : gHs Γ de mi d1 d10 vf sr ss nm ka sm ks kss) (hsa : gPa Γ .int sc L (fun j => .int (xs j))) (hL : L ≤ 2048) (hi : i + 3 < L) (I : LI Γ de h m o ad out outD V F B) (hB9 : B ≤ 9000) {n : Nat} (h10 : V 10 = nI n) (hn60 : n ≤ 60) (K : ∀ h' V1 F1 n', V1 10 = nI n' → LI Γ de h' m o ad out outD V1 F1 (B + 12) → G Γ M_L_law 32 mc ms Z ZX qc (qs + 520 * n') 3368 (L0 sc m o out outD i) [] h') : G Γ M_L_law 32 mc ms Z ZX (qc + 1000) (qs + 13600 + 520 * n) 616 (L0 sc m o out outD i) [] h := by
  obtain ⟨hd, hpl, hp, hps, hpt, hnm, hkw, hsw, hnc⟩ := H
  obtain ⟨nx, o9, svv, hl, tt, bu, sb, fo, hm, HO, IV, hnx⟩ := I.1.ro
  obtain ⟨r, hr8, h6⟩ := I.1.v6
  refine g_weak (rc' := qc + 1000) (rs' := qs + 520 * n + 13000) (L' := L0 sc m o out outD i) ⟨rfl, rfl, rfl, rfl, rfl, rfl, True.intro⟩ (Nat.le_refl _) (by omega) ?_
  exact lq_4 hd hnc hsa hL hi I (fs := _) hm (fN_of (fb_sortAll hp hpl I.1 hB9 h6 hr8)) (fP_to (by omega)) (mE_ofC (rp_sortAll IV.hc IV.h3 IV.ht IV.h4 IV.OK hr8 h6) ⟨rfl, rfl, rfl⟩) (fun h' V1 F1 q I' => K h' V1 F1 n (by first | exact (congrFun q.1 10).trans ((vU_n (by decide)).trans h10) | exact (congrFun q.1 10).trans (cV_10.trans h10) | exact (congrFun q.1 10).trans ((vU_n (by decide)).trans ((vU_n (by decide)).trans h10)) | exact (congrFun q.1 10).trans vU_s) I')
set_option maxRecDepth 100000 in
theorem lc_5 (H : gHs Γ de mi d1 d10 vf sr ss nm ka sm ks kss) (hsa : gPa Γ .int sc L (fun j => .int (xs j))) (hL : L ≤ 2048) (hi : i + 3 < L) (I : LI Γ de h m o ad out outD V F B) (hB9 : B ≤ 9000) {n : Nat} (h10 : V 10 = nI n) (hn60 : n ≤ 60) (K : ∀ h' V1 F1 n', V1 10 = nI n' → LI Γ de h' m o ad out outD V1 F1 (B + 12) → G Γ M_L_law 32 mc ms Z ZX qc (qs + 520 * n') 3368 (L0 sc m o out outD i) [] h') : G Γ M_L_law 32 mc ms Z ZX (qc + 1000) (qs + 13600 + 520 * n) 629 (L0 sc m o out outD i) [] h := by
  obtain ⟨hd, hpl, hp, hps, hpt, hnm, hkw, hsw, hnc⟩ := H
  obtain ⟨nx, o9, svv, hl, tt, bu, sb, fo, hm, HO, IV, hnx⟩ := I.1.ro
  obtain ⟨r, hr8, h6⟩ := I.1.v6
  refine g_weak (rc' := qc + 1000) (rs' := qs + 520 * n + 13000) (L' := L0 sc m o out outD i) ⟨rfl, rfl, rfl, rfl, rfl, rfl, True.intro⟩ (Nat.le_refl _) (by omega) ?_
  exact lq_5 hd hnc hsa hL hi I (fs := _) hm (fb_place hp hpl I.1 hB9 ((xs (i + 1))) ((xs (i + 2))) h6 hr8) (fP_to (by omega)) (mE_ofC (rp_place IV.hc IV.h3 IV.OK ((xs (i + 1))) ((xs (i + 2))) hr8 h6) ⟨rfl, rfl, rfl⟩) (by first | exact rt1 _ | exact rt2 _ _ | exact rt3 _ _ _ | exact if1) (fun V1 F1 q => by first | exact (congrFun q.1 13).trans vU_s | exact (congrFun q.1 13).trans cV_13 | exact (congrFun q.1 13).trans ((vU_n (by decide)).trans vU_s)) (fun h' V1 F1 q I' => K h' V1 F1 n (by first | exact (congrFun q.1 10).trans ((vU_n (by decide)).trans h10) | exact (congrFun q.1 10).trans (cV_10.trans h10) | exact (congrFun q.1 10).trans ((vU_n (by decide)).trans ((vU_n (by decide)).trans h10)) | exact (congrFun q.1 10).trans vU_s) I')
set_option maxRecDepth 100000 in
theorem lc_6 (H : gHs Γ de mi d1 d10 vf sr ss nm ka sm ks kss) (hsa : gPa Γ .int sc L (fun j => .int (xs j))) (hL : L ≤ 2048) (hi : i + 3 < L) (I : LI Γ de h m o ad out outD V F B) (hB9 : B ≤ 9000) {n : Nat} (h10 : V 10 = nI n) (hn60 : n ≤ 60) (K : ∀ h' V1 F1 n', V1 10 = nI n' → LI Γ de h' m o ad out outD V1 F1 (B + 12) → G Γ M_L_law 32 mc ms Z ZX qc (qs + 520 * n') 3368 (L0 sc m o out outD i) [] h') : G Γ M_L_law 32 mc ms Z ZX (qc + 1000) (qs + 13600 + 520 * n) 697 (L0 sc m o out outD i) [] h := by
  obtain ⟨hd, hpl, hp, hps, hpt, hnm, hkw, hsw, hnc⟩ := H
  obtain ⟨nx, o9, svv, hl, tt, bu, sb, fo, hm, HO, IV, hnx⟩ := I.1.ro
  obtain ⟨r, hr8, h6⟩ := I.1.v6
  refine g_weak (rc' := qc + 1000) (rs' := qs + 520 * n + 13000) (L' := L0 sc m o out outD i) ⟨rfl, rfl, rfl, rfl, rfl, rfl, True.intro⟩ (Nat.le_refl _) (by omega) ?_
  exact lq_6 hd hnc hsa hL hi I (fs := _) hm (fb_pull hp hpl I.1 hB9 ((xs (i + 1))) h6 hr8) (fP_to (by omega)) (mE_ofC (rp_pull IV.hc IV.h3 ((xs (i + 1))) hr8 h6) ⟨rfl, rfl, rfl⟩) (by first | exact rt1 _ | exact rt2 _ _ | exact rt3 _ _ _ | exact if1) (fun V1 F1 q => by first | exact (congrFun q.1 13).trans vU_s | exact (congrFun q.1 13).trans cV_13 | exact (congrFun q.1 13).trans ((vU_n (by decide)).trans vU_s)) (fun h' V1 F1 q I' => K h' V1 F1 n (by first | exact (congrFun q.1 10).trans ((vU_n (by decide)).trans h10) | exact (congrFun q.1 10).trans (cV_10.trans h10) | exact (congrFun q.1 10).trans ((vU_n (by decide)).trans ((vU_n (by decide)).trans h10)) | exact (congrFun q.1 10).trans vU_s) I')
set_option maxRecDepth 100000 in
theorem lc_7 (H : gHs Γ de mi d1 d10 vf sr ss nm ka sm ks kss) (hsa : gPa Γ .int sc L (fun j => .int (xs j))) (hL : L ≤ 2048) (hi : i + 3 < L) (I : LI Γ de h m o ad out outD V F B) (hB9 : B ≤ 9000) {n : Nat} (h10 : V 10 = nI n) (hn60 : n ≤ 60) (K : ∀ h' V1 F1 n', V1 10 = nI n' → LI Γ de h' m o ad out outD V1 F1 (B + 12) → G Γ M_L_law 32 mc ms Z ZX qc (qs + 520 * n') 3368 (L0 sc m o out outD i) [] h') : G Γ M_L_law 32 mc ms Z ZX (qc + 1000) (qs + 13600 + 520 * n) 753 (L0 sc m o out outD i) [] h := by
  obtain ⟨hd, hpl, hp, hps, hpt, hnm, hkw, hsw, hnc⟩ := H
  obtain ⟨nx, o9, svv, hl, tt, bu, sb, fo, hm, HO, IV, hnx⟩ := I.1.ro
  obtain ⟨r, hr8, h6⟩ := I.1.v6
  refine g_weak (rc' := qc + 1000) (rs' := qs + 520 * n + 13000) (L' := L0 sc m o out outD i) ⟨rfl, rfl, rfl, rfl, rfl, rfl, True.intro⟩ (Nat.le_refl _) (by omega) ?_
  exact lq_7 hd hnc hsa hL hi I (fs := _) hm (fb_setCutoff hp hpl I.1 hB9 ((xs (i + 1))) ((xs (i + 2))) h6 hr8) (fP_to (by omega)) (mE_ofC (rp_setCutoff ((xs (i + 1))) ((xs (i + 2))) hr8 h6) ⟨rfl, rfl, rfl⟩) (by first | exact rt1 _ | exact rt2 _ _ | exact rt3 _ _ _ | exact if1) (fun V1 F1 q => by first | exact (congrFun q.1 13).trans vU_s | exact (congrFun q.1 13).trans cV_13 | exact (congrFun q.1 13).trans ((vU_n (by decide)).trans vU_s)) (fun h' V1 F1 q I' => K h' V1 F1 n (by first | exact (congrFun q.1 10).trans ((vU_n (by decide)).trans h10) | exact (congrFun q.1 10).trans (cV_10.trans h10) | exact (congrFun q.1 10).trans ((vU_n (by decide)).trans ((vU_n (by decide)).trans h10)) | exact (congrFun q.1 10).trans vU_s) I')
set_option maxRecDepth 100000 in
theorem lc_8 (H : gHs Γ de mi d1 d10 vf sr ss nm ka sm ks kss) (hsa : gPa Γ .int sc L (fun j => .int (xs j))) (hL : L ≤ 2048) (hi : i + 3 < L) (I : LI Γ de h m o ad out outD V F B) (hB9 : B ≤ 9000) {n : Nat} (h10 : V 10 = nI n) (hn60 : n ≤ 60) (K : ∀ h' V1 F1 n', V1 10 = nI n' → LI Γ de h' m o ad out outD V1 F1 (B + 12) → G Γ M_L_law 32 mc ms Z ZX qc (qs + 520 * n') 3368 (L0 sc m o out outD i) [] h') : G Γ M_L_law 32 mc ms Z ZX (qc + 1000) (qs + 13600 + 520 * n) 821 (L0 sc m o out outD i) [] h := by
  obtain ⟨hd, hpl, hp, hps, hpt, hnm, hkw, hsw, hnc⟩ := H
  obtain ⟨nx, o9, svv, hl, tt, bu, sb, fo, hm, HO, IV, hnx⟩ := I.1.ro
  obtain ⟨r, hr8, h6⟩ := I.1.v6
  refine g_weak (rc' := qc + 1000) (rs' := qs + 520 * n + 13000) (L' := L0 sc m o out outD i) ⟨rfl, rfl, rfl, rfl, rfl, rfl, True.intro⟩ (Nat.le_refl _) (by omega) ?_
  exact lq_8 hd hnc hsa hL hi I (fs := _) hm (fb_setDeparture hp hpl I.1 hB9 ((xs (i + 1))) ((xs (i + 2))) h6 hr8) (fP_to (by omega)) (mE_ofC (rp_setDeparture ((xs (i + 1))) ((xs (i + 2))) hr8 h6) ⟨rfl, rfl, rfl⟩) (by first | exact rt1 _ | exact rt2 _ _ | exact rt3 _ _ _ | exact if1) (fun V1 F1 q => by first | exact (congrFun q.1 13).trans vU_s | exact (congrFun q.1 13).trans cV_13 | exact (congrFun q.1 13).trans ((vU_n (by decide)).trans vU_s)) (fun h' V1 F1 q I' => K h' V1 F1 n (by first | exact (congrFun q.1 10).trans ((vU_n (by decide)).trans h10) | exact (congrFun q.1 10).trans (cV_10.trans h10) | exact (congrFun q.1 10).trans ((vU_n (by decide)).trans ((vU_n (by decide)).trans h10)) | exact (congrFun q.1 10).trans vU_s) I')
set_option maxRecDepth 100000 in
theorem lc_9 (H : gHs Γ de mi d1 d10 vf sr ss nm ka sm ks kss) (hsa : gPa Γ .int sc L (fun j => .int (xs j))) (hL : L ≤ 2048) (hi : i + 3 < L) (I : LI Γ de h m o ad out outD V F B) (hB9 : B ≤ 9000) {n : Nat} (h10 : V 10 = nI n) (hn60 : n ≤ 60) (K : ∀ h' V1 F1 n', V1 10 = nI n' → LI Γ de h' m o ad out outD V1 F1 (B + 12) → G Γ M_L_law 32 mc ms Z ZX qc (qs + 520 * n') 3368 (L0 sc m o out outD i) [] h') : G Γ M_L_law 32 mc ms Z ZX (qc + 1000) (qs + 13600 + 520 * n) 889 (L0 sc m o out outD i) [] h := by
  obtain ⟨hd, hpl, hp, hps, hpt, hnm, hkw, hsw, hnc⟩ := H
  obtain ⟨nx, o9, svv, hl, tt, bu, sb, fo, hm, HO, IV, hnx⟩ := I.1.ro
  obtain ⟨r, hr8, h6⟩ := I.1.v6
  refine g_weak (rc' := qc + 1000) (rs' := qs + 520 * n + 13000) (L' := L0 sc m o out outD i) ⟨rfl, rfl, rfl, rfl, rfl, rfl, True.intro⟩ (Nat.le_refl _) (by omega) ?_
  exact lq_9 hd hnc hsa hL hi I (fs := _) hm (fb_pass hp hpl I.1 hB9 ((xs (i + 1))) h6 hr8) (fP_to (by omega)) (mE_ofC (rp_pass IV.gd ((xs (i + 1))) hr8 h6) ⟨rfl, rfl, rfl⟩) (by first | exact rt1 _ | exact rt2 _ _ | exact rt3 _ _ _ | exact if1) (fun V1 F1 q => by first | exact (congrFun q.1 13).trans vU_s | exact (congrFun q.1 13).trans cV_13 | exact (congrFun q.1 13).trans ((vU_n (by decide)).trans vU_s)) (fun h' V1 F1 q I' => K h' V1 F1 n (by first | exact (congrFun q.1 10).trans ((vU_n (by decide)).trans h10) | exact (congrFun q.1 10).trans (cV_10.trans h10) | exact (congrFun q.1 10).trans ((vU_n (by decide)).trans ((vU_n (by decide)).trans h10)) | exact (congrFun q.1 10).trans vU_s) I')
set_option maxRecDepth 100000 in
theorem lc_10 (H : gHs Γ de mi d1 d10 vf sr ss nm ka sm ks kss) (hsa : gPa Γ .int sc L (fun j => .int (xs j))) (hL : L ≤ 2048) (hi : i + 3 < L) (I : LI Γ de h m o ad out outD V F B) (hB9 : B ≤ 9000) {n : Nat} (h10 : V 10 = nI n) (hn60 : n ≤ 60) (K : ∀ h' V1 F1 n', V1 10 = nI n' → LI Γ de h' m o ad out outD V1 F1 (B + 12) → G Γ M_L_law 32 mc ms Z ZX qc (qs + 520 * n') 3368 (L0 sc m o out outD i) [] h') : G Γ M_L_law 32 mc ms Z ZX (qc + 1000) (qs + 13600 + 520 * n) 945 (L0 sc m o out outD i) [] h := by
  obtain ⟨hd, hpl, hp, hps, hpt, hnm, hkw, hsw, hnc⟩ := H
  obtain ⟨nx, o9, svv, hl, tt, bu, sb, fo, hm, HO, IV, hnx⟩ := I.1.ro
  obtain ⟨r, hr8, h6⟩ := I.1.v6
  refine g_weak (rc' := qc + 1000) (rs' := qs + 520 * n + 13000) (L' := L0 sc m o out outD i) ⟨rfl, rfl, rfl, rfl, rfl, rfl, True.intro⟩ (Nat.le_refl _) (by omega) ?_
  exact lq_10 hd hnc hsa hL hi I (fs := _) hm (fa_hour I.1 hB9) (fP_to (by omega)) (mE_ofC (r_hour ) ⟨rfl, rfl, rfl⟩) (fun h' V1 F1 q I' => K h' V1 F1 n (by first | exact (congrFun q.1 10).trans ((vU_n (by decide)).trans h10) | exact (congrFun q.1 10).trans (cV_10.trans h10) | exact (congrFun q.1 10).trans ((vU_n (by decide)).trans ((vU_n (by decide)).trans h10)) | exact (congrFun q.1 10).trans vU_s) I')
set_option maxRecDepth 100000 in
theorem lc_11 (H : gHs Γ de mi d1 d10 vf sr ss nm ka sm ks kss) (hsa : gPa Γ .int sc L (fun j => .int (xs j))) (hL : L ≤ 2048) (hi : i + 3 < L) (I : LI Γ de h m o ad out outD V F B) (hB9 : B ≤ 9000) {n : Nat} (h10 : V 10 = nI n) (hn60 : n ≤ 60) (K : ∀ h' V1 F1 n', V1 10 = nI n' → LI Γ de h' m o ad out outD V1 F1 (B + 12) → G Γ M_L_law 32 mc ms Z ZX qc (qs + 520 * n') 3368 (L0 sc m o out outD i) [] h') : G Γ M_L_law 32 mc ms Z ZX (qc + 1000) (qs + 13600 + 520 * n) 958 (L0 sc m o out outD i) [] h := by
  obtain ⟨hd, hpl, hp, hps, hpt, hnm, hkw, hsw, hnc⟩ := H
  obtain ⟨nx, o9, svv, hl, tt, bu, sb, fo, hm, HO, IV, hnx⟩ := I.1.ro
  obtain ⟨r, hr8, h6⟩ := I.1.v6
  refine g_weak (rc' := qc + 1000) (rs' := qs + 520 * n + 13000) (L' := L0 sc m o out outD i) ⟨rfl, rfl, rfl, rfl, rfl, rfl, True.intro⟩ (Nat.le_refl _) (by omega) ?_
  exact lq_11 hd hnc hsa hL hi I (fs := _) hm (fa_day I.1 hB9) (fP_to (by omega)) (mE_ofC (r_day ) ⟨rfl, rfl, rfl⟩) (fun h' V1 F1 q I' => K h' V1 F1 n (by first | exact (congrFun q.1 10).trans ((vU_n (by decide)).trans h10) | exact (congrFun q.1 10).trans (cV_10.trans h10) | exact (congrFun q.1 10).trans ((vU_n (by decide)).trans ((vU_n (by decide)).trans h10)) | exact (congrFun q.1 10).trans vU_s) I')
set_option maxRecDepth 100000 in
theorem lc_12 (H : gHs Γ de mi d1 d10 vf sr ss nm ka sm ks kss) (hsa : gPa Γ .int sc L (fun j => .int (xs j))) (hL : L ≤ 2048) (hi : i + 3 < L) (I : LI Γ de h m o ad out outD V F B) (hB9 : B ≤ 9000) {n : Nat} (h10 : V 10 = nI n) (hn60 : n ≤ 60) (K : ∀ h' V1 F1 n', V1 10 = nI n' → LI Γ de h' m o ad out outD V1 F1 (B + 12) → G Γ M_L_law 32 mc ms Z ZX qc (qs + 520 * n') 3368 (L0 sc m o out outD i) [] h') : G Γ M_L_law 32 mc ms Z ZX (qc + 1000) (qs + 13600 + 520 * n) 971 (L0 sc m o out outD i) [] h := by
  obtain ⟨hd, hpl, hp, hps, hpt, hnm, hkw, hsw, hnc⟩ := H
  obtain ⟨nx, o9, svv, hl, tt, bu, sb, fo, hm, HO, IV, hnx⟩ := I.1.ro
  obtain ⟨r, hr8, h6⟩ := I.1.v6
  refine g_weak (rc' := qc + 1000) (rs' := qs + 520 * n + 13000) (L' := L0 sc m o out outD i) ⟨rfl, rfl, rfl, rfl, rfl, rfl, True.intro⟩ (Nat.le_refl _) (by omega) ?_
  exact lq_12 hd hnc hsa hL hi I (fs := _) hm (fa_letterCount I.1 hB9) (fP_to (by omega)) (mE_ofC (r_letterCount ) ⟨rfl, rfl, rfl⟩) (fun h' V1 F1 q I' => K h' V1 F1 n (by first | exact (congrFun q.1 10).trans ((vU_n (by decide)).trans h10) | exact (congrFun q.1 10).trans (cV_10.trans h10) | exact (congrFun q.1 10).trans ((vU_n (by decide)).trans ((vU_n (by decide)).trans h10)) | exact (congrFun q.1 10).trans vU_s) I')
set_option maxRecDepth 100000 in
theorem lc_13 (H : gHs Γ de mi d1 d10 vf sr ss nm ka sm ks kss) (hsa : gPa Γ .int sc L (fun j => .int (xs j))) (hL : L ≤ 2048) (hi : i + 3 < L) (I : LI Γ de h m o ad out outD V F B) (hB9 : B ≤ 9000) {n : Nat} (h10 : V 10 = nI n) (hn60 : n ≤ 60) (K : ∀ h' V1 F1 n', V1 10 = nI n' → LI Γ de h' m o ad out outD V1 F1 (B + 12) → G Γ M_L_law 32 mc ms Z ZX qc (qs + 520 * n') 3368 (L0 sc m o out outD i) [] h') : G Γ M_L_law 32 mc ms Z ZX (qc + 1000) (qs + 13600 + 520 * n) 984 (L0 sc m o out outD i) [] h := by
  obtain ⟨hd, hpl, hp, hps, hpt, hnm, hkw, hsw, hnc⟩ := H
  obtain ⟨nx, o9, svv, hl, tt, bu, sb, fo, hm, HO, IV, hnx⟩ := I.1.ro
  obtain ⟨r, hr8, h6⟩ := I.1.v6
  refine g_weak (rc' := qc + 1000) (rs' := qs + 520 * n + 13000) (L' := L0 sc m o out outD i) ⟨rfl, rfl, rfl, rfl, rfl, rfl, True.intro⟩ (Nat.le_refl _) (by omega) ?_
  exact lq_13 hd hnc hsa hL hi I (fs := _) hm (fa_isPresent I.1 hB9 ((xs (i + 1)))) (fP_to (by omega)) (mE_ofC (rp_isPresent IV.hc IV.h3 ((xs (i + 1)))) ⟨rfl, rfl, rfl⟩) (fun h' V1 F1 q I' => K h' V1 F1 n (by first | exact (congrFun q.1 10).trans ((vU_n (by decide)).trans h10) | exact (congrFun q.1 10).trans (cV_10.trans h10) | exact (congrFun q.1 10).trans ((vU_n (by decide)).trans ((vU_n (by decide)).trans h10)) | exact (congrFun q.1 10).trans vU_s) I')
set_option maxRecDepth 100000 in
theorem lc_14 (H : gHs Γ de mi d1 d10 vf sr ss nm ka sm ks kss) (hsa : gPa Γ .int sc L (fun j => .int (xs j))) (hL : L ≤ 2048) (hi : i + 3 < L) (I : LI Γ de h m o ad out outD V F B) (hB9 : B ≤ 9000) {n : Nat} (h10 : V 10 = nI n) (hn60 : n ≤ 60) (K : ∀ h' V1 F1 n', V1 10 = nI n' → LI Γ de h' m o ad out outD V1 F1 (B + 12) → G Γ M_L_law 32 mc ms Z ZX qc (qs + 520 * n') 3368 (L0 sc m o out outD i) [] h') : G Γ M_L_law 32 mc ms Z ZX (qc + 1000) (qs + 13600 + 520 * n) 1009 (L0 sc m o out outD i) [] h := by
  obtain ⟨hd, hpl, hp, hps, hpt, hnm, hkw, hsw, hnc⟩ := H
  obtain ⟨nx, o9, svv, hl, tt, bu, sb, fo, hm, HO, IV, hnx⟩ := I.1.ro
  obtain ⟨r, hr8, h6⟩ := I.1.v6
  refine g_weak (rc' := qc + 1000) (rs' := qs + 520 * n + 13000) (L' := L0 sc m o out outD i) ⟨rfl, rfl, rfl, rfl, rfl, rfl, True.intro⟩ (Nat.le_refl _) (by omega) ?_
  exact lq_14 hd hnc hsa hL hi I (fs := _) hm (fa_idAt hp I.1 hB9 ((xs (i + 1)))) (fP_to (by omega)) (mE_ofC (rp_idAt IV.hc IV.h3 ((xs (i + 1)))) ⟨rfl, rfl, rfl⟩) (by first | exact rt1 _ | exact rt2 _ _ | exact rt3 _ _ _ | exact if1) (fun V1 F1 q => by first | exact (congrFun q.1 13).trans vU_s | exact (congrFun q.1 13).trans cV_13 | exact (congrFun q.1 13).trans ((vU_n (by decide)).trans vU_s)) (fun h' V1 F1 q I' => K h' V1 F1 n (by first | exact (congrFun q.1 10).trans ((vU_n (by decide)).trans h10) | exact (congrFun q.1 10).trans (cV_10.trans h10) | exact (congrFun q.1 10).trans ((vU_n (by decide)).trans ((vU_n (by decide)).trans h10)) | exact (congrFun q.1 10).trans vU_s) I')
set_option maxRecDepth 100000 in
theorem lc_15 (H : gHs Γ de mi d1 d10 vf sr ss nm ka sm ks kss) (hsa : gPa Γ .int sc L (fun j => .int (xs j))) (hL : L ≤ 2048) (hi : i + 3 < L) (I : LI Γ de h m o ad out outD V F B) (hB9 : B ≤ 9000) {n : Nat} (h10 : V 10 = nI n) (hn60 : n ≤ 60) (K : ∀ h' V1 F1 n', V1 10 = nI n' → LI Γ de h' m o ad out outD V1 F1 (B + 12) → G Γ M_L_law 32 mc ms Z ZX qc (qs + 520 * n') 3368 (L0 sc m o out outD i) [] h') : G Γ M_L_law 32 mc ms Z ZX (qc + 1000) (qs + 13600 + 520 * n) 1065 (L0 sc m o out outD i) [] h := by
  obtain ⟨hd, hpl, hp, hps, hpt, hnm, hkw, hsw, hnc⟩ := H
  obtain ⟨nx, o9, svv, hl, tt, bu, sb, fo, hm, HO, IV, hnx⟩ := I.1.ro
  obtain ⟨r, hr8, h6⟩ := I.1.v6
  refine g_weak (rc' := qc + 1000) (rs' := qs + 520 * n + 13000) (L' := L0 sc m o out outD i) ⟨rfl, rfl, rfl, rfl, rfl, rfl, True.intro⟩ (Nat.le_refl _) (by omega) ?_
  exact lq_15 hd hnc hsa hL hi I (fs := _) hm (fa_codeOf hp I.1 hB9 ((xs (i + 1)))) (fP_to (by omega)) (mE_ofC (rp_codeOf IV.hc IV.h3 ((xs (i + 1)))) ⟨rfl, rfl, rfl⟩) (by first | exact rt1 _ | exact rt2 _ _ | exact rt3 _ _ _ | exact if1) (fun V1 F1 q => by first | exact (congrFun q.1 13).trans vU_s | exact (congrFun q.1 13).trans cV_13 | exact (congrFun q.1 13).trans ((vU_n (by decide)).trans vU_s)) (fun h' V1 F1 q I' => K h' V1 F1 n (by first | exact (congrFun q.1 10).trans ((vU_n (by decide)).trans h10) | exact (congrFun q.1 10).trans (cV_10.trans h10) | exact (congrFun q.1 10).trans ((vU_n (by decide)).trans ((vU_n (by decide)).trans h10)) | exact (congrFun q.1 10).trans vU_s) I')
set_option maxRecDepth 100000 in
theorem lc_16 (H : gHs Γ de mi d1 d10 vf sr ss nm ka sm ks kss) (hsa : gPa Γ .int sc L (fun j => .int (xs j))) (hL : L ≤ 2048) (hi : i + 3 < L) (I : LI Γ de h m o ad out outD V F B) (hB9 : B ≤ 9000) {n : Nat} (h10 : V 10 = nI n) (hn60 : n ≤ 60) (K : ∀ h' V1 F1 n', V1 10 = nI n' → LI Γ de h' m o ad out outD V1 F1 (B + 12) → G Γ M_L_law 32 mc ms Z ZX qc (qs + 520 * n') 3368 (L0 sc m o out outD i) [] h') : G Γ M_L_law 32 mc ms Z ZX (qc + 1000) (qs + 13600 + 520 * n) 1121 (L0 sc m o out outD i) [] h := by
  obtain ⟨hd, hpl, hp, hps, hpt, hnm, hkw, hsw, hnc⟩ := H
  obtain ⟨nx, o9, svv, hl, tt, bu, sb, fo, hm, HO, IV, hnx⟩ := I.1.ro
  obtain ⟨r, hr8, h6⟩ := I.1.v6
  refine g_weak (rc' := qc + 1000) (rs' := qs + 520 * n + 13000) (L' := L0 sc m o out outD i) ⟨rfl, rfl, rfl, rfl, rfl, rfl, True.intro⟩ (Nat.le_refl _) (by omega) ?_
  exact lq_16 hd hnc hsa hL hi I (fs := _) hm (fa_weightOf hp I.1 hB9 ((xs (i + 1)))) (fP_to (by omega)) (mE_ofC (rp_weightOf IV.hc IV.h3 ((xs (i + 1)))) ⟨rfl, rfl, rfl⟩) (by first | exact rt1 _ | exact rt2 _ _ | exact rt3 _ _ _ | exact if1) (fun V1 F1 q => by first | exact (congrFun q.1 13).trans vU_s | exact (congrFun q.1 13).trans cV_13 | exact (congrFun q.1 13).trans ((vU_n (by decide)).trans vU_s)) (fun h' V1 F1 q I' => K h' V1 F1 n (by first | exact (congrFun q.1 10).trans ((vU_n (by decide)).trans h10) | exact (congrFun q.1 10).trans (cV_10.trans h10) | exact (congrFun q.1 10).trans ((vU_n (by decide)).trans ((vU_n (by decide)).trans h10)) | exact (congrFun q.1 10).trans vU_s) I')
set_option maxRecDepth 100000 in
theorem lc_17 (H : gHs Γ de mi d1 d10 vf sr ss nm ka sm ks kss) (hsa : gPa Γ .int sc L (fun j => .int (xs j))) (hL : L ≤ 2048) (hi : i + 3 < L) (I : LI Γ de h m o ad out outD V F B) (hB9 : B ≤ 9000) {n : Nat} (h10 : V 10 = nI n) (hn60 : n ≤ 60) (K : ∀ h' V1 F1 n', V1 10 = nI n' → LI Γ de h' m o ad out outD V1 F1 (B + 12) → G Γ M_L_law 32 mc ms Z ZX qc (qs + 520 * n') 3368 (L0 sc m o out outD i) [] h') : G Γ M_L_law 32 mc ms Z ZX (qc + 1000) (qs + 13600 + 520 * n) 1177 (L0 sc m o out outD i) [] h := by
  obtain ⟨hd, hpl, hp, hps, hpt, hnm, hkw, hsw, hnc⟩ := H
  obtain ⟨nx, o9, svv, hl, tt, bu, sb, fo, hm, HO, IV, hnx⟩ := I.1.ro
  obtain ⟨r, hr8, h6⟩ := I.1.v6
  refine g_weak (rc' := qc + 1000) (rs' := qs + 520 * n + 13000) (L' := L0 sc m o out outD i) ⟨rfl, rfl, rfl, rfl, rfl, rfl, True.intro⟩ (Nat.le_refl _) (by omega) ?_
  exact lq_17 hd hnc hsa hL hi I (fs := _) hm (fa_isPriority hp I.1 hB9 ((xs (i + 1)))) (fP_to (by omega)) (mE_ofC (rp_isPriority IV.hc IV.h3 ((xs (i + 1)))) ⟨rfl, rfl, rfl⟩) (by first | exact rt1 _ | exact rt2 _ _ | exact rt3 _ _ _ | exact if1) (fun V1 F1 q => by first | exact (congrFun q.1 13).trans vU_s | exact (congrFun q.1 13).trans cV_13 | exact (congrFun q.1 13).trans ((vU_n (by decide)).trans vU_s)) (fun h' V1 F1 q I' => K h' V1 F1 n (by first | exact (congrFun q.1 10).trans ((vU_n (by decide)).trans h10) | exact (congrFun q.1 10).trans (cV_10.trans h10) | exact (congrFun q.1 10).trans ((vU_n (by decide)).trans ((vU_n (by decide)).trans h10)) | exact (congrFun q.1 10).trans vU_s) I')
set_option maxRecDepth 100000 in
theorem lc_18 (H : gHs Γ de mi d1 d10 vf sr ss nm ka sm ks kss) (hsa : gPa Γ .int sc L (fun j => .int (xs j))) (hL : L ≤ 2048) (hi : i + 3 < L) (I : LI Γ de h m o ad out outD V F B) (hB9 : B ≤ 9000) {n : Nat} (h10 : V 10 = nI n) (hn60 : n ≤ 60) (K : ∀ h' V1 F1 n', V1 10 = nI n' → LI Γ de h' m o ad out outD V1 F1 (B + 12) → G Γ M_L_law 32 mc ms Z ZX qc (qs + 520 * n') 3368 (L0 sc m o out outD i) [] h') : G Γ M_L_law 32 mc ms Z ZX (qc + 1000) (qs + 13600 + 520 * n) 1240 (L0 sc m o out outD i) [] h := by
  obtain ⟨hd, hpl, hp, hps, hpt, hnm, hkw, hsw, hnc⟩ := H
  obtain ⟨nx, o9, svv, hl, tt, bu, sb, fo, hm, HO, IV, hnx⟩ := I.1.ro
  obtain ⟨r, hr8, h6⟩ := I.1.v6
  refine g_weak (rc' := qc + 1000) (rs' := qs + 520 * n + 13000) (L' := L0 sc m o out outD i) ⟨rfl, rfl, rfl, rfl, rfl, rfl, True.intro⟩ (Nat.le_refl _) (by omega) ?_
  exact lq_18 hd hnc hsa hL hi I (fs := _) hm (fa_returnsOf hp I.1 hB9 ((xs (i + 1)))) (fP_to (by omega)) (mE_ofC (rp_returnsOf IV.hc IV.h3 ((xs (i + 1)))) ⟨rfl, rfl, rfl⟩) (by first | exact rt1 _ | exact rt2 _ _ | exact rt3 _ _ _ | exact if1) (fun V1 F1 q => by first | exact (congrFun q.1 13).trans vU_s | exact (congrFun q.1 13).trans cV_13 | exact (congrFun q.1 13).trans ((vU_n (by decide)).trans vU_s)) (fun h' V1 F1 q I' => K h' V1 F1 n (by first | exact (congrFun q.1 10).trans ((vU_n (by decide)).trans h10) | exact (congrFun q.1 10).trans (cV_10.trans h10) | exact (congrFun q.1 10).trans ((vU_n (by decide)).trans ((vU_n (by decide)).trans h10)) | exact (congrFun q.1 10).trans vU_s) I')
set_option maxRecDepth 100000 in
theorem lc_19 (H : gHs Γ de mi d1 d10 vf sr ss nm ka sm ks kss) (hsa : gPa Γ .int sc L (fun j => .int (xs j))) (hL : L ≤ 2048) (hi : i + 3 < L) (I : LI Γ de h m o ad out outD V F B) (hB9 : B ≤ 9000) {n : Nat} (h10 : V 10 = nI n) (hn60 : n ≤ 60) (K : ∀ h' V1 F1 n', V1 10 = nI n' → LI Γ de h' m o ad out outD V1 F1 (B + 12) → G Γ M_L_law 32 mc ms Z ZX qc (qs + 520 * n') 3368 (L0 sc m o out outD i) [] h') : G Γ M_L_law 32 mc ms Z ZX (qc + 1000) (qs + 13600 + 520 * n) 1296 (L0 sc m o out outD i) [] h := by
  obtain ⟨hd, hpl, hp, hps, hpt, hnm, hkw, hsw, hnc⟩ := H
  obtain ⟨nx, o9, svv, hl, tt, bu, sb, fo, hm, HO, IV, hnx⟩ := I.1.ro
  obtain ⟨r, hr8, h6⟩ := I.1.v6
  refine g_weak (rc' := qc + 1000) (rs' := qs + 520 * n + 13000) (L' := L0 sc m o out outD i) ⟨rfl, rfl, rfl, rfl, rfl, rfl, True.intro⟩ (Nat.le_refl _) (by omega) ?_
  exact lq_19 hd hnc hsa hL hi I (fs := _) hm (fa_isInTray hp I.1 hB9 ((xs (i + 1)))) (fP_to (by omega)) (mE_ofC (rp_isInTray IV.hc IV.h3 ((xs (i + 1)))) ⟨rfl, rfl, rfl⟩) (by first | exact rt1 _ | exact rt2 _ _ | exact rt3 _ _ _ | exact if1) (fun V1 F1 q => by first | exact (congrFun q.1 13).trans vU_s | exact (congrFun q.1 13).trans cV_13 | exact (congrFun q.1 13).trans ((vU_n (by decide)).trans vU_s)) (fun h' V1 F1 q I' => K h' V1 F1 n (by first | exact (congrFun q.1 10).trans ((vU_n (by decide)).trans h10) | exact (congrFun q.1 10).trans (cV_10.trans h10) | exact (congrFun q.1 10).trans ((vU_n (by decide)).trans ((vU_n (by decide)).trans h10)) | exact (congrFun q.1 10).trans vU_s) I')
set_option maxRecDepth 100000 in
theorem lc_20 (H : gHs Γ de mi d1 d10 vf sr ss nm ka sm ks kss) (hsa : gPa Γ .int sc L (fun j => .int (xs j))) (hL : L ≤ 2048) (hi : i + 3 < L) (I : LI Γ de h m o ad out outD V F B) (hB9 : B ≤ 9000) {n : Nat} (h10 : V 10 = nI n) (hn60 : n ≤ 60) (K : ∀ h' V1 F1 n', V1 10 = nI n' → LI Γ de h' m o ad out outD V1 F1 (B + 12) → G Γ M_L_law 32 mc ms Z ZX qc (qs + 520 * n') 3368 (L0 sc m o out outD i) [] h') : G Γ M_L_law 32 mc ms Z ZX (qc + 1000) (qs + 13600 + 520 * n) 1359 (L0 sc m o out outD i) [] h := by
  obtain ⟨hd, hpl, hp, hps, hpt, hnm, hkw, hsw, hnc⟩ := H
  obtain ⟨nx, o9, svv, hl, tt, bu, sb, fo, hm, HO, IV, hnx⟩ := I.1.ro
  obtain ⟨r, hr8, h6⟩ := I.1.v6
  refine g_weak (rc' := qc + 1000) (rs' := qs + 520 * n + 13000) (L' := L0 sc m o out outD i) ⟨rfl, rfl, rfl, rfl, rfl, rfl, True.intro⟩ (Nat.le_refl _) (by omega) ?_
  exact lq_20 hd hnc hsa hL hi I (fs := _) hm (fa_routeOfBag hp I.1 hB9 ((xs (i + 1)))) (fP_to (by omega)) (mE_ofC (rp_routeOfBag IV.hc IV.h3 ((xs (i + 1)))) ⟨rfl, rfl, rfl⟩) (by first | exact rt1 _ | exact rt2 _ _ | exact rt3 _ _ _ | exact if1) (fun V1 F1 q => by first | exact (congrFun q.1 13).trans vU_s | exact (congrFun q.1 13).trans cV_13 | exact (congrFun q.1 13).trans ((vU_n (by decide)).trans vU_s)) (fun h' V1 F1 q I' => K h' V1 F1 n (by first | exact (congrFun q.1 10).trans ((vU_n (by decide)).trans h10) | exact (congrFun q.1 10).trans (cV_10.trans h10) | exact (congrFun q.1 10).trans ((vU_n (by decide)).trans ((vU_n (by decide)).trans h10)) | exact (congrFun q.1 10).trans vU_s) I')
set_option maxRecDepth 100000 in
theorem lc_21 (H : gHs Γ de mi d1 d10 vf sr ss nm ka sm ks kss) (hsa : gPa Γ .int sc L (fun j => .int (xs j))) (hL : L ≤ 2048) (hi : i + 3 < L) (I : LI Γ de h m o ad out outD V F B) (hB9 : B ≤ 9000) {n : Nat} (h10 : V 10 = nI n) (hn60 : n ≤ 60) (K : ∀ h' V1 F1 n', V1 10 = nI n' → LI Γ de h' m o ad out outD V1 F1 (B + 12) → G Γ M_L_law 32 mc ms Z ZX qc (qs + 520 * n') 3368 (L0 sc m o out outD i) [] h') : G Γ M_L_law 32 mc ms Z ZX (qc + 1000) (qs + 13600 + 520 * n) 1415 (L0 sc m o out outD i) [] h := by
  obtain ⟨hd, hpl, hp, hps, hpt, hnm, hkw, hsw, hnc⟩ := H
  obtain ⟨nx, o9, svv, hl, tt, bu, sb, fo, hm, HO, IV, hnx⟩ := I.1.ro
  obtain ⟨r, hr8, h6⟩ := I.1.v6
  refine g_weak (rc' := qc + 1000) (rs' := qs + 520 * n + 13000) (L' := L0 sc m o out outD i) ⟨rfl, rfl, rfl, rfl, rfl, rfl, True.intro⟩ (Nat.le_refl _) (by omega) ?_
  exact lq_21 hd hnc hsa hL hi I (fs := _) hm (fa_bagOf hp I.1 hB9 ((xs (i + 1)))) (fP_to (by omega)) (mE_ofC (rp_bagOf IV.hc IV.h3 ((xs (i + 1)))) ⟨rfl, rfl, rfl⟩) (by first | exact rt1 _ | exact rt2 _ _ | exact rt3 _ _ _ | exact if1) (fun V1 F1 q => by first | exact (congrFun q.1 13).trans vU_s | exact (congrFun q.1 13).trans cV_13 | exact (congrFun q.1 13).trans ((vU_n (by decide)).trans vU_s)) (fun h' V1 F1 q I' => K h' V1 F1 n (by first | exact (congrFun q.1 10).trans ((vU_n (by decide)).trans h10) | exact (congrFun q.1 10).trans (cV_10.trans h10) | exact (congrFun q.1 10).trans ((vU_n (by decide)).trans ((vU_n (by decide)).trans h10)) | exact (congrFun q.1 10).trans vU_s) I')
set_option maxRecDepth 100000 in
theorem lc_22 (H : gHs Γ de mi d1 d10 vf sr ss nm ka sm ks kss) (hsa : gPa Γ .int sc L (fun j => .int (xs j))) (hL : L ≤ 2048) (hi : i + 3 < L) (I : LI Γ de h m o ad out outD V F B) (hB9 : B ≤ 9000) {n : Nat} (h10 : V 10 = nI n) (hn60 : n ≤ 60) (K : ∀ h' V1 F1 n', V1 10 = nI n' → LI Γ de h' m o ad out outD V1 F1 (B + 12) → G Γ M_L_law 32 mc ms Z ZX qc (qs + 520 * n') 3368 (L0 sc m o out outD i) [] h') : G Γ M_L_law 32 mc ms Z ZX (qc + 1000) (qs + 13600 + 520 * n) 1471 (L0 sc m o out outD i) [] h := by
  obtain ⟨hd, hpl, hp, hps, hpt, hnm, hkw, hsw, hnc⟩ := H
  obtain ⟨nx, o9, svv, hl, tt, bu, sb, fo, hm, HO, IV, hnx⟩ := I.1.ro
  obtain ⟨r, hr8, h6⟩ := I.1.v6
  refine g_weak (rc' := qc + 1000) (rs' := qs + 520 * n + 13000) (L' := L0 sc m o out outD i) ⟨rfl, rfl, rfl, rfl, rfl, rfl, True.intro⟩ (Nat.le_refl _) (by omega) ?_
  exact lq_22 hd hnc hsa hL hi I (fs := _) hm (fa_isMissorted hp I.1 hB9 ((xs (i + 1)))) (fP_to (by omega)) (mE_ofC (rp_isMissorted IV.hc IV.h3 IV.ht IV.h4 ((xs (i + 1)))) ⟨rfl, rfl, rfl⟩) (by first | exact rt1 _ | exact rt2 _ _ | exact rt3 _ _ _ | exact if1) (fun V1 F1 q => by first | exact (congrFun q.1 13).trans vU_s | exact (congrFun q.1 13).trans cV_13 | exact (congrFun q.1 13).trans ((vU_n (by decide)).trans vU_s)) (fun h' V1 F1 q I' => K h' V1 F1 n (by first | exact (congrFun q.1 10).trans ((vU_n (by decide)).trans h10) | exact (congrFun q.1 10).trans (cV_10.trans h10) | exact (congrFun q.1 10).trans ((vU_n (by decide)).trans ((vU_n (by decide)).trans h10)) | exact (congrFun q.1 10).trans vU_s) I')
set_option maxRecDepth 100000 in
theorem lc_23 (H : gHs Γ de mi d1 d10 vf sr ss nm ka sm ks kss) (hsa : gPa Γ .int sc L (fun j => .int (xs j))) (hL : L ≤ 2048) (hi : i + 3 < L) (I : LI Γ de h m o ad out outD V F B) (hB9 : B ≤ 9000) {n : Nat} (h10 : V 10 = nI n) (hn60 : n ≤ 60) (K : ∀ h' V1 F1 n', V1 10 = nI n' → LI Γ de h' m o ad out outD V1 F1 (B + 12) → G Γ M_L_law 32 mc ms Z ZX qc (qs + 520 * n') 3368 (L0 sc m o out outD i) [] h') : G Γ M_L_law 32 mc ms Z ZX (qc + 1000) (qs + 13600 + 520 * n) 1534 (L0 sc m o out outD i) [] h := by
  obtain ⟨hd, hpl, hp, hps, hpt, hnm, hkw, hsw, hnc⟩ := H
  obtain ⟨nx, o9, svv, hl, tt, bu, sb, fo, hm, HO, IV, hnx⟩ := I.1.ro
  obtain ⟨r, hr8, h6⟩ := I.1.v6
  refine g_weak (rc' := qc + 1000) (rs' := qs + 520 * n + 13000) (L' := L0 sc m o out outD i) ⟨rfl, rfl, rfl, rfl, rfl, rfl, True.intro⟩ (Nat.le_refl _) (by omega) ?_
  exact lq_23 hd hnc hsa hL hi I (fs := _) hm (fa_canSort hp I.1 hB9 ((xs (i + 1)))) (fP_to (by omega)) (mE_ofC (rp_canSort IV.hc IV.h3 IV.ht IV.h4 IV.OK ((xs (i + 1)))) ⟨rfl, rfl, rfl⟩) (by first | exact rt1 _ | exact rt2 _ _ | exact rt3 _ _ _ | exact if1) (fun V1 F1 q => by first | exact (congrFun q.1 13).trans vU_s | exact (congrFun q.1 13).trans cV_13 | exact (congrFun q.1 13).trans ((vU_n (by decide)).trans vU_s)) (fun h' V1 F1 q I' => K h' V1 F1 n (by first | exact (congrFun q.1 10).trans ((vU_n (by decide)).trans h10) | exact (congrFun q.1 10).trans (cV_10.trans h10) | exact (congrFun q.1 10).trans ((vU_n (by decide)).trans ((vU_n (by decide)).trans h10)) | exact (congrFun q.1 10).trans vU_s) I')
set_option maxRecDepth 100000 in
theorem lc_24 (H : gHs Γ de mi d1 d10 vf sr ss nm ka sm ks kss) (hsa : gPa Γ .int sc L (fun j => .int (xs j))) (hL : L ≤ 2048) (hi : i + 3 < L) (I : LI Γ de h m o ad out outD V F B) (hB9 : B ≤ 9000) {n : Nat} (h10 : V 10 = nI n) (hn60 : n ≤ 60) (K : ∀ h' V1 F1 n', V1 10 = nI n' → LI Γ de h' m o ad out outD V1 F1 (B + 12) → G Γ M_L_law 32 mc ms Z ZX qc (qs + 520 * n') 3368 (L0 sc m o out outD i) [] h') : G Γ M_L_law 32 mc ms Z ZX (qc + 1000) (qs + 13600 + 520 * n) 1597 (L0 sc m o out outD i) [] h := by
  obtain ⟨hd, hpl, hp, hps, hpt, hnm, hkw, hsw, hnc⟩ := H
  obtain ⟨nx, o9, svv, hl, tt, bu, sb, fo, hm, HO, IV, hnx⟩ := I.1.ro
  obtain ⟨r, hr8, h6⟩ := I.1.v6
  refine g_weak (rc' := qc + 1000) (rs' := qs + 520 * n + 13000) (L' := L0 sc m o out outD i) ⟨rfl, rfl, rfl, rfl, rfl, rfl, True.intro⟩ (Nat.le_refl _) (by omega) ?_
  exact lq_24 hd hnc hsa hL hi I (fs := _) hm (fa_sortableCount hd hpl I.1 hB9) (fP_to (by omega)) (mE_ofC (rp_sortableCount IV.hc IV.h3 IV.ht IV.h4 IV.OK) ⟨rfl, rfl, rfl⟩) (fun h' V1 F1 q I' => K h' V1 F1 n (by first | exact (congrFun q.1 10).trans ((vU_n (by decide)).trans h10) | exact (congrFun q.1 10).trans (cV_10.trans h10) | exact (congrFun q.1 10).trans ((vU_n (by decide)).trans ((vU_n (by decide)).trans h10)) | exact (congrFun q.1 10).trans vU_s) I')
set_option maxRecDepth 100000 in
theorem lc_25 (H : gHs Γ de mi d1 d10 vf sr ss nm ka sm ks kss) (hsa : gPa Γ .int sc L (fun j => .int (xs j))) (hL : L ≤ 2048) (hi : i + 3 < L) (I : LI Γ de h m o ad out outD V F B) (hB9 : B ≤ 9000) {n : Nat} (h10 : V 10 = nI n) (hn60 : n ≤ 60) (K : ∀ h' V1 F1 n', V1 10 = nI n' → LI Γ de h' m o ad out outD V1 F1 (B + 12) → G Γ M_L_law 32 mc ms Z ZX qc (qs + 520 * n') 3368 (L0 sc m o out outD i) [] h') : G Γ M_L_law 32 mc ms Z ZX (qc + 1000) (qs + 13600 + 520 * n) 1610 (L0 sc m o out outD i) [] h := by
  obtain ⟨hd, hpl, hp, hps, hpt, hnm, hkw, hsw, hnc⟩ := H
  obtain ⟨nx, o9, svv, hl, tt, bu, sb, fo, hm, HO, IV, hnx⟩ := I.1.ro
  obtain ⟨r, hr8, h6⟩ := I.1.v6
  refine g_weak (rc' := qc + 1000) (rs' := qs + 520 * n + 13000) (L' := L0 sc m o out outD i) ⟨rfl, rfl, rfl, rfl, rfl, rfl, True.intro⟩ (Nat.le_refl _) (by omega) ?_
  exact lq_25 hd hnc hsa hL hi I (fs := _) hm (fa_lateCount I.1 hB9) (fP_to (by omega)) (mE_ofC (rp_lateCount IV.hc IV.h3 IV.ht IV.h4) ⟨rfl, rfl, rfl⟩) (fun h' V1 F1 q I' => K h' V1 F1 n (by first | exact (congrFun q.1 10).trans ((vU_n (by decide)).trans h10) | exact (congrFun q.1 10).trans (cV_10.trans h10) | exact (congrFun q.1 10).trans ((vU_n (by decide)).trans ((vU_n (by decide)).trans h10)) | exact (congrFun q.1 10).trans vU_s) I')
set_option maxRecDepth 100000 in
theorem lc_26 (H : gHs Γ de mi d1 d10 vf sr ss nm ka sm ks kss) (hsa : gPa Γ .int sc L (fun j => .int (xs j))) (hL : L ≤ 2048) (hi : i + 3 < L) (I : LI Γ de h m o ad out outD V F B) (hB9 : B ≤ 9000) {n : Nat} (h10 : V 10 = nI n) (hn60 : n ≤ 60) (K : ∀ h' V1 F1 n', V1 10 = nI n' → LI Γ de h' m o ad out outD V1 F1 (B + 12) → G Γ M_L_law 32 mc ms Z ZX qc (qs + 520 * n') 3368 (L0 sc m o out outD i) [] h') : G Γ M_L_law 32 mc ms Z ZX (qc + 1000) (qs + 13600 + 520 * n) 1623 (L0 sc m o out outD i) [] h := by
  obtain ⟨hd, hpl, hp, hps, hpt, hnm, hkw, hsw, hnc⟩ := H
  obtain ⟨nx, o9, svv, hl, tt, bu, sb, fo, hm, HO, IV, hnx⟩ := I.1.ro
  obtain ⟨r, hr8, h6⟩ := I.1.v6
  refine g_weak (rc' := qc + 1000) (rs' := qs + 520 * n + 13000) (L' := L0 sc m o out outD i) ⟨rfl, rfl, rfl, rfl, rfl, rfl, True.intro⟩ (Nat.le_refl _) (by omega) ?_
  exact lq_26 hd hnc hsa hL hi I (fs := _) hm (fa_traySize hd hpl I.1 hB9) (fP_to (by omega)) (mE_ofC (rp_traySize IV.hc IV.h3) ⟨rfl, rfl, rfl⟩) (fun h' V1 F1 q I' => K h' V1 F1 n (by first | exact (congrFun q.1 10).trans ((vU_n (by decide)).trans h10) | exact (congrFun q.1 10).trans (cV_10.trans h10) | exact (congrFun q.1 10).trans ((vU_n (by decide)).trans ((vU_n (by decide)).trans h10)) | exact (congrFun q.1 10).trans vU_s) I')
set_option maxRecDepth 100000 in
theorem lc_27 (H : gHs Γ de mi d1 d10 vf sr ss nm ka sm ks kss) (hsa : gPa Γ .int sc L (fun j => .int (xs j))) (hL : L ≤ 2048) (hi : i + 3 < L) (I : LI Γ de h m o ad out outD V F B) (hB9 : B ≤ 9000) {n : Nat} (h10 : V 10 = nI n) (hn60 : n ≤ 60) (K : ∀ h' V1 F1 n', V1 10 = nI n' → LI Γ de h' m o ad out outD V1 F1 (B + 12) → G Γ M_L_law 32 mc ms Z ZX qc (qs + 520 * n') 3368 (L0 sc m o out outD i) [] h') : G Γ M_L_law 32 mc ms Z ZX (qc + 1000) (qs + 13600 + 520 * n) 1636 (L0 sc m o out outD i) [] h := by
  obtain ⟨hd, hpl, hp, hps, hpt, hnm, hkw, hsw, hnc⟩ := H
  obtain ⟨nx, o9, svv, hl, tt, bu, sb, fo, hm, HO, IV, hnx⟩ := I.1.ro
  obtain ⟨r, hr8, h6⟩ := I.1.v6
  refine g_weak (rc' := qc + 1000) (rs' := qs + 520 * n + 13000) (L' := L0 sc m o out outD i) ⟨rfl, rfl, rfl, rfl, rfl, rfl, True.intro⟩ (Nat.le_refl _) (by omega) ?_
  exact lq_27 hd hnc hsa hL hi I (fs := _) hm (fa_trayAt hd hpl hp I.1 hB9 ((xs (i + 1)))) (fP_to (by omega)) (mE_ofC (rp_trayAt IV.hc IV.h3 ((xs (i + 1)))) ⟨rfl, rfl, rfl⟩) (by first | exact rt1 _ | exact rt2 _ _ | exact rt3 _ _ _ | exact if1) (fun V1 F1 q => by first | exact (congrFun q.1 13).trans vU_s | exact (congrFun q.1 13).trans cV_13 | exact (congrFun q.1 13).trans ((vU_n (by decide)).trans vU_s)) (fun h' V1 F1 q I' => K h' V1 F1 n (by first | exact (congrFun q.1 10).trans ((vU_n (by decide)).trans h10) | exact (congrFun q.1 10).trans (cV_10.trans h10) | exact (congrFun q.1 10).trans ((vU_n (by decide)).trans ((vU_n (by decide)).trans h10)) | exact (congrFun q.1 10).trans vU_s) I')
set_option maxRecDepth 100000 in
theorem lc_28 (H : gHs Γ de mi d1 d10 vf sr ss nm ka sm ks kss) (hsa : gPa Γ .int sc L (fun j => .int (xs j))) (hL : L ≤ 2048) (hi : i + 3 < L) (I : LI Γ de h m o ad out outD V F B) (hB9 : B ≤ 9000) {n : Nat} (h10 : V 10 = nI n) (hn60 : n ≤ 60) (K : ∀ h' V1 F1 n', V1 10 = nI n' → LI Γ de h' m o ad out outD V1 F1 (B + 12) → G Γ M_L_law 32 mc ms Z ZX qc (qs + 520 * n') 3368 (L0 sc m o out outD i) [] h') : G Γ M_L_law 32 mc ms Z ZX (qc + 1000) (qs + 13600 + 520 * n) 1692 (L0 sc m o out outD i) [] h := by
  obtain ⟨hd, hpl, hp, hps, hpt, hnm, hkw, hsw, hnc⟩ := H
  obtain ⟨nx, o9, svv, hl, tt, bu, sb, fo, hm, HO, IV, hnx⟩ := I.1.ro
  obtain ⟨r, hr8, h6⟩ := I.1.v6
  refine g_weak (rc' := qc + 1000) (rs' := qs + 520 * n + 13000) (L' := L0 sc m o out outD i) ⟨rfl, rfl, rfl, rfl, rfl, rfl, True.intro⟩ (Nat.le_refl _) (by omega) ?_
  exact lq_28 hd hnc hsa hL hi I (fs := _) hm (fa_prefixCount I.1 hB9) (fP_to (by omega)) (mE_ofC (r_prefixCount ) ⟨rfl, rfl, rfl⟩) (fun h' V1 F1 q I' => K h' V1 F1 n (by first | exact (congrFun q.1 10).trans ((vU_n (by decide)).trans h10) | exact (congrFun q.1 10).trans (cV_10.trans h10) | exact (congrFun q.1 10).trans ((vU_n (by decide)).trans ((vU_n (by decide)).trans h10)) | exact (congrFun q.1 10).trans vU_s) I')
set_option maxRecDepth 100000 in
theorem lc_29 (H : gHs Γ de mi d1 d10 vf sr ss nm ka sm ks kss) (hsa : gPa Γ .int sc L (fun j => .int (xs j))) (hL : L ≤ 2048) (hi : i + 3 < L) (I : LI Γ de h m o ad out outD V F B) (hB9 : B ≤ 9000) {n : Nat} (h10 : V 10 = nI n) (hn60 : n ≤ 60) (K : ∀ h' V1 F1 n', V1 10 = nI n' → LI Γ de h' m o ad out outD V1 F1 (B + 12) → G Γ M_L_law 32 mc ms Z ZX qc (qs + 520 * n') 3368 (L0 sc m o out outD i) [] h') : G Γ M_L_law 32 mc ms Z ZX (qc + 1000) (qs + 13600 + 520 * n) 1705 (L0 sc m o out outD i) [] h := by
  obtain ⟨hd, hpl, hp, hps, hpt, hnm, hkw, hsw, hnc⟩ := H
  obtain ⟨nx, o9, svv, hl, tt, bu, sb, fo, hm, HO, IV, hnx⟩ := I.1.ro
  obtain ⟨r, hr8, h6⟩ := I.1.v6
  refine g_weak (rc' := qc + 1000) (rs' := qs + 520 * n + 13000) (L' := L0 sc m o out outD i) ⟨rfl, rfl, rfl, rfl, rfl, rfl, True.intro⟩ (Nat.le_refl _) (by omega) ?_
  exact lq_29 hd hnc hsa hL hi I (fs := _) hm (fa_hasPrefix hp I.1 hB9 ((xs (i + 1))) ((xs (i + 2)))) (fP_to (by omega)) (mE_ofC (rp_hasPrefix IV.ht IV.h4 ((xs (i + 1))) ((xs (i + 2)))) ⟨rfl, rfl, rfl⟩) (by first | exact rt1 _ | exact rt2 _ _ | exact rt3 _ _ _ | exact if1) (fun V1 F1 q => by first | exact (congrFun q.1 13).trans vU_s | exact (congrFun q.1 13).trans cV_13 | exact (congrFun q.1 13).trans ((vU_n (by decide)).trans vU_s)) (fun h' V1 F1 q I' => K h' V1 F1 n (by first | exact (congrFun q.1 10).trans ((vU_n (by decide)).trans h10) | exact (congrFun q.1 10).trans (cV_10.trans h10) | exact (congrFun q.1 10).trans ((vU_n (by decide)).trans ((vU_n (by decide)).trans h10)) | exact (congrFun q.1 10).trans vU_s) I')
set_option maxRecDepth 100000 in
theorem lc_30 (H : gHs Γ de mi d1 d10 vf sr ss nm ka sm ks kss) (hsa : gPa Γ .int sc L (fun j => .int (xs j))) (hL : L ≤ 2048) (hi : i + 3 < L) (I : LI Γ de h m o ad out outD V F B) (hB9 : B ≤ 9000) {n : Nat} (h10 : V 10 = nI n) (hn60 : n ≤ 60) (K : ∀ h' V1 F1 n', V1 10 = nI n' → LI Γ de h' m o ad out outD V1 F1 (B + 12) → G Γ M_L_law 32 mc ms Z ZX qc (qs + 520 * n') 3368 (L0 sc m o out outD i) [] h') : G Γ M_L_law 32 mc ms Z ZX (qc + 1000) (qs + 13600 + 520 * n) 1780 (L0 sc m o out outD i) [] h := by
  obtain ⟨hd, hpl, hp, hps, hpt, hnm, hkw, hsw, hnc⟩ := H
  obtain ⟨nx, o9, svv, hl, tt, bu, sb, fo, hm, HO, IV, hnx⟩ := I.1.ro
  obtain ⟨r, hr8, h6⟩ := I.1.v6
  refine g_weak (rc' := qc + 1000) (rs' := qs + 520 * n + 13000) (L' := L0 sc m o out outD i) ⟨rfl, rfl, rfl, rfl, rfl, rfl, True.intro⟩ (Nat.le_refl _) (by omega) ?_
  exact lq_30 hd hnc hsa hL hi I (fs := _) hm (fa_routeFor hp I.1 hB9 ((xs (i + 1)))) (fP_to (by omega)) (mE_ofC (rp_routeFor IV.ht IV.h4 ((xs (i + 1)))) ⟨rfl, rfl, rfl⟩) (by first | exact rt1 _ | exact rt2 _ _ | exact rt3 _ _ _ | exact if1) (fun V1 F1 q => by first | exact (congrFun q.1 13).trans vU_s | exact (congrFun q.1 13).trans cV_13 | exact (congrFun q.1 13).trans ((vU_n (by decide)).trans vU_s)) (fun h' V1 F1 q I' => K h' V1 F1 n (by first | exact (congrFun q.1 10).trans ((vU_n (by decide)).trans h10) | exact (congrFun q.1 10).trans (cV_10.trans h10) | exact (congrFun q.1 10).trans ((vU_n (by decide)).trans ((vU_n (by decide)).trans h10)) | exact (congrFun q.1 10).trans vU_s) I')
set_option maxRecDepth 100000 in
theorem lc_31 (H : gHs Γ de mi d1 d10 vf sr ss nm ka sm ks kss) (hsa : gPa Γ .int sc L (fun j => .int (xs j))) (hL : L ≤ 2048) (hi : i + 3 < L) (I : LI Γ de h m o ad out outD V F B) (hB9 : B ≤ 9000) {n : Nat} (h10 : V 10 = nI n) (hn60 : n ≤ 60) (K : ∀ h' V1 F1 n', V1 10 = nI n' → LI Γ de h' m o ad out outD V1 F1 (B + 12) → G Γ M_L_law 32 mc ms Z ZX qc (qs + 520 * n') 3368 (L0 sc m o out outD i) [] h') : G Γ M_L_law 32 mc ms Z ZX (qc + 1000) (qs + 13600 + 520 * n) 1836 (L0 sc m o out outD i) [] h := by
  obtain ⟨hd, hpl, hp, hps, hpt, hnm, hkw, hsw, hnc⟩ := H
  obtain ⟨nx, o9, svv, hl, tt, bu, sb, fo, hm, HO, IV, hnx⟩ := I.1.ro
  obtain ⟨r, hr8, h6⟩ := I.1.v6
  refine g_weak (rc' := qc + 1000) (rs' := qs + 520 * n + 13000) (L' := L0 sc m o out outD i) ⟨rfl, rfl, rfl, rfl, rfl, rfl, True.intro⟩ (Nat.le_refl _) (by omega) ?_
  exact lq_31 hd hnc hsa hL hi I (fs := _) hm (fa_routeForByTree hp I.1 hB9 ((xs (i + 1)))) (fP_to (by omega)) (mE_ofC (rp_routeForByTree IV.ht IV.h4 ((xs (i + 1)))) ⟨rfl, rfl, rfl⟩) (by first | exact rt1 _ | exact rt2 _ _ | exact rt3 _ _ _ | exact if1) (fun V1 F1 q => by first | exact (congrFun q.1 13).trans vU_s | exact (congrFun q.1 13).trans cV_13 | exact (congrFun q.1 13).trans ((vU_n (by decide)).trans vU_s)) (fun h' V1 F1 q I' => K h' V1 F1 n (by first | exact (congrFun q.1 10).trans ((vU_n (by decide)).trans h10) | exact (congrFun q.1 10).trans (cV_10.trans h10) | exact (congrFun q.1 10).trans ((vU_n (by decide)).trans ((vU_n (by decide)).trans h10)) | exact (congrFun q.1 10).trans vU_s) I')
set_option maxRecDepth 100000 in
theorem lc_32 (H : gHs Γ de mi d1 d10 vf sr ss nm ka sm ks kss) (hsa : gPa Γ .int sc L (fun j => .int (xs j))) (hL : L ≤ 2048) (hi : i + 3 < L) (I : LI Γ de h m o ad out outD V F B) (hB9 : B ≤ 9000) {n : Nat} (h10 : V 10 = nI n) (hn60 : n ≤ 60) (K : ∀ h' V1 F1 n', V1 10 = nI n' → LI Γ de h' m o ad out outD V1 F1 (B + 12) → G Γ M_L_law 32 mc ms Z ZX qc (qs + 520 * n') 3368 (L0 sc m o out outD i) [] h') : G Γ M_L_law 32 mc ms Z ZX (qc + 1000) (qs + 13600 + 520 * n) 1892 (L0 sc m o out outD i) [] h := by
  obtain ⟨hd, hpl, hp, hps, hpt, hnm, hkw, hsw, hnc⟩ := H
  obtain ⟨nx, o9, svv, hl, tt, bu, sb, fo, hm, HO, IV, hnx⟩ := I.1.ro
  obtain ⟨r, hr8, h6⟩ := I.1.v6
  refine g_weak (rc' := qc + 1000) (rs' := qs + 520 * n + 13000) (L' := L0 sc m o out outD i) ⟨rfl, rfl, rfl, rfl, rfl, rfl, True.intro⟩ (Nat.le_refl _) (by omega) ?_
  exact lq_32 hd hnc hsa hL hi I (fs := _) hm (fa_matchLength hp I.1 hB9 ((xs (i + 1)))) (fP_to (by omega)) (mE_ofC (rp_matchLength IV.ht IV.h4 ((xs (i + 1)))) ⟨rfl, rfl, rfl⟩) (by first | exact rt1 _ | exact rt2 _ _ | exact rt3 _ _ _ | exact if1) (fun V1 F1 q => by first | exact (congrFun q.1 13).trans vU_s | exact (congrFun q.1 13).trans cV_13 | exact (congrFun q.1 13).trans ((vU_n (by decide)).trans vU_s)) (fun h' V1 F1 q I' => K h' V1 F1 n (by first | exact (congrFun q.1 10).trans ((vU_n (by decide)).trans h10) | exact (congrFun q.1 10).trans (cV_10.trans h10) | exact (congrFun q.1 10).trans ((vU_n (by decide)).trans ((vU_n (by decide)).trans h10)) | exact (congrFun q.1 10).trans vU_s) I')
set_option maxRecDepth 100000 in
theorem lc_33 (H : gHs Γ de mi d1 d10 vf sr ss nm ka sm ks kss) (hsa : gPa Γ .int sc L (fun j => .int (xs j))) (hL : L ≤ 2048) (hi : i + 3 < L) (I : LI Γ de h m o ad out outD V F B) (hB9 : B ≤ 9000) {n : Nat} (h10 : V 10 = nI n) (hn60 : n ≤ 60) (K : ∀ h' V1 F1 n', V1 10 = nI n' → LI Γ de h' m o ad out outD V1 F1 (B + 12) → G Γ M_L_law 32 mc ms Z ZX qc (qs + 520 * n') 3368 (L0 sc m o out outD i) [] h') : G Γ M_L_law 32 mc ms Z ZX (qc + 1000) (qs + 13600 + 520 * n) 1948 (L0 sc m o out outD i) [] h := by
  obtain ⟨hd, hpl, hp, hps, hpt, hnm, hkw, hsw, hnc⟩ := H
  obtain ⟨nx, o9, svv, hl, tt, bu, sb, fo, hm, HO, IV, hnx⟩ := I.1.ro
  obtain ⟨r, hr8, h6⟩ := I.1.v6
  refine g_weak (rc' := qc + 1000) (rs' := qs + 520 * n + 13000) (L' := L0 sc m o out outD i) ⟨rfl, rfl, rfl, rfl, rfl, rfl, True.intro⟩ (Nat.le_refl _) (by omega) ?_
  exact lq_33 hd hnc hsa hL hi I (fs := _) hm (fa_codesOf hp I.1 hB9 ((xs (i + 1)))) (fP_to (by omega)) (mE_ofC (rp_codesOf IV.ht IV.h4 ((xs (i + 1)))) ⟨rfl, rfl, rfl⟩) (by first | exact rt1 _ | exact rt2 _ _ | exact rt3 _ _ _ | exact if1) (fun V1 F1 q => by first | exact (congrFun q.1 13).trans vU_s | exact (congrFun q.1 13).trans cV_13 | exact (congrFun q.1 13).trans ((vU_n (by decide)).trans vU_s)) (fun h' V1 F1 q I' => K h' V1 F1 n (by first | exact (congrFun q.1 10).trans ((vU_n (by decide)).trans h10) | exact (congrFun q.1 10).trans (cV_10.trans h10) | exact (congrFun q.1 10).trans ((vU_n (by decide)).trans ((vU_n (by decide)).trans h10)) | exact (congrFun q.1 10).trans vU_s) I')
set_option maxRecDepth 100000 in
theorem lc_34 (H : gHs Γ de mi d1 d10 vf sr ss nm ka sm ks kss) (hsa : gPa Γ .int sc L (fun j => .int (xs j))) (hL : L ≤ 2048) (hi : i + 3 < L) (I : LI Γ de h m o ad out outD V F B) (hB9 : B ≤ 9000) {n : Nat} (h10 : V 10 = nI n) (hn60 : n ≤ 60) (K : ∀ h' V1 F1 n', V1 10 = nI n' → LI Γ de h' m o ad out outD V1 F1 (B + 12) → G Γ M_L_law 32 mc ms Z ZX qc (qs + 520 * n') 3368 (L0 sc m o out outD i) [] h') : G Γ M_L_law 32 mc ms Z ZX (qc + 1000) (qs + 13600 + 520 * n) 2004 (L0 sc m o out outD i) [] h := by
  obtain ⟨hd, hpl, hp, hps, hpt, hnm, hkw, hsw, hnc⟩ := H
  obtain ⟨nx, o9, svv, hl, tt, bu, sb, fo, hm, HO, IV, hnx⟩ := I.1.ro
  obtain ⟨r, hr8, h6⟩ := I.1.v6
  refine g_weak (rc' := qc + 1000) (rs' := qs + 520 * n + 13000) (L' := L0 sc m o out outD i) ⟨rfl, rfl, rfl, rfl, rfl, rfl, True.intro⟩ (Nat.le_refl _) (by omega) ?_
  exact lq_34 hd hnc hsa hL hi I (fs := _) hm (fa_bagCount hp I.1 hB9 ((xs (i + 1)))) (fP_to (by omega)) (mE_ofC (r_bagCount ((xs (i + 1)))) ⟨rfl, rfl, rfl⟩) (by first | exact rt1 _ | exact rt2 _ _ | exact rt3 _ _ _ | exact if1) (fun V1 F1 q => by first | exact (congrFun q.1 13).trans vU_s | exact (congrFun q.1 13).trans cV_13 | exact (congrFun q.1 13).trans ((vU_n (by decide)).trans vU_s)) (fun h' V1 F1 q I' => K h' V1 F1 n (by first | exact (congrFun q.1 10).trans ((vU_n (by decide)).trans h10) | exact (congrFun q.1 10).trans (cV_10.trans h10) | exact (congrFun q.1 10).trans ((vU_n (by decide)).trans ((vU_n (by decide)).trans h10)) | exact (congrFun q.1 10).trans vU_s) I')
set_option maxRecDepth 100000 in
theorem lc_35 (H : gHs Γ de mi d1 d10 vf sr ss nm ka sm ks kss) (hsa : gPa Γ .int sc L (fun j => .int (xs j))) (hL : L ≤ 2048) (hi : i + 3 < L) (I : LI Γ de h m o ad out outD V F B) (hB9 : B ≤ 9000) {n : Nat} (h10 : V 10 = nI n) (hn60 : n ≤ 60) (K : ∀ h' V1 F1 n', V1 10 = nI n' → LI Γ de h' m o ad out outD V1 F1 (B + 12) → G Γ M_L_law 32 mc ms Z ZX qc (qs + 520 * n') 3368 (L0 sc m o out outD i) [] h') : G Γ M_L_law 32 mc ms Z ZX (qc + 1000) (qs + 13600 + 520 * n) 2060 (L0 sc m o out outD i) [] h := by
  obtain ⟨hd, hpl, hp, hps, hpt, hnm, hkw, hsw, hnc⟩ := H
  obtain ⟨nx, o9, svv, hl, tt, bu, sb, fo, hm, HO, IV, hnx⟩ := I.1.ro
  obtain ⟨r, hr8, h6⟩ := I.1.v6
  refine g_weak (rc' := qc + 1000) (rs' := qs + 520 * n + 13000) (L' := L0 sc m o out outD i) ⟨rfl, rfl, rfl, rfl, rfl, rfl, True.intro⟩ (Nat.le_refl _) (by omega) ?_
  exact lq_35 hd hnc hsa hL hi I (fs := _) hm (fa_bagWeight hp I.1 hB9 ((xs (i + 1))) ((xs (i + 2)))) (fP_to (by omega)) (mE_ofC (rp_bagWeight IV.hc IV.h3 ((xs (i + 1))) ((xs (i + 2)))) ⟨rfl, rfl, rfl⟩) (by first | exact rt1 _ | exact rt2 _ _ | exact rt3 _ _ _ | exact if1) (fun V1 F1 q => by first | exact (congrFun q.1 13).trans vU_s | exact (congrFun q.1 13).trans cV_13 | exact (congrFun q.1 13).trans ((vU_n (by decide)).trans vU_s)) (fun h' V1 F1 q I' => K h' V1 F1 n (by first | exact (congrFun q.1 10).trans ((vU_n (by decide)).trans h10) | exact (congrFun q.1 10).trans (cV_10.trans h10) | exact (congrFun q.1 10).trans ((vU_n (by decide)).trans ((vU_n (by decide)).trans h10)) | exact (congrFun q.1 10).trans vU_s) I')
set_option maxRecDepth 100000 in
theorem lc_36 (H : gHs Γ de mi d1 d10 vf sr ss nm ka sm ks kss) (hsa : gPa Γ .int sc L (fun j => .int (xs j))) (hL : L ≤ 2048) (hi : i + 3 < L) (I : LI Γ de h m o ad out outD V F B) (hB9 : B ≤ 9000) {n : Nat} (h10 : V 10 = nI n) (hn60 : n ≤ 60) (K : ∀ h' V1 F1 n', V1 10 = nI n' → LI Γ de h' m o ad out outD V1 F1 (B + 12) → G Γ M_L_law 32 mc ms Z ZX qc (qs + 520 * n') 3368 (L0 sc m o out outD i) [] h') : G Γ M_L_law 32 mc ms Z ZX (qc + 1000) (qs + 13600 + 520 * n) 2128 (L0 sc m o out outD i) [] h := by
  obtain ⟨hd, hpl, hp, hps, hpt, hnm, hkw, hsw, hnc⟩ := H
  obtain ⟨nx, o9, svv, hl, tt, bu, sb, fo, hm, HO, IV, hnx⟩ := I.1.ro
  obtain ⟨r, hr8, h6⟩ := I.1.v6
  refine g_weak (rc' := qc + 1000) (rs' := qs + 520 * n + 13000) (L' := L0 sc m o out outD i) ⟨rfl, rfl, rfl, rfl, rfl, rfl, True.intro⟩ (Nat.le_refl _) (by omega) ?_
  exact lq_36 hd hnc hsa hL hi I (fs := _) hm (fa_lettersInBag hp I.1 hB9 ((xs (i + 1))) ((xs (i + 2)))) (fP_to (by omega)) (mE_ofC (rp_lettersInBag IV.hc IV.h3 ((xs (i + 1))) ((xs (i + 2)))) ⟨rfl, rfl, rfl⟩) (by first | exact rt1 _ | exact rt2 _ _ | exact rt3 _ _ _ | exact if1) (fun V1 F1 q => by first | exact (congrFun q.1 13).trans vU_s | exact (congrFun q.1 13).trans cV_13 | exact (congrFun q.1 13).trans ((vU_n (by decide)).trans vU_s)) (fun h' V1 F1 q I' => K h' V1 F1 n (by first | exact (congrFun q.1 10).trans ((vU_n (by decide)).trans h10) | exact (congrFun q.1 10).trans (cV_10.trans h10) | exact (congrFun q.1 10).trans ((vU_n (by decide)).trans ((vU_n (by decide)).trans h10)) | exact (congrFun q.1 10).trans vU_s) I')
set_option maxRecDepth 100000 in
theorem lc_37 (H : gHs Γ de mi d1 d10 vf sr ss nm ka sm ks kss) (hsa : gPa Γ .int sc L (fun j => .int (xs j))) (hL : L ≤ 2048) (hi : i + 3 < L) (I : LI Γ de h m o ad out outD V F B) (hB9 : B ≤ 9000) {n : Nat} (h10 : V 10 = nI n) (hn60 : n ≤ 60) (K : ∀ h' V1 F1 n', V1 10 = nI n' → LI Γ de h' m o ad out outD V1 F1 (B + 12) → G Γ M_L_law 32 mc ms Z ZX qc (qs + 520 * n') 3368 (L0 sc m o out outD i) [] h') : G Γ M_L_law 32 mc ms Z ZX (qc + 1000) (qs + 13600 + 520 * n) 2196 (L0 sc m o out outD i) [] h := by
  obtain ⟨hd, hpl, hp, hps, hpt, hnm, hkw, hsw, hnc⟩ := H
  obtain ⟨nx, o9, svv, hl, tt, bu, sb, fo, hm, HO, IV, hnx⟩ := I.1.ro
  obtain ⟨r, hr8, h6⟩ := I.1.v6
  refine g_weak (rc' := qc + 1000) (rs' := qs + 520 * n + 13000) (L' := L0 sc m o out outD i) ⟨rfl, rfl, rfl, rfl, rfl, rfl, True.intro⟩ (Nat.le_refl _) (by omega) ?_
  exact lq_37 hd hnc hsa hL hi I (fs := _) hm (fa_routeWeight hp I.1 hB9 ((xs (i + 1)))) (fP_to (by omega)) (mE_ofC (rp_routeWeight IV.hc IV.h3 ((xs (i + 1)))) ⟨rfl, rfl, rfl⟩) (by first | exact rt1 _ | exact rt2 _ _ | exact rt3 _ _ _ | exact if1) (fun V1 F1 q => by first | exact (congrFun q.1 13).trans vU_s | exact (congrFun q.1 13).trans cV_13 | exact (congrFun q.1 13).trans ((vU_n (by decide)).trans vU_s)) (fun h' V1 F1 q I' => K h' V1 F1 n (by first | exact (congrFun q.1 10).trans ((vU_n (by decide)).trans h10) | exact (congrFun q.1 10).trans (cV_10.trans h10) | exact (congrFun q.1 10).trans ((vU_n (by decide)).trans ((vU_n (by decide)).trans h10)) | exact (congrFun q.1 10).trans vU_s) I')
set_option maxRecDepth 100000 in
theorem lc_38 (H : gHs Γ de mi d1 d10 vf sr ss nm ka sm ks kss) (hsa : gPa Γ .int sc L (fun j => .int (xs j))) (hL : L ≤ 2048) (hi : i + 3 < L) (I : LI Γ de h m o ad out outD V F B) (hB9 : B ≤ 9000) {n : Nat} (h10 : V 10 = nI n) (hn60 : n ≤ 60) (K : ∀ h' V1 F1 n', V1 10 = nI n' → LI Γ de h' m o ad out outD V1 F1 (B + 12) → G Γ M_L_law 32 mc ms Z ZX qc (qs + 520 * n') 3368 (L0 sc m o out outD i) [] h') : G Γ M_L_law 32 mc ms Z ZX (qc + 1000) (qs + 13600 + 520 * n) 2252 (L0 sc m o out outD i) [] h := by
  obtain ⟨hd, hpl, hp, hps, hpt, hnm, hkw, hsw, hnc⟩ := H
  obtain ⟨nx, o9, svv, hl, tt, bu, sb, fo, hm, HO, IV, hnx⟩ := I.1.ro
  obtain ⟨r, hr8, h6⟩ := I.1.v6
  refine g_weak (rc' := qc + 1000) (rs' := qs + 520 * n + 13000) (L' := L0 sc m o out outD i) ⟨rfl, rfl, rfl, rfl, rfl, rfl, True.intro⟩ (Nat.le_refl _) (by omega) ?_
  exact lq_38 hd hnc hsa hL hi I (fs := _) hm (fa_routeWeightByBags hp I.1 hB9 ((xs (i + 1)))) (fP_to (by omega)) (mE_ofC (rp_routeWeightByBags IV.hc IV.h3 ((xs (i + 1)))) ⟨rfl, rfl, rfl⟩) (by first | exact rt1 _ | exact rt2 _ _ | exact rt3 _ _ _ | exact if1) (fun V1 F1 q => by first | exact (congrFun q.1 13).trans vU_s | exact (congrFun q.1 13).trans cV_13 | exact (congrFun q.1 13).trans ((vU_n (by decide)).trans vU_s)) (fun h' V1 F1 q I' => K h' V1 F1 n (by first | exact (congrFun q.1 10).trans ((vU_n (by decide)).trans h10) | exact (congrFun q.1 10).trans (cV_10.trans h10) | exact (congrFun q.1 10).trans ((vU_n (by decide)).trans ((vU_n (by decide)).trans h10)) | exact (congrFun q.1 10).trans vU_s) I')
set_option maxRecDepth 100000 in
theorem lc_39 (H : gHs Γ de mi d1 d10 vf sr ss nm ka sm ks kss) (hsa : gPa Γ .int sc L (fun j => .int (xs j))) (hL : L ≤ 2048) (hi : i + 3 < L) (I : LI Γ de h m o ad out outD V F B) (hB9 : B ≤ 9000) {n : Nat} (h10 : V 10 = nI n) (hn60 : n ≤ 60) (K : ∀ h' V1 F1 n', V1 10 = nI n' → LI Γ de h' m o ad out outD V1 F1 (B + 12) → G Γ M_L_law 32 mc ms Z ZX qc (qs + 520 * n') 3368 (L0 sc m o out outD i) [] h') : G Γ M_L_law 32 mc ms Z ZX (qc + 1000) (qs + 13600 + 520 * n) 2308 (L0 sc m o out outD i) [] h := by
  obtain ⟨hd, hpl, hp, hps, hpt, hnm, hkw, hsw, hnc⟩ := H
  obtain ⟨nx, o9, svv, hl, tt, bu, sb, fo, hm, HO, IV, hnx⟩ := I.1.ro
  obtain ⟨r, hr8, h6⟩ := I.1.v6
  refine g_weak (rc' := qc + 1000) (rs' := qs + 520 * n + 13000) (L' := L0 sc m o out outD i) ⟨rfl, rfl, rfl, rfl, rfl, rfl, True.intro⟩ (Nat.le_refl _) (by omega) ?_
  exact lq_39 hd hnc hsa hL hi I (fs := _) hm (fa_cutoff hp I.1 hB9 ((xs (i + 1)))) (fP_to (by omega)) (mE_ofC (r_cutoff ((xs (i + 1)))) ⟨rfl, rfl, rfl⟩) (by first | exact rt1 _ | exact rt2 _ _ | exact rt3 _ _ _ | exact if1) (fun V1 F1 q => by first | exact (congrFun q.1 13).trans vU_s | exact (congrFun q.1 13).trans cV_13 | exact (congrFun q.1 13).trans ((vU_n (by decide)).trans vU_s)) (fun h' V1 F1 q I' => K h' V1 F1 n (by first | exact (congrFun q.1 10).trans ((vU_n (by decide)).trans h10) | exact (congrFun q.1 10).trans (cV_10.trans h10) | exact (congrFun q.1 10).trans ((vU_n (by decide)).trans ((vU_n (by decide)).trans h10)) | exact (congrFun q.1 10).trans vU_s) I')
set_option maxRecDepth 100000 in
theorem lc_40 (H : gHs Γ de mi d1 d10 vf sr ss nm ka sm ks kss) (hsa : gPa Γ .int sc L (fun j => .int (xs j))) (hL : L ≤ 2048) (hi : i + 3 < L) (I : LI Γ de h m o ad out outD V F B) (hB9 : B ≤ 9000) {n : Nat} (h10 : V 10 = nI n) (hn60 : n ≤ 60) (K : ∀ h' V1 F1 n', V1 10 = nI n' → LI Γ de h' m o ad out outD V1 F1 (B + 12) → G Γ M_L_law 32 mc ms Z ZX qc (qs + 520 * n') 3368 (L0 sc m o out outD i) [] h') : G Γ M_L_law 32 mc ms Z ZX (qc + 1000) (qs + 13600 + 520 * n) 2364 (L0 sc m o out outD i) [] h := by
  obtain ⟨hd, hpl, hp, hps, hpt, hnm, hkw, hsw, hnc⟩ := H
  obtain ⟨nx, o9, svv, hl, tt, bu, sb, fo, hm, HO, IV, hnx⟩ := I.1.ro
  obtain ⟨r, hr8, h6⟩ := I.1.v6
  refine g_weak (rc' := qc + 1000) (rs' := qs + 520 * n + 13000) (L' := L0 sc m o out outD i) ⟨rfl, rfl, rfl, rfl, rfl, rfl, True.intro⟩ (Nat.le_refl _) (by omega) ?_
  exact lq_40 hd hnc hsa hL hi I (fs := _) hm (fa_departure hp I.1 hB9 ((xs (i + 1)))) (fP_to (by omega)) (mE_ofC (r_departure ((xs (i + 1)))) ⟨rfl, rfl, rfl⟩) (by first | exact rt1 _ | exact rt2 _ _ | exact rt3 _ _ _ | exact if1) (fun V1 F1 q => by first | exact (congrFun q.1 13).trans vU_s | exact (congrFun q.1 13).trans cV_13 | exact (congrFun q.1 13).trans ((vU_n (by decide)).trans vU_s)) (fun h' V1 F1 q I' => K h' V1 F1 n (by first | exact (congrFun q.1 10).trans ((vU_n (by decide)).trans h10) | exact (congrFun q.1 10).trans (cV_10.trans h10) | exact (congrFun q.1 10).trans ((vU_n (by decide)).trans ((vU_n (by decide)).trans h10)) | exact (congrFun q.1 10).trans vU_s) I')
set_option maxRecDepth 100000 in
theorem lc_41 (H : gHs Γ de mi d1 d10 vf sr ss nm ka sm ks kss) (hsa : gPa Γ .int sc L (fun j => .int (xs j))) (hL : L ≤ 2048) (hi : i + 3 < L) (I : LI Γ de h m o ad out outD V F B) (hB9 : B ≤ 9000) {n : Nat} (h10 : V 10 = nI n) (hn60 : n ≤ 60) (K : ∀ h' V1 F1 n', V1 10 = nI n' → LI Γ de h' m o ad out outD V1 F1 (B + 12) → G Γ M_L_law 32 mc ms Z ZX qc (qs + 520 * n') 3368 (L0 sc m o out outD i) [] h') : G Γ M_L_law 32 mc ms Z ZX (qc + 1000) (qs + 13600 + 520 * n) 2420 (L0 sc m o out outD i) [] h := by
  obtain ⟨hd, hpl, hp, hps, hpt, hnm, hkw, hsw, hnc⟩ := H
  obtain ⟨nx, o9, svv, hl, tt, bu, sb, fo, hm, HO, IV, hnx⟩ := I.1.ro
  obtain ⟨r, hr8, h6⟩ := I.1.v6
  refine g_weak (rc' := qc + 1000) (rs' := qs + 520 * n + 13000) (L' := L0 sc m o out outD i) ⟨rfl, rfl, rfl, rfl, rfl, rfl, True.intro⟩ (Nat.le_refl _) (by omega) ?_
  exact lq_41 hd hnc hsa hL hi I (fs := _) hm (fa_hoursToDeparture hp I.1 hB9 ((xs (i + 1)))) (fP_to (by omega)) (mE_ofC (rp_hoursToDeparture ((xs (i + 1)))) ⟨rfl, rfl, rfl⟩) (by first | exact rt1 _ | exact rt2 _ _ | exact rt3 _ _ _ | exact if1) (fun V1 F1 q => by first | exact (congrFun q.1 13).trans vU_s | exact (congrFun q.1 13).trans cV_13 | exact (congrFun q.1 13).trans ((vU_n (by decide)).trans vU_s)) (fun h' V1 F1 q I' => K h' V1 F1 n (by first | exact (congrFun q.1 10).trans ((vU_n (by decide)).trans h10) | exact (congrFun q.1 10).trans (cV_10.trans h10) | exact (congrFun q.1 10).trans ((vU_n (by decide)).trans ((vU_n (by decide)).trans h10)) | exact (congrFun q.1 10).trans vU_s) I')
set_option maxRecDepth 100000 in
theorem lc_42 (H : gHs Γ de mi d1 d10 vf sr ss nm ka sm ks kss) (hsa : gPa Γ .int sc L (fun j => .int (xs j))) (hL : L ≤ 2048) (hi : i + 3 < L) (I : LI Γ de h m o ad out outD V F B) (hB9 : B ≤ 9000) {n : Nat} (h10 : V 10 = nI n) (hn60 : n ≤ 60) (K : ∀ h' V1 F1 n', V1 10 = nI n' → LI Γ de h' m o ad out outD V1 F1 (B + 12) → G Γ M_L_law 32 mc ms Z ZX qc (qs + 520 * n') 3368 (L0 sc m o out outD i) [] h') : G Γ M_L_law 32 mc ms Z ZX (qc + 1000) (qs + 13600 + 520 * n) 2476 (L0 sc m o out outD i) [] h := by
  obtain ⟨hd, hpl, hp, hps, hpt, hnm, hkw, hsw, hnc⟩ := H
  obtain ⟨nx, o9, svv, hl, tt, bu, sb, fo, hm, HO, IV, hnx⟩ := I.1.ro
  obtain ⟨r, hr8, h6⟩ := I.1.v6
  refine g_weak (rc' := qc + 1000) (rs' := qs + 520 * n + 13000) (L' := L0 sc m o out outD i) ⟨rfl, rfl, rfl, rfl, rfl, rfl, True.intro⟩ (Nat.le_refl _) (by omega) ?_
  exact lq_42 hd hnc hsa hL hi I (fs := _) hm (fa_hoursToDelivery hp I.1 hB9 ((xs (i + 1)))) (fP_to (by omega)) (mE_ofC (rp_hoursToDelivery IV.hc IV.h3 IV.ht IV.h4 ((xs (i + 1)))) ⟨rfl, rfl, rfl⟩) (by first | exact rt1 _ | exact rt2 _ _ | exact rt3 _ _ _ | exact if1) (fun V1 F1 q => by first | exact (congrFun q.1 13).trans vU_s | exact (congrFun q.1 13).trans cV_13 | exact (congrFun q.1 13).trans ((vU_n (by decide)).trans vU_s)) (fun h' V1 F1 q I' => K h' V1 F1 n (by first | exact (congrFun q.1 10).trans ((vU_n (by decide)).trans h10) | exact (congrFun q.1 10).trans (cV_10.trans h10) | exact (congrFun q.1 10).trans ((vU_n (by decide)).trans ((vU_n (by decide)).trans h10)) | exact (congrFun q.1 10).trans vU_s) I')
set_option maxRecDepth 100000 in
theorem lc_43 (H : gHs Γ de mi d1 d10 vf sr ss nm ka sm ks kss) (hsa : gPa Γ .int sc L (fun j => .int (xs j))) (hL : L ≤ 2048) (hi : i + 3 < L) (I : LI Γ de h m o ad out outD V F B) (hB9 : B ≤ 9000) {n : Nat} (h10 : V 10 = nI n) (hn60 : n ≤ 60) (K : ∀ h' V1 F1 n', V1 10 = nI n' → LI Γ de h' m o ad out outD V1 F1 (B + 12) → G Γ M_L_law 32 mc ms Z ZX qc (qs + 520 * n') 3368 (L0 sc m o out outD i) [] h') : G Γ M_L_law 32 mc ms Z ZX (qc + 1000) (qs + 13600 + 520 * n) 2532 (L0 sc m o out outD i) [] h := by
  obtain ⟨hd, hpl, hp, hps, hpt, hnm, hkw, hsw, hnc⟩ := H
  obtain ⟨nx, o9, svv, hl, tt, bu, sb, fo, hm, HO, IV, hnx⟩ := I.1.ro
  obtain ⟨r, hr8, h6⟩ := I.1.v6
  refine g_weak (rc' := qc + 1000) (rs' := qs + 520 * n + 13000) (L' := L0 sc m o out outD i) ⟨rfl, rfl, rfl, rfl, rfl, rfl, True.intro⟩ (Nat.le_refl _) (by omega) ?_
  exact lq_43 hd hnc hsa hL hi I (fs := _) hm (fa_hoursToDeliveryByHours hd hpl hp I.1 hB9 ((xs (i + 1)))) (fP_to (by omega)) (mE_ofC (rp_hoursToDeliveryByHours IV.hc IV.h3 IV.ht IV.h4 ((xs (i + 1)))) ⟨rfl, rfl, rfl⟩) (by first | exact rt1 _ | exact rt2 _ _ | exact rt3 _ _ _ | exact if1) (fun V1 F1 q => by first | exact (congrFun q.1 13).trans vU_s | exact (congrFun q.1 13).trans cV_13 | exact (congrFun q.1 13).trans ((vU_n (by decide)).trans vU_s)) (fun h' V1 F1 q I' => K h' V1 F1 n (by first | exact (congrFun q.1 10).trans ((vU_n (by decide)).trans h10) | exact (congrFun q.1 10).trans (cV_10.trans h10) | exact (congrFun q.1 10).trans ((vU_n (by decide)).trans ((vU_n (by decide)).trans h10)) | exact (congrFun q.1 10).trans vU_s) I')
set_option maxRecDepth 100000 in
theorem lc_44 (H : gHs Γ de mi d1 d10 vf sr ss nm ka sm ks kss) (hsa : gPa Γ .int sc L (fun j => .int (xs j))) (hL : L ≤ 2048) (hi : i + 3 < L) (I : LI Γ de h m o ad out outD V F B) (hB9 : B ≤ 9000) {n : Nat} (h10 : V 10 = nI n) (hn60 : n ≤ 60) (K : ∀ h' V1 F1 n', V1 10 = nI n' → LI Γ de h' m o ad out outD V1 F1 (B + 12) → G Γ M_L_law 32 mc ms Z ZX qc (qs + 520 * n') 3368 (L0 sc m o out outD i) [] h') : G Γ M_L_law 32 mc ms Z ZX (qc + 1000) (qs + 13600 + 520 * n) 2588 (L0 sc m o out outD i) [] h := by
  obtain ⟨hd, hpl, hp, hps, hpt, hnm, hkw, hsw, hnc⟩ := H
  obtain ⟨nx, o9, svv, hl, tt, bu, sb, fo, hm, HO, IV, hnx⟩ := I.1.ro
  obtain ⟨r, hr8, h6⟩ := I.1.v6
  refine g_weak (rc' := qc + 1000) (rs' := qs + 520 * n + 13000) (L' := L0 sc m o out outD i) ⟨rfl, rfl, rfl, rfl, rfl, rfl, True.intro⟩ (Nat.le_refl _) (by omega) ?_
  exact lq_44 hd hnc hsa hL hi I (fs := _) hm (fa_freeWeight hp I.1 hB9 ((xs (i + 1)))) (fP_to (by omega)) (mE_ofC (rp_freeWeight IV.hc IV.h3 ((xs (i + 1)))) ⟨rfl, rfl, rfl⟩) (by first | exact rt1 _ | exact rt2 _ _ | exact rt3 _ _ _ | exact if1) (fun V1 F1 q => by first | exact (congrFun q.1 13).trans vU_s | exact (congrFun q.1 13).trans cV_13 | exact (congrFun q.1 13).trans ((vU_n (by decide)).trans vU_s)) (fun h' V1 F1 q I' => K h' V1 F1 n (by first | exact (congrFun q.1 10).trans ((vU_n (by decide)).trans h10) | exact (congrFun q.1 10).trans (cV_10.trans h10) | exact (congrFun q.1 10).trans ((vU_n (by decide)).trans ((vU_n (by decide)).trans h10)) | exact (congrFun q.1 10).trans vU_s) I')
set_option maxRecDepth 100000 in
theorem lc_45 (H : gHs Γ de mi d1 d10 vf sr ss nm ka sm ks kss) (hsa : gPa Γ .int sc L (fun j => .int (xs j))) (hL : L ≤ 2048) (hi : i + 3 < L) (I : LI Γ de h m o ad out outD V F B) (hB9 : B ≤ 9000) {n : Nat} (h10 : V 10 = nI n) (hn60 : n ≤ 60) (K : ∀ h' V1 F1 n', V1 10 = nI n' → LI Γ de h' m o ad out outD V1 F1 (B + 12) → G Γ M_L_law 32 mc ms Z ZX qc (qs + 520 * n') 3368 (L0 sc m o out outD i) [] h') : G Γ M_L_law 32 mc ms Z ZX (qc + 1000) (qs + 13600 + 520 * n) 2644 (L0 sc m o out outD i) [] h := by
  obtain ⟨hd, hpl, hp, hps, hpt, hnm, hkw, hsw, hnc⟩ := H
  obtain ⟨nx, o9, svv, hl, tt, bu, sb, fo, hm, HO, IV, hnx⟩ := I.1.ro
  obtain ⟨r, hr8, h6⟩ := I.1.v6
  obtain ⟨b9, hb9, eb9⟩ := IV.OK (rIx (xs (i + 1))) (rIx_le _)
  have eo : rOp (F 0) (xs (i + 1)) = b9 := by unfold rOp; rw [eb9, nI_clamp (by omega)]
  have R := rp_fullestBag (Γ := Γ) (o := o) (ad := ad) (V := V) IV.hc IV.h3 (xs (i + 1)) hb9 eb9
  rw [← eo] at R
  refine g_weak (rc' := qc + 1000) (rs' := qs + 520 * n + 13000) (L' := L0 sc m o out outD i) ⟨rfl, rfl, rfl, rfl, rfl, rfl, True.intro⟩ (Nat.le_refl _) (by omega) ?_
  exact lq_45 hd hnc hsa hL hi I (fs := _) hm (fa_fullestBag hp I.1 hB9 (xs (i + 1))) (fP_to (by omega)) (mE_ofC (R) ⟨rfl, rfl, rfl⟩) (by first | exact rt1 _ | exact rt2 _ _ | exact rt3 _ _ _ | exact if1) (fun V1 F1 q => by first | exact (congrFun q.1 13).trans vU_s | exact (congrFun q.1 13).trans cV_13 | exact (congrFun q.1 13).trans ((vU_n (by decide)).trans vU_s)) (fun h' V1 F1 q I' => K h' V1 F1 n (by first | exact (congrFun q.1 10).trans ((vU_n (by decide)).trans h10) | exact (congrFun q.1 10).trans (cV_10.trans h10) | exact (congrFun q.1 10).trans ((vU_n (by decide)).trans ((vU_n (by decide)).trans h10)) | exact (congrFun q.1 10).trans vU_s) I')
set_option maxRecDepth 100000 in
theorem lc_46 (H : gHs Γ de mi d1 d10 vf sr ss nm ka sm ks kss) (hsa : gPa Γ .int sc L (fun j => .int (xs j))) (hL : L ≤ 2048) (hi : i + 3 < L) (I : LI Γ de h m o ad out outD V F B) (hB9 : B ≤ 9000) {n : Nat} (h10 : V 10 = nI n) (hn60 : n ≤ 60) (K : ∀ h' V1 F1 n', V1 10 = nI n' → LI Γ de h' m o ad out outD V1 F1 (B + 12) → G Γ M_L_law 32 mc ms Z ZX qc (qs + 520 * n') 3368 (L0 sc m o out outD i) [] h') : G Γ M_L_law 32 mc ms Z ZX (qc + 1000) (qs + 13600 + 520 * n) 2700 (L0 sc m o out outD i) [] h := by
  obtain ⟨hd, hpl, hp, hps, hpt, hnm, hkw, hsw, hnc⟩ := H
  obtain ⟨nx, o9, svv, hl, tt, bu, sb, fo, hm, HO, IV, hnx⟩ := I.1.ro
  obtain ⟨r, hr8, h6⟩ := I.1.v6
  refine g_weak (rc' := qc + 1000) (rs' := qs + 520 * n + 13000) (L' := L0 sc m o out outD i) ⟨rfl, rfl, rfl, rfl, rfl, rfl, True.intro⟩ (Nat.le_refl _) (by omega) ?_
  exact lq_46 hd hnc hsa hL hi I (fs := _) hm (fa_routeByWeight hp I.1 hB9 ((xs (i + 1)))) (fP_to (by omega)) (mE_ofC (rp_routeByWeight IV.hc IV.h3 ((xs (i + 1)))) ⟨rfl, rfl, rfl⟩) (by first | exact rt1 _ | exact rt2 _ _ | exact rt3 _ _ _ | exact if1) (fun V1 F1 q => by first | exact (congrFun q.1 13).trans vU_s | exact (congrFun q.1 13).trans cV_13 | exact (congrFun q.1 13).trans ((vU_n (by decide)).trans vU_s)) (fun h' V1 F1 q I' => K h' V1 F1 n (by first | exact (congrFun q.1 10).trans ((vU_n (by decide)).trans h10) | exact (congrFun q.1 10).trans (cV_10.trans h10) | exact (congrFun q.1 10).trans ((vU_n (by decide)).trans ((vU_n (by decide)).trans h10)) | exact (congrFun q.1 10).trans vU_s) I')
set_option maxRecDepth 100000 in
theorem lc_47 (H : gHs Γ de mi d1 d10 vf sr ss nm ka sm ks kss) (hsa : gPa Γ .int sc L (fun j => .int (xs j))) (hL : L ≤ 2048) (hi : i + 3 < L) (I : LI Γ de h m o ad out outD V F B) (hB9 : B ≤ 9000) {n : Nat} (h10 : V 10 = nI n) (hn60 : n ≤ 60) (K : ∀ h' V1 F1 n', V1 10 = nI n' → LI Γ de h' m o ad out outD V1 F1 (B + 12) → G Γ M_L_law 32 mc ms Z ZX qc (qs + 520 * n') 3368 (L0 sc m o out outD i) [] h') : G Γ M_L_law 32 mc ms Z ZX (qc + 1000) (qs + 13600 + 520 * n) 2756 (L0 sc m o out outD i) [] h := by
  obtain ⟨hd, hpl, hp, hps, hpt, hnm, hkw, hsw, hnc⟩ := H
  obtain ⟨nx, o9, svv, hl, tt, bu, sb, fo, hm, HO, IV, hnx⟩ := I.1.ro
  obtain ⟨r, hr8, h6⟩ := I.1.v6
  refine g_weak (rc' := qc + 1000) (rs' := qs + 520 * n + 13000) (L' := L0 sc m o out outD i) ⟨rfl, rfl, rfl, rfl, rfl, rfl, True.intro⟩ (Nat.le_refl _) (by omega) ?_
  exact lq_47 hd hnc hsa hL hi I (fs := _) hm (fa_missortedCount I.1 hB9) (fP_to (by omega)) (mE_ofC (rp_missortedCount IV.hc IV.h3 IV.ht IV.h4) ⟨rfl, rfl, rfl⟩) (fun h' V1 F1 q I' => K h' V1 F1 n (by first | exact (congrFun q.1 10).trans ((vU_n (by decide)).trans h10) | exact (congrFun q.1 10).trans (cV_10.trans h10) | exact (congrFun q.1 10).trans ((vU_n (by decide)).trans ((vU_n (by decide)).trans h10)) | exact (congrFun q.1 10).trans vU_s) I')
set_option maxRecDepth 100000 in
theorem lc_48 (H : gHs Γ de mi d1 d10 vf sr ss nm ka sm ks kss) (hsa : gPa Γ .int sc L (fun j => .int (xs j))) (hL : L ≤ 2048) (hi : i + 3 < L) (I : LI Γ de h m o ad out outD V F B) (hB9 : B ≤ 9000) {n : Nat} (h10 : V 10 = nI n) (hn60 : n ≤ 60) (K : ∀ h' V1 F1 n', V1 10 = nI n' → LI Γ de h' m o ad out outD V1 F1 (B + 12) → G Γ M_L_law 32 mc ms Z ZX qc (qs + 520 * n') 3368 (L0 sc m o out outD i) [] h') : G Γ M_L_law 32 mc ms Z ZX (qc + 1000) (qs + 13600 + 520 * n) 2769 (L0 sc m o out outD i) [] h := by
  obtain ⟨hd, hpl, hp, hps, hpt, hnm, hkw, hsw, hnc⟩ := H
  obtain ⟨nx, o9, svv, hl, tt, bu, sb, fo, hm, HO, IV, hnx⟩ := I.1.ro
  obtain ⟨r, hr8, h6⟩ := I.1.v6
  refine g_weak (rc' := qc + 1000) (rs' := qs + 520 * n + 13000) (L' := L0 sc m o out outD i) ⟨rfl, rfl, rfl, rfl, rfl, rfl, True.intro⟩ (Nat.le_refl _) (by omega) ?_
  exact lq_48 hd hnc hsa hL hi I (fs := _) hm (fa_deliveredCount I.1 hB9) (fP_to (by omega)) (mE_ofC (r_deliveredCount ) ⟨rfl, rfl, rfl⟩) (fun h' V1 F1 q I' => K h' V1 F1 n (by first | exact (congrFun q.1 10).trans ((vU_n (by decide)).trans h10) | exact (congrFun q.1 10).trans (cV_10.trans h10) | exact (congrFun q.1 10).trans ((vU_n (by decide)).trans ((vU_n (by decide)).trans h10)) | exact (congrFun q.1 10).trans vU_s) I')
set_option maxRecDepth 100000 in
theorem lc_49 (H : gHs Γ de mi d1 d10 vf sr ss nm ka sm ks kss) (hsa : gPa Γ .int sc L (fun j => .int (xs j))) (hL : L ≤ 2048) (hi : i + 3 < L) (I : LI Γ de h m o ad out outD V F B) (hB9 : B ≤ 9000) {n : Nat} (h10 : V 10 = nI n) (hn60 : n ≤ 60) (K : ∀ h' V1 F1 n', V1 10 = nI n' → LI Γ de h' m o ad out outD V1 F1 (B + 12) → G Γ M_L_law 32 mc ms Z ZX qc (qs + 520 * n') 3368 (L0 sc m o out outD i) [] h') : G Γ M_L_law 32 mc ms Z ZX (qc + 1000) (qs + 13600 + 520 * n) 2782 (L0 sc m o out outD i) [] h := by
  obtain ⟨hd, hpl, hp, hps, hpt, hnm, hkw, hsw, hnc⟩ := H
  obtain ⟨nx, o9, svv, hl, tt, bu, sb, fo, hm, HO, IV, hnx⟩ := I.1.ro
  obtain ⟨r, hr8, h6⟩ := I.1.v6
  refine g_weak (rc' := qc + 1000) (rs' := qs + 520 * n + 13000) (L' := L0 sc m o out outD i) ⟨rfl, rfl, rfl, rfl, rfl, rfl, True.intro⟩ (Nat.le_refl _) (by omega) ?_
  exact lq_49 hd hnc hsa hL hi I (fs := _) hm (fa_deadCount I.1 hB9) (fP_to (by omega)) (mE_ofC (r_deadCount ) ⟨rfl, rfl, rfl⟩) (fun h' V1 F1 q I' => K h' V1 F1 n (by first | exact (congrFun q.1 10).trans ((vU_n (by decide)).trans h10) | exact (congrFun q.1 10).trans (cV_10.trans h10) | exact (congrFun q.1 10).trans ((vU_n (by decide)).trans ((vU_n (by decide)).trans h10)) | exact (congrFun q.1 10).trans vU_s) I')
set_option maxRecDepth 100000 in
theorem lc_50 (H : gHs Γ de mi d1 d10 vf sr ss nm ka sm ks kss) (hsa : gPa Γ .int sc L (fun j => .int (xs j))) (hL : L ≤ 2048) (hi : i + 3 < L) (I : LI Γ de h m o ad out outD V F B) (hB9 : B ≤ 9000) {n : Nat} (h10 : V 10 = nI n) (hn60 : n ≤ 60) (K : ∀ h' V1 F1 n', V1 10 = nI n' → LI Γ de h' m o ad out outD V1 F1 (B + 12) → G Γ M_L_law 32 mc ms Z ZX qc (qs + 520 * n') 3368 (L0 sc m o out outD i) [] h') : G Γ M_L_law 32 mc ms Z ZX (qc + 1000) (qs + 13600 + 520 * n) 2795 (L0 sc m o out outD i) [] h := by
  obtain ⟨hd, hpl, hp, hps, hpt, hnm, hkw, hsw, hnc⟩ := H
  obtain ⟨nx, o9, svv, hl, tt, bu, sb, fo, hm, HO, IV, hnx⟩ := I.1.ro
  obtain ⟨r, hr8, h6⟩ := I.1.v6
  refine g_weak (rc' := qc + 1000) (rs' := qs + 520 * n + 13000) (L' := L0 sc m o out outD i) ⟨rfl, rfl, rfl, rfl, rfl, rfl, True.intro⟩ (Nat.le_refl _) (by omega) ?_
  exact lq_50 hd hnc hsa hL hi I (fs := _) hm (fa_returnCount I.1 hB9) (fP_to (by omega)) (mE_ofC (r_returnCount ) ⟨rfl, rfl, rfl⟩) (fun h' V1 F1 q I' => K h' V1 F1 n (by first | exact (congrFun q.1 10).trans ((vU_n (by decide)).trans h10) | exact (congrFun q.1 10).trans (cV_10.trans h10) | exact (congrFun q.1 10).trans ((vU_n (by decide)).trans ((vU_n (by decide)).trans h10)) | exact (congrFun q.1 10).trans vU_s) I')
set_option maxRecDepth 100000 in
theorem lc_51 (H : gHs Γ de mi d1 d10 vf sr ss nm ka sm ks kss) (hsa : gPa Γ .int sc L (fun j => .int (xs j))) (hL : L ≤ 2048) (hi : i + 3 < L) (I : LI Γ de h m o ad out outD V F B) (hB9 : B ≤ 9000) {n : Nat} (h10 : V 10 = nI n) (hn60 : n ≤ 60) (K : ∀ h' V1 F1 n', V1 10 = nI n' → LI Γ de h' m o ad out outD V1 F1 (B + 12) → G Γ M_L_law 32 mc ms Z ZX qc (qs + 520 * n') 3368 (L0 sc m o out outD i) [] h') : G Γ M_L_law 32 mc ms Z ZX (qc + 1000) (qs + 13600 + 520 * n) 2808 (L0 sc m o out outD i) [] h := by
  obtain ⟨hd, hpl, hp, hps, hpt, hnm, hkw, hsw, hnc⟩ := H
  obtain ⟨nx, o9, svv, hl, tt, bu, sb, fo, hm, HO, IV, hnx⟩ := I.1.ro
  obtain ⟨r, hr8, h6⟩ := I.1.v6
  refine g_weak (rc' := qc + 1000) (rs' := qs + 520 * n + 13000) (L' := L0 sc m o out outD i) ⟨rfl, rfl, rfl, rfl, rfl, rfl, True.intro⟩ (Nat.le_refl _) (by omega) ?_
  exact lq_51 hd hnc hsa hL hi I (fs := _) hm (fa_meanWeight hp I.1 hB9) (fP_to (by omega)) (mE_ofC (rp_meanWeight IV (by omega)) ⟨rfl, rfl, rfl⟩) (by first | exact rt1 _ | exact rt2 _ _ | exact rt3 _ _ _ | exact if1) (fun V1 F1 q => by first | exact (congrFun q.1 13).trans vU_s | exact (congrFun q.1 13).trans cV_13 | exact (congrFun q.1 13).trans ((vU_n (by decide)).trans vU_s)) (fun h' V1 F1 q I' => K h' V1 F1 n (by first | exact (congrFun q.1 10).trans ((vU_n (by decide)).trans h10) | exact (congrFun q.1 10).trans (cV_10.trans h10) | exact (congrFun q.1 10).trans ((vU_n (by decide)).trans ((vU_n (by decide)).trans h10)) | exact (congrFun q.1 10).trans vU_s) I')
set_option maxRecDepth 100000 in
theorem lc_52 (H : gHs Γ de mi d1 d10 vf sr ss nm ka sm ks kss) (hsa : gPa Γ .int sc L (fun j => .int (xs j))) (hL : L ≤ 2048) (hi : i + 3 < L) (I : LI Γ de h m o ad out outD V F B) (hB9 : B ≤ 9000) {n : Nat} (h10 : V 10 = nI n) (hn60 : n ≤ 60) (K : ∀ h' V1 F1 n', V1 10 = nI n' → LI Γ de h' m o ad out outD V1 F1 (B + 12) → G Γ M_L_law 32 mc ms Z ZX qc (qs + 520 * n') 3368 (L0 sc m o out outD i) [] h') : G Γ M_L_law 32 mc ms Z ZX (qc + 1000) (qs + 13600 + 520 * n) 2873 (L0 sc m o out outD i) [] h := by
  obtain ⟨hd, hpl, hp, hps, hpt, hnm, hkw, hsw, hnc⟩ := H
  obtain ⟨nx, o9, svv, hl, tt, bu, sb, fo, hm, HO, IV, hnx⟩ := I.1.ro
  obtain ⟨r, hr8, h6⟩ := I.1.v6
  have en : (F 0 2).toNatClampNeg = nx := by rw [IV.n2, nI_clamp (by omega)]
  have R := rp_deliveredShare (Γ := Γ) (o := o) (ad := ad) (V := V) IV (by omega)
  rw [← en] at R
  have hx : vf_n32 (if (F 0 2).toNatClampNeg = 0 then FP.fconst0 else rSh2 (F 0)) := by
    split
    · unfold vf_n32; decide
    · next z => exact rSh2_n IV (by omega) (fun y => z (en.trans y))
  refine g_weak (rc' := qc + 1000) (rs' := qs + 520 * n + 13000) (L' := L0 sc m o out outD i) ⟨rfl, rfl, rfl, rfl, rfl, rfl, True.intro⟩ (Nat.le_refl _) (by omega) ?_
  exact lq_52 hd hnc hsa hL hi I (fs := _) hm (fa_deliveredShare hp I.1 hB9) (fP_to (by omega)) (mE_ofC (R) ⟨rfl, rfl, rfl⟩) if1 (f2d_n64 hx) (fun _ => hx) (fun V1 F1 q => by first | exact (congrFun q.1 13).trans vU_s | exact (congrFun q.1 13).trans cV_13 | exact (congrFun q.1 13).trans ((vU_n (by decide)).trans vU_s)) (fun h' V1 F1 q I' => K h' V1 F1 n (by first | exact (congrFun q.1 10).trans ((vU_n (by decide)).trans h10) | exact (congrFun q.1 10).trans (cV_10.trans h10) | exact (congrFun q.1 10).trans ((vU_n (by decide)).trans ((vU_n (by decide)).trans h10)) | exact (congrFun q.1 10).trans vU_s) I')
set_option maxRecDepth 100000 in
theorem lc_53 (H : gHs Γ de mi d1 d10 vf sr ss nm ka sm ks kss) (hsa : gPa Γ .int sc L (fun j => .int (xs j))) (hL : L ≤ 2048) (hi : i + 3 < L) (I : LI Γ de h m o ad out outD V F B) (hB9 : B ≤ 9000) {n : Nat} (h10 : V 10 = nI n) (hn60 : n ≤ 60) (K : ∀ h' V1 F1 n', V1 10 = nI n' → LI Γ de h' m o ad out outD V1 F1 (B + 12) → G Γ M_L_law 32 mc ms Z ZX qc (qs + 520 * n') 3368 (L0 sc m o out outD i) [] h') : G Γ M_L_law 32 mc ms Z ZX (qc + 1000) (qs + 13600 + 520 * n) 2939 (L0 sc m o out outD i) [] h := by
  obtain ⟨hd, hpl, hp, hps, hpt, hnm, hkw, hsw, hnc⟩ := H
  obtain ⟨nx, o9, svv, hl, tt, bu, sb, fo, hm, HO, IV, hnx⟩ := I.1.ro
  obtain ⟨r, hr8, h6⟩ := I.1.v6
  refine g_weak (rc' := qc + 1000) (rs' := qs + 520 * n + 13000) (L' := L0 sc m o out outD i) ⟨rfl, rfl, rfl, rfl, rfl, rfl, True.intro⟩ (Nat.le_refl _) (by omega) ?_
  exact lq_53 hd hnc hsa hL hi I (fs := _) hm (fa_isConsistent I.1 hB9) (fP_to (by omega)) (mE_ofC (r_isConsistent ) ⟨rfl, rfl, rfl⟩) (fun h' V1 F1 q I' => K h' V1 F1 n (by first | exact (congrFun q.1 10).trans ((vU_n (by decide)).trans h10) | exact (congrFun q.1 10).trans (cV_10.trans h10) | exact (congrFun q.1 10).trans ((vU_n (by decide)).trans ((vU_n (by decide)).trans h10)) | exact (congrFun q.1 10).trans vU_s) I')
set_option maxRecDepth 100000 in
theorem lc_54 (H : gHs Γ de mi d1 d10 vf sr ss nm ka sm ks kss) (hsa : gPa Γ .int sc L (fun j => .int (xs j))) (hL : L ≤ 2048) (hi : i + 3 < L) (I : LI Γ de h m o ad out outD V F B) (hB9 : B ≤ 9000) {n : Nat} (h10 : V 10 = nI n) (hn60 : n ≤ 60) (K : ∀ h' V1 F1 n', V1 10 = nI n' → LI Γ de h' m o ad out outD V1 F1 (B + 12) → G Γ M_L_law 32 mc ms Z ZX qc (qs + 520 * n') 3368 (L0 sc m o out outD i) [] h') : G Γ M_L_law 32 mc ms Z ZX (qc + 1000) (qs + 13600 + 520 * n) 2952 (L0 sc m o out outD i) [] h := by
  obtain ⟨hd, hpl, hp, hps, hpt, hnm, hkw, hsw, hnc⟩ := H
  obtain ⟨nx, o9, svv, hl, tt, bu, sb, fo, hm, HO, IV, hnx⟩ := I.1.ro
  obtain ⟨r, hr8, h6⟩ := I.1.v6
  by_cases hn : rPlace (F 0) (xs (i + 1)) (rc (F 0)) = -1
  · refine g_weak (rc' := qc + 1000) (rs' := qs + 520 * n + 13000) (L' := L0 sc m o out outD i) ⟨rfl, rfl, rfl, rfl, rfl, rfl, True.intro⟩ (Nat.le_refl _) (by omega) ?_
    exact lq_54 hd hnc hsa hL hi I (fs := _) hm (fa_formatLetter0 hp I.1 hB9 _ hn) (fP_to (by omega)) (mE_ofC (rp_formatLetter0 IV.hc IV.h3 _ hn) ⟨rfl, rfl, rfl⟩) (Or.inr rfl) (fun V1 F1 q => by first | exact (congrFun q.1 13).trans vU_s | exact (congrFun q.1 13).trans cV_13 | exact (congrFun q.1 13).trans ((vU_n (by decide)).trans vU_s)) (fun h' V1 F1 q I' => K h' V1 F1 n (by first | exact (congrFun q.1 10).trans ((vU_n (by decide)).trans h10) | exact (congrFun q.1 10).trans (cV_10.trans h10) | exact (congrFun q.1 10).trans ((vU_n (by decide)).trans ((vU_n (by decide)).trans h10)) | exact (congrFun q.1 10).trans vU_s) I')
  · have hc := IV.hc
    obtain ⟨p, hpc, ep⟩ : ∃ p, p < rc (F 0) ∧ rPlace (F 0) (xs (i + 1)) (rc (F 0)) = nI p := by
      rcases rPlace_in (N := F 0) (id := xs (i + 1)) (c := rc (F 0)) with z | z
      · exact absurd z hn
      · exact z
    have ex := rIdx_of (show p < 20 by omega) ep
    obtain ⟨m9, cd, w, pr, q, em, hm9, ecd, hcd, ew, hw1, hw, epr, hpr, eq, hq, hA⟩ := IV.lv (by omega) p hpc
    have hid : xs (i + 1) = nI m9 := (rPlace_id (by omega) ep (by omega)).symm.trans em
    obtain ⟨A, hA⟩ : ∃ A : Option (Nat × Nat), (A = none ∧ F 0 (62 + 7 * p + 5) = -1) ∨ ∃ a b, a < 10 ∧ b < 10 ∧ A = some (a, b) ∧ F 0 (62 + 7 * p + 5) = nI a ∧ F 0 (62 + 7 * p + 6) = nI b := by
      rcases hA with z | ⟨a, b, ha, hb, e1, e2⟩
      · exact ⟨none, Or.inl ⟨rfl, z⟩⟩
      · exact ⟨some (a, b), Or.inr ⟨a, b, by omega, by omega, rfl, e1, e2⟩⟩
    refine g_weak (rc' := qc + 1000) (rs' := qs + 520 * n + 13000) (L' := L0 sc m o out outD i) ⟨rfl, rfl, rfl, rfl, rfl, rfl, True.intro⟩ (Nat.le_refl _) (by omega) ?_
    exact lq_54 hd hnc hsa hL hi I (fs := _) hm (fa_formatLetter1 hps hpt I.1 hB9 _ hpc ep hm9 em hcd ecd (show w < 100 by omega) ew epr hpr eq (show q < 10 by omega) hA) (fP_to (by omega)) (mE_ofC (rp_formatLetter1 IV.hc IV.h3 _ hn hm9 hid hcd (by rw [ex]; exact ecd) (show w < 100 by omega) (by rw [ex]; exact ew) (by rw [ex]; exact epr) hpr (by rw [ex]; exact eq) (show q < 10 by omega) (by rw [ex]; exact hA)) ⟨rfl, rfl, rfl⟩) (Or.inl z0) (fun V1 F1 q => by first | exact (congrFun q.1 13).trans vU_s | exact (congrFun q.1 13).trans cV_13 | exact (congrFun q.1 13).trans ((vU_n (by decide)).trans vU_s)) (fun h' V1 F1 q I' => K h' V1 F1 n (by first | exact (congrFun q.1 10).trans ((vU_n (by decide)).trans h10) | exact (congrFun q.1 10).trans (cV_10.trans h10) | exact (congrFun q.1 10).trans ((vU_n (by decide)).trans ((vU_n (by decide)).trans h10)) | exact (congrFun q.1 10).trans vU_s) I')
set_option maxRecDepth 100000 in
theorem lc_55 (H : gHs Γ de mi d1 d10 vf sr ss nm ka sm ks kss) (hsa : gPa Γ .int sc L (fun j => .int (xs j))) (hL : L ≤ 2048) (hi : i + 3 < L) (I : LI Γ de h m o ad out outD V F B) (hB9 : B ≤ 9000) {n : Nat} (h10 : V 10 = nI n) (hn60 : n ≤ 60) (K : ∀ h' V1 F1 n', V1 10 = nI n' → LI Γ de h' m o ad out outD V1 F1 (B + 12) → G Γ M_L_law 32 mc ms Z ZX qc (qs + 520 * n') 3368 (L0 sc m o out outD i) [] h') : G Γ M_L_law 32 mc ms Z ZX (qc + 1000) (qs + 13600 + 520 * n) 3008 (L0 sc m o out outD i) [] h := by
  obtain ⟨hd, hpl, hp, hps, hpt, hnm, hkw, hsw, hnc⟩ := H
  obtain ⟨nx, o9, svv, hl, tt, bu, sb, fo, hm, HO, IV, hnx⟩ := I.1.ro
  obtain ⟨r, hr8, h6⟩ := I.1.v6
  obtain ⟨q, lx, h12, hq, hLx⟩ := I.1.tx11
  refine g_weak (rc' := qc + 1000) (rs' := qs + 520 * n + 13000) (L' := L0 sc m o out outD i) ⟨rfl, rfl, rfl, rfl, rfl, rfl, True.intro⟩ (Nat.le_refl _) (by omega) ?_
  exact lq_55 hd hnc hsa hL hi I (fs := _) hm (fa_lineChar hps hp I.1 h12 hq hLx (xs (i + 1))) (fP_to (by omega)) (mE_ofC (rp_lineChar h12 hq hLx (xs (i + 1))) ⟨rfl, rfl, rfl⟩) (by first | exact rt1 _ | exact rt2 _ _ | exact rt3 _ _ _ | exact if1) (fun V1 F1 q => by first | exact (congrFun q.1 13).trans vU_s | exact (congrFun q.1 13).trans cV_13 | exact (congrFun q.1 13).trans ((vU_n (by decide)).trans vU_s)) (fun h' V1 F1 q I' => K h' V1 F1 n (by first | exact (congrFun q.1 10).trans ((vU_n (by decide)).trans h10) | exact (congrFun q.1 10).trans (cV_10.trans h10) | exact (congrFun q.1 10).trans ((vU_n (by decide)).trans ((vU_n (by decide)).trans h10)) | exact (congrFun q.1 10).trans vU_s) I')
set_option maxRecDepth 100000 in
theorem lc_56 (H : gHs Γ de mi d1 d10 vf sr ss nm ka sm ks kss) (hsa : gPa Γ .int sc L (fun j => .int (xs j))) (hL : L ≤ 2048) (hi : i + 3 < L) (I : LI Γ de h m o ad out outD V F B) (hB9 : B ≤ 9000) {n : Nat} (h10 : V 10 = nI n) (hn60 : n ≤ 60) (K : ∀ h' V1 F1 n', V1 10 = nI n' → LI Γ de h' m o ad out outD V1 F1 (B + 12) → G Γ M_L_law 32 mc ms Z ZX qc (qs + 520 * n') 3368 (L0 sc m o out outD i) [] h') : G Γ M_L_law 32 mc ms Z ZX (qc + 1000) (qs + 13600 + 520 * n) 3064 (L0 sc m o out outD i) [] h := by
  obtain ⟨hd, hpl, hp, hps, hpt, hnm, hkw, hsw, hnc⟩ := H
  obtain ⟨nx, o9, svv, hl, tt, bu, sb, fo, hm, HO, IV, hnx⟩ := I.1.ro
  obtain ⟨r, hr8, h6⟩ := I.1.v6
  by_cases hx : nI 32 ≤ (((xs (i + 1)).toUInt32 % 65536).toInt32) ∧ (((xs (i + 1)).toUInt32 % 65536).toInt32) ≤ nI 126
  · by_cases hn : n < 60
    · refine g_weak (rc' := qc + 1000) (rs' := qs + 520 * (n + 1) + 13000) (L' := L0 sc m o out outD i) ⟨rfl, rfl, rfl, rfl, rfl, rfl, True.intro⟩ (Nat.le_refl _) (by omega) ?_
      exact lq_56 hd hnc hsa hL hi I (fs := _) hm (fa_append_ok hd I.1 h10 _ hn hx) (fP_to (by omega)) (mE_ofC (rp_append_ok h10 _ hn hx) ⟨rfl, rfl, rfl⟩) (Or.inl z0) (fun V1 F1 q => (congrFun q.1 13).trans ((vU_n (by decide)).trans vU_s)) (fun h' V1 F1 q I' => K h' V1 F1 (n + 1) (by first | exact (congrFun q.1 10).trans ((vU_n (by decide)).trans h10) | exact (congrFun q.1 10).trans (cV_10.trans h10) | exact (congrFun q.1 10).trans ((vU_n (by decide)).trans ((vU_n (by decide)).trans h10)) | exact (congrFun q.1 10).trans vU_s) I')
    · refine g_weak (rc' := qc + 1000) (rs' := qs + 520 * n + 13000) (L' := L0 sc m o out outD i) ⟨rfl, rfl, rfl, rfl, rfl, rfl, True.intro⟩ (Nat.le_refl _) (by omega) ?_
      exact lq_56 hd hnc hsa hL hi I (fs := _) hm (fa_append_full hp I.1 h10 _ (show n = 60 by omega) hx) (fP_to (by omega)) (mE_ofC (rp_append_full h10 _ (show n = 60 by omega) hx) ⟨rfl, rfl, rfl⟩) (Or.inr (Or.inr rfl)) (fun V1 F1 q => by first | exact (congrFun q.1 13).trans vU_s | exact (congrFun q.1 13).trans cV_13 | exact (congrFun q.1 13).trans ((vU_n (by decide)).trans vU_s)) (fun h' V1 F1 q I' => K h' V1 F1 n (by first | exact (congrFun q.1 10).trans ((vU_n (by decide)).trans h10) | exact (congrFun q.1 10).trans (cV_10.trans h10) | exact (congrFun q.1 10).trans ((vU_n (by decide)).trans ((vU_n (by decide)).trans h10)) | exact (congrFun q.1 10).trans vU_s) I')
  · refine g_weak (rc' := qc + 1000) (rs' := qs + 520 * n + 13000) (L' := L0 sc m o out outD i) ⟨rfl, rfl, rfl, rfl, rfl, rfl, True.intro⟩ (Nat.le_refl _) (by omega) ?_
    exact lq_56 hd hnc hsa hL hi I (fs := _) hm (fa_append_bad hp I.1 _ hx) (fP_to (by omega)) (mE_ofC (rp_append_bad h10 _ hx) ⟨rfl, rfl, rfl⟩) (Or.inr (Or.inl rfl)) (fun V1 F1 q => by first | exact (congrFun q.1 13).trans vU_s | exact (congrFun q.1 13).trans cV_13 | exact (congrFun q.1 13).trans ((vU_n (by decide)).trans vU_s)) (fun h' V1 F1 q I' => K h' V1 F1 n (by first | exact (congrFun q.1 10).trans ((vU_n (by decide)).trans h10) | exact (congrFun q.1 10).trans (cV_10.trans h10) | exact (congrFun q.1 10).trans ((vU_n (by decide)).trans ((vU_n (by decide)).trans h10)) | exact (congrFun q.1 10).trans vU_s) I')
set_option maxRecDepth 100000 in
theorem lc_57 (H : gHs Γ de mi d1 d10 vf sr ss nm ka sm ks kss) (hsa : gPa Γ .int sc L (fun j => .int (xs j))) (hL : L ≤ 2048) (hi : i + 3 < L) (I : LI Γ de h m o ad out outD V F B) (hB9 : B ≤ 9000) {n : Nat} (h10 : V 10 = nI n) (hn60 : n ≤ 60) (K : ∀ h' V1 F1 n', V1 10 = nI n' → LI Γ de h' m o ad out outD V1 F1 (B + 12) → G Γ M_L_law 32 mc ms Z ZX qc (qs + 520 * n') 3368 (L0 sc m o out outD i) [] h') : G Γ M_L_law 32 mc ms Z ZX (qc + 1000) (qs + 13600 + 520 * n) 3122 (L0 sc m o out outD i) [] h := by
  obtain ⟨hd, hpl, hp, hps, hpt, hnm, hkw, hsw, hnc⟩ := H
  obtain ⟨nx, o9, svv, hl, tt, bu, sb, fo, hm, HO, IV, hnx⟩ := I.1.ro
  obtain ⟨r, hr8, h6⟩ := I.1.v6
  obtain ⟨n9, tx, e10, hn9, hT⟩ := I.1.tx9
  have en : n9 = n := (nI_eqI (by omega) (by omega)).mp (e10.symm.trans h10)
  subst en
  refine g_weak (rc' := qc + 1000) (rs' := qs + 520 * 0 + (4000 + 520 * n9)) (L' := L0 sc m o out outD i) ⟨rfl, rfl, rfl, rfl, rfl, rfl, True.intro⟩ (Nat.le_refl _) (by omega) ?_
  exact lq_57 hd hnc hsa hL hi I (fs := _) hm (fa_run hps hkw hsw hpl hp hd I.1 hB9 e10 hn9 hT h6 hr8 _ rfl) (Ph := fun V1 F1 => ∃ v, runZ V F (ppR tx n9 (n9 + 1) 0 []) r v V1 F1) (B' := B + 12) (fun h1 p => ⟨fun V1 F1 q => by
    obtain ⟨v, q⟩ := q
    exact p.1 v V1 F1 q, p.2⟩) (mE_to (r_run hps hnm e10 hn9 hT hr8 h6 IV (by omega)) (fun v V1 F1 q => ⟨(run_vx q).1, v, q⟩)) runT_in (fun V1 F1 q => by
    obtain ⟨v, q⟩ := q
    exact (run_vx q).2.1) (fun h' V1 F1 q I' => K h' V1 F1 0 (by
    obtain ⟨v, q⟩ := q
    exact (run_vx q).2.2) I')
set_option maxRecDepth 100000 in
theorem lc_58 (H : gHs Γ de mi d1 d10 vf sr ss nm ka sm ks kss) (hsa : gPa Γ .int sc L (fun j => .int (xs j))) (hL : L ≤ 2048) (hi : i + 3 < L) (I : LI Γ de h m o ad out outD V F B) (hB9 : B ≤ 9000) {n : Nat} (h10 : V 10 = nI n) (hn60 : n ≤ 60) (K : ∀ h' V1 F1 n', V1 10 = nI n' → LI Γ de h' m o ad out outD V1 F1 (B + 12) → G Γ M_L_law 32 mc ms Z ZX qc (qs + 520 * n') 3368 (L0 sc m o out outD i) [] h') : G Γ M_L_law 32 mc ms Z ZX (qc + 1000) (qs + 13600 + 520 * n) 3166 (L0 sc m o out outD i) [] h := by
  obtain ⟨hd, hpl, hp, hps, hpt, hnm, hkw, hsw, hnc⟩ := H
  obtain ⟨nx, o9, svv, hl, tt, bu, sb, fo, hm, HO, IV, hnx⟩ := I.1.ro
  obtain ⟨r, hr8, h6⟩ := I.1.v6
  refine g_weak (rc' := qc + 1000) (rs' := qs + 520 * n + 13000) (L' := L0 sc m o out outD i) ⟨rfl, rfl, rfl, rfl, rfl, rfl, True.intro⟩ (Nat.le_refl _) (by omega) ?_
  exact lq_58 hd hnc hsa hL hi I (fs := _) hm (fa_errorPosition hp I.1 hB9) (fP_to (by omega)) (mE_ofC (rp_errorPosition ) ⟨rfl, rfl, rfl⟩) (by first | exact rt1 _ | exact rt2 _ _ | exact rt3 _ _ _ | exact if1) (fun V1 F1 q => by first | exact (congrFun q.1 13).trans vU_s | exact (congrFun q.1 13).trans cV_13 | exact (congrFun q.1 13).trans ((vU_n (by decide)).trans vU_s)) (fun h' V1 F1 q I' => K h' V1 F1 n (by first | exact (congrFun q.1 10).trans ((vU_n (by decide)).trans h10) | exact (congrFun q.1 10).trans (cV_10.trans h10) | exact (congrFun q.1 10).trans ((vU_n (by decide)).trans ((vU_n (by decide)).trans h10)) | exact (congrFun q.1 10).trans vU_s) I')
set_option maxRecDepth 100000 in
theorem lc_59 (H : gHs Γ de mi d1 d10 vf sr ss nm ka sm ks kss) (hsa : gPa Γ .int sc L (fun j => .int (xs j))) (hL : L ≤ 2048) (hi : i + 3 < L) (I : LI Γ de h m o ad out outD V F B) (hB9 : B ≤ 9000) {n : Nat} (h10 : V 10 = nI n) (hn60 : n ≤ 60) (K : ∀ h' V1 F1 n', V1 10 = nI n' → LI Γ de h' m o ad out outD V1 F1 (B + 12) → G Γ M_L_law 32 mc ms Z ZX qc (qs + 520 * n') 3368 (L0 sc m o out outD i) [] h') : G Γ M_L_law 32 mc ms Z ZX (qc + 1000) (qs + 13600 + 520 * n) 3210 (L0 sc m o out outD i) [] h := by
  obtain ⟨hd, hpl, hp, hps, hpt, hnm, hkw, hsw, hnc⟩ := H
  obtain ⟨nx, o9, svv, hl, tt, bu, sb, fo, hm, HO, IV, hnx⟩ := I.1.ro
  obtain ⟨r, hr8, h6⟩ := I.1.v6
  refine g_weak (rc' := qc + 1000) (rs' := qs + 520 * n + 13000) (L' := L0 sc m o out outD i) ⟨rfl, rfl, rfl, rfl, rfl, rfl, True.intro⟩ (Nat.le_refl _) (by omega) ?_
  exact lq_59 hd hnc hsa hL hi I (fs := _) hm (fa_failedCommand hp I.1 hB9) (fP_to (by omega)) (mE_ofC (rp_failedCommand ) ⟨rfl, rfl, rfl⟩) (by first | exact rt1 _ | exact rt2 _ _ | exact rt3 _ _ _ | exact if1) (fun V1 F1 q => by first | exact (congrFun q.1 13).trans vU_s | exact (congrFun q.1 13).trans cV_13 | exact (congrFun q.1 13).trans ((vU_n (by decide)).trans vU_s)) (fun h' V1 F1 q I' => K h' V1 F1 n (by first | exact (congrFun q.1 10).trans ((vU_n (by decide)).trans h10) | exact (congrFun q.1 10).trans (cV_10.trans h10) | exact (congrFun q.1 10).trans ((vU_n (by decide)).trans ((vU_n (by decide)).trans h10)) | exact (congrFun q.1 10).trans vU_s) I')
set_option maxRecDepth 100000 in
theorem lc_60 (H : gHs Γ de mi d1 d10 vf sr ss nm ka sm ks kss) (hsa : gPa Γ .int sc L (fun j => .int (xs j))) (hL : L ≤ 2048) (hi : i + 3 < L) (I : LI Γ de h m o ad out outD V F B) (hB9 : B ≤ 9000) {n : Nat} (h10 : V 10 = nI n) (hn60 : n ≤ 60) (K : ∀ h' V1 F1 n', V1 10 = nI n' → LI Γ de h' m o ad out outD V1 F1 (B + 12) → G Γ M_L_law 32 mc ms Z ZX qc (qs + 520 * n') 3368 (L0 sc m o out outD i) [] h') : G Γ M_L_law 32 mc ms Z ZX (qc + 1000) (qs + 13600 + 520 * n) 3254 (L0 sc m o out outD i) [] h := by
  obtain ⟨hd, hpl, hp, hps, hpt, hnm, hkw, hsw, hnc⟩ := H
  obtain ⟨nx, o9, svv, hl, tt, bu, sb, fo, hm, HO, IV, hnx⟩ := I.1.ro
  obtain ⟨r, hr8, h6⟩ := I.1.v6
  refine g_weak (rc' := qc + 1000) (rs' := qs + 520 * n + 13000) (L' := L0 sc m o out outD i) ⟨rfl, rfl, rfl, rfl, rfl, rfl, True.intro⟩ (Nat.le_refl _) (by omega) ?_
  exact lq_60 hd hnc hsa hL hi I (fs := _) hm (fa_undoableCount I.1 hB9) (fP_to (by omega)) (mE_ofC (r_undoableCount ) ⟨rfl, rfl, rfl⟩) (fun h' V1 F1 q I' => K h' V1 F1 n (by first | exact (congrFun q.1 10).trans ((vU_n (by decide)).trans h10) | exact (congrFun q.1 10).trans (cV_10.trans h10) | exact (congrFun q.1 10).trans ((vU_n (by decide)).trans ((vU_n (by decide)).trans h10)) | exact (congrFun q.1 10).trans vU_s) I')
set_option maxRecDepth 100000 in
theorem lc_61 (H : gHs Γ de mi d1 d10 vf sr ss nm ka sm ks kss) (hsa : gPa Γ .int sc L (fun j => .int (xs j))) (hL : L ≤ 2048) (hi : i + 3 < L) (I : LI Γ de h m o ad out outD V F B) (hB9 : B ≤ 9000) {n : Nat} (h10 : V 10 = nI n) (hn60 : n ≤ 60) (K : ∀ h' V1 F1 n', V1 10 = nI n' → LI Γ de h' m o ad out outD V1 F1 (B + 12) → G Γ M_L_law 32 mc ms Z ZX qc (qs + 520 * n') 3368 (L0 sc m o out outD i) [] h') : G Γ M_L_law 32 mc ms Z ZX (qc + 1000) (qs + 13600 + 520 * n) 3267 (L0 sc m o out outD i) [] h := by
  obtain ⟨hd, hpl, hp, hps, hpt, hnm, hkw, hsw, hnc⟩ := H
  obtain ⟨nx, o9, svv, hl, tt, bu, sb, fo, hm, HO, IV, hnx⟩ := I.1.ro
  obtain ⟨r, hr8, h6⟩ := I.1.v6
  by_cases hr0 : r = 0
  · subst hr0
    refine g_weak (rc' := qc + 1000) (rs' := qs + 520 * n + 13000) (L' := L0 sc m o out outD i) ⟨rfl, rfl, rfl, rfl, rfl, rfl, True.intro⟩ (Nat.le_refl _) (by omega) ?_
    exact lq_61 hd hnc hsa hL hi I (fs := _) hm (fa_undo0 hp I.1 h6) (fP_to (by omega)) (mE_ofC (rp_undo0 h6) ⟨rfl, rfl, rfl⟩) (Or.inr rfl) (fun V1 F1 q => by first | exact (congrFun q.1 13).trans vU_s | exact (congrFun q.1 13).trans cV_13 | exact (congrFun q.1 13).trans ((vU_n (by decide)).trans vU_s)) (fun h' V1 F1 q I' => K h' V1 F1 n (by first | exact (congrFun q.1 10).trans ((vU_n (by decide)).trans h10) | exact (congrFun q.1 10).trans (cV_10.trans h10) | exact (congrFun q.1 10).trans ((vU_n (by decide)).trans ((vU_n (by decide)).trans h10)) | exact (congrFun q.1 10).trans vU_s) I')
  · obtain ⟨r, rfl⟩ : ∃ z, r = z + 1 := ⟨r - 1, by omega⟩
    refine g_weak (rc' := qc + 1000) (rs' := qs + 520 * n + 13000) (L' := L0 sc m o out outD i) ⟨rfl, rfl, rfl, rfl, rfl, rfl, True.intro⟩ (Nat.le_refl _) (by omega) ?_
    exact lq_61 hd hnc hsa hL hi I (fs := _) hm (fa_undo1 I.1 (show r < 8 by omega) h6) (fP_to (by omega)) (mE_ofC (rp_undo1 (show r < 8 by omega) h6) ⟨rfl, rfl, rfl⟩) (Or.inl z0) (fun V1 F1 q => (congrFun q.1 13).trans ((vU_n (by decide)).trans vU_s)) (fun h' V1 F1 q I' => K h' V1 F1 n (by first | exact (congrFun q.1 10).trans ((vU_n (by decide)).trans h10) | exact (congrFun q.1 10).trans (cV_10.trans h10) | exact (congrFun q.1 10).trans ((vU_n (by decide)).trans ((vU_n (by decide)).trans h10)) | exact (congrFun q.1 10).trans vU_s) I')
set_option maxRecDepth 100000 in
theorem lc_62 (H : gHs Γ de mi d1 d10 vf sr ss nm ka sm ks kss) (hsa : gPa Γ .int sc L (fun j => .int (xs j))) (hL : L ≤ 2048) (hi : i + 3 < L) (I : LI Γ de h m o ad out outD V F B) (hB9 : B ≤ 9000) {n : Nat} (h10 : V 10 = nI n) (hn60 : n ≤ 60) (K : ∀ h' V1 F1 n', V1 10 = nI n' → LI Γ de h' m o ad out outD V1 F1 (B + 12) → G Γ M_L_law 32 mc ms Z ZX qc (qs + 520 * n') 3368 (L0 sc m o out outD i) [] h') : G Γ M_L_law 32 mc ms Z ZX (qc + 1000) (qs + 13600 + 520 * n) 3311 (L0 sc m o out outD i) [] h := by
  obtain ⟨hd, hpl, hp, hps, hpt, hnm, hkw, hsw, hnc⟩ := H
  obtain ⟨nx, o9, svv, hl, tt, bu, sb, fo, hm, HO, IV, hnx⟩ := I.1.ro
  obtain ⟨r, hr8, h6⟩ := I.1.v6
  refine g_weak (rc' := qc + 1000) (rs' := qs + 520 * n + 13000) (L' := L0 sc m o out outD i) ⟨rfl, rfl, rfl, rfl, rfl, rfl, True.intro⟩ (Nat.le_refl _) (by omega) ?_
  exact lq_62 hd hnc hsa hL hi I (fs := _) hm (fa_save hpl I.1 hB9) (fP_to (by omega)) (mE_ofC (rp_save ) ⟨rfl, rfl, rfl⟩) (fun h' V1 F1 q I' => K h' V1 F1 n (by first | exact (congrFun q.1 10).trans ((vU_n (by decide)).trans h10) | exact (congrFun q.1 10).trans (cV_10.trans h10) | exact (congrFun q.1 10).trans ((vU_n (by decide)).trans ((vU_n (by decide)).trans h10)) | exact (congrFun q.1 10).trans vU_s) I')
set_option maxRecDepth 100000 in
theorem lc_63 (H : gHs Γ de mi d1 d10 vf sr ss nm ka sm ks kss) (hsa : gPa Γ .int sc L (fun j => .int (xs j))) (hL : L ≤ 2048) (hi : i + 3 < L) (I : LI Γ de h m o ad out outD V F B) (hB9 : B ≤ 9000) {n : Nat} (h10 : V 10 = nI n) (hn60 : n ≤ 60) (K : ∀ h' V1 F1 n', V1 10 = nI n' → LI Γ de h' m o ad out outD V1 F1 (B + 12) → G Γ M_L_law 32 mc ms Z ZX qc (qs + 520 * n') 3368 (L0 sc m o out outD i) [] h') : G Γ M_L_law 32 mc ms Z ZX (qc + 1000) (qs + 13600 + 520 * n) 3324 (L0 sc m o out outD i) [] h := by
  obtain ⟨hd, hpl, hp, hps, hpt, hnm, hkw, hsw, hnc⟩ := H
  obtain ⟨nx, o9, svv, hl, tt, bu, sb, fo, hm, HO, IV, hnx⟩ := I.1.ro
  obtain ⟨r, hr8, h6⟩ := I.1.v6
  rcases I.1.v5 with h5 | h5
  · refine g_weak (rc' := qc + 1000) (rs' := qs + 520 * n + 13000) (L' := L0 sc m o out outD i) ⟨rfl, rfl, rfl, rfl, rfl, rfl, True.intro⟩ (Nat.le_refl _) (by omega) ?_
    exact lq_63 hd hnc hsa hL hi I (fs := _) hm (fa_restore0 hp I.1 h5) (fP_to (by omega)) (mE_ofC (rp_restore0 h5) ⟨rfl, rfl, rfl⟩) (Or.inr rfl) (fun V1 F1 q => by first | exact (congrFun q.1 13).trans vU_s | exact (congrFun q.1 13).trans cV_13 | exact (congrFun q.1 13).trans ((vU_n (by decide)).trans vU_s)) (fun h' V1 F1 q I' => K h' V1 F1 n (by first | exact (congrFun q.1 10).trans ((vU_n (by decide)).trans h10) | exact (congrFun q.1 10).trans (cV_10.trans h10) | exact (congrFun q.1 10).trans ((vU_n (by decide)).trans ((vU_n (by decide)).trans h10)) | exact (congrFun q.1 10).trans vU_s) I')
  · refine g_weak (rc' := qc + 1000) (rs' := qs + 520 * n + 13000) (L' := L0 sc m o out outD i) ⟨rfl, rfl, rfl, rfl, rfl, rfl, True.intro⟩ (Nat.le_refl _) (by omega) ?_
    exact lq_63 hd hnc hsa hL hi I (fs := _) hm (fa_restore1 hpl I.1 hB9 h5) (fP_to (by omega)) (mE_ofC (rp_restore1 h5) ⟨rfl, rfl, rfl⟩) (Or.inl z0) (fun V1 F1 q => (congrFun q.1 13).trans ((vU_n (by decide)).trans vU_s)) (fun h' V1 F1 q I' => K h' V1 F1 n (by first | exact (congrFun q.1 10).trans ((vU_n (by decide)).trans h10) | exact (congrFun q.1 10).trans (cV_10.trans h10) | exact (congrFun q.1 10).trans ((vU_n (by decide)).trans ((vU_n (by decide)).trans h10)) | exact (congrFun q.1 10).trans vU_s) I')
end GLzh
