/-! THE FACE: A CHARACTER APPENDED, A LETTER WRITTEN, A CHARACTER OF THE LINE -/
section GFz
variable {Γ : gE} {de mi : Nat} {h h' h1 : gHp} {m B : Nat} {V : Nat → Int32} {F : Nat → Nat → Int32} {ex : List oT}
theorem vpn_c {k : Nat} (h : k < 128) : vp_nar .char (nI k) = nI k := by
  unfold vp_nar
  rw [nar_c h]
theorem gMX.ap {n k : Nat} (hd : gDi Γ) (G : gMX Γ de h m V F B ex) (h10 : V 10 = nI n) (hn : n < 60) (hk : k < 128) : ∃ o svv hl tt bu sb f9, gMc h m o svv hl tt bu (nI n) sb (V 7) (V 8) ∧ h bu = some (gCh Γ 60 f9) ∧ m ≠ bu ∧ gMX Γ de (gUp (gUp h bu (gCh Γ 60 (upd f9 n (nI k)))) m (gJ 12 [.ref o, svv, .ref hl, .ref tt, .ref bu, .int (nI (n + 1)), .ref sb, .int (V 7), .int (V 8)])) m (vU V 10 (nI (n + 1))) (fU F 9 n (nI k)) B ex ∧ gFr (kC Γ) h (gUp (gUp h bu (gCh Γ 60 (upd f9 n (nI k)))) m (gJ 12 [.ref o, svv, .ref hl, .ref tt, .ref bu, .int (nI (n + 1)), .ref sb, .int (V 7), .int (V 8)])) := by
  obtain ⟨o, fo, sv, fr, svv, hl, tt, bu, sb, fl, a1, a2, a3, a4, a5, ⟨a6, a7⟩, ⟨t1, ⟨n2, tx, f9, b1, b2, b3, b4⟩, t3⟩⟩ := G
  have en : n2 = n := (nI_eqI (by omega) (by omega)).mp (b1.symm.trans h10)
  subst en
  have hne : m ≠ bu := fun z => by
    have y : h m = some (gJ 12 [.ref o, svv, .ref hl, .ref tt, .ref bu, .int (V 10), .ref sb, .int (V 7), .int (V 8)]) := a1
    rw [z, b3] at y
    cases y
  have kb : gFr (fun e => tg e = 160) h (gUp h bu (gCh Γ 60 (upd f9 n2 (nI k)))) := gFr.of (S := fun q => q = bu) (gKeep.up rfl) (fun q hq e y => by
    rw [hq, b3] at y; cases y; rfl)
  have kb2 : gFr (kC Γ) h (gUp h bu (gCh Γ 60 (upd f9 n2 (nI k)))) := gFr.of (S := fun q => q = bu) (gKeep.up rfl) (fun q hq e y => by
    rw [hq, b3] at y; cases y; exact kC_C hd)
  have hm1 : gUp h bu (gCh Γ 60 (upd f9 n2 (nI k))) m = some _ := kb _ _ a1 (by show ¬ (12 : Nat) = 160; decide)
  obtain ⟨k1, k2⟩ := up12 (Γ := Γ) (c := gJ 12 [.ref o, svv, .ref hl, .ref tt, .ref bu, .int (nI (n2 + 1)), .ref sb, .int (V 7), .int (V 8)]) hm1
  refine ⟨o, svv, hl, tt, bu, sb, f9, by rw [← h10]; exact a1, b3, hne, ⟨o, fo, sv, fr, svv, hl, tt, bu, sb, fl, gUp_s _ _ _, fun y hy => ((a2 y hy).ft kb (fun e z => by unfold tgO at z; omega)).k12 k1, a3, a4, a5, ⟨gAL_k12 (gAL_ft a6 kb (fun e z => by omega)) k1, a7⟩, (t1.ft kb (fun e z => by unfold tgT at z; omega)).ft k1 (fun e z => by unfold tgT at z; omega), ⟨n2 + 1, fun i => if i = n2 then k else tx i, _, rfl, by omega, by rw [gUp_n _ _ (fun z => hne z.symm)]; exact gUp_s _ _ _, fun i hi => ?_⟩, (t3.ft kb (fun e z => by unfold tgL at z; omega)).ft k1 (fun e z => by unfold tgL at z; omega)⟩, kb2.tr k2⟩
  show (if i = n2 then nI k else F 9 i) = nI (if i = n2 then k else tx i) ∧ (if i = n2 then k else tx i) < 128 ∧ upd f9 n2 (nI k) i = nI (if i = n2 then k else tx i)
  unfold upd
  by_cases e : i = n2
  · rw [if_pos e, if_pos e, if_pos e]
    exact ⟨rfl, hk, rfl⟩
  · rw [if_neg e, if_neg e, if_neg e]
    exact b4 i (by omega)
/-- the line -/
theorem gMX.li (G : gMX Γ de h m V F B ex) : ∃ o svv hl tt bu sb lv lm xs, gMc h m o svv hl tt bu (V 10) sb (V 7) (V 8) ∧ gSB Γ h sb lv lm xs ∧ xs.length ≤ 34 ∧ V 12 = nI xs.length ∧ (∀ i x, xs[i]? = some x → F 11 i = nI x ∧ x < 128) ∧ ∀ (h1 : gHp) (lv' lm' : Nat) (xs' : List Nat) (F1 : Nat → Int32), gSB Γ h1 sb lv' lm' xs' → xs'.length ≤ 34 → (∀ i x, xs'[i]? = some x → F1 i = nI x ∧ x < 128) → gFr tgL h h1 → gMX Γ de h1 m (vU V 12 (nI xs'.length)) (fR F 11 F1) B ex := by
  obtain ⟨o, fo, sv, fr, svv, hl, tt, bu, sb, fl, a1, a2, a3, a4, a5, ⟨a6, a7⟩, ⟨t1, t2, ⟨lv, lm, xs, b1, b2, b3, b4⟩⟩⟩ := G
  refine ⟨o, svv, hl, tt, bu, sb, lv, lm, xs, a1, b1, b2, b3, b4, fun h1 lv' lm' xs' F1 c1 c2 c3 k => ?_⟩
  exact ⟨o, fo, sv, fr, svv, hl, tt, bu, sb, fl, k _ _ a1 (by unfold tgL; show ¬ ((12 : Nat) = 1 ∨ (12 : Nat) = 116 ∨ (12 : Nat) = 134); decide), fun y hy => (a2 y hy).ft k (fun e z => by unfold tgO at z; unfold tgL; omega), a3, a4, a5, ⟨gAL_ft a6 k (fun e z => by unfold tgL; omega), a7⟩, t1.ft k (fun e z => by unfold tgT at z; unfold tgL; omega), t2.ft k (fun e z => by unfold tgB at z; unfold tgL; omega), ⟨lv', lm', xs', c1, c2, rfl, c3⟩⟩
theorem sb_fr {a v lm : Nat} {xs : List Nat} (H : gSB Γ h a v lm xs) (k : gKeep (fun z => z = a ∨ z = v) h h1) : gFr tgL h h1 ∧ gFr (kC Γ) h h1 := by
  obtain ⟨ml, f, h1, h2, h3, h4, h5, h6, h7⟩ := H
  refine ⟨gFr.of k (fun q hq e y => ?_), gFr.of k (fun q hq e y => ?_)⟩
  · rcases hq with rfl | rfl
    · rw [h1] at y; cases y; exact Or.inl rfl
    · rw [h2] at y; cases y
      show 100 + lm = 1 ∨ 100 + lm = 116 ∨ 100 + lm = 134
      omega
  · rcases hq with rfl | rfl
    · rw [h1] at y; cases y; exact kC_J (by decide)
    · rw [h2] at y; cases y; exact kC_B h5
theorem wr_row {L : Nat → Int32} : ∀ (xs : List Nat) (k i x : Nat), xs[i]? = some x → wr L k xs (k + i) = nI x := by
  have base : ∀ (xs : List Nat) (L : Nat → Int32) (k q : Nat), q < k → wr L k xs q = L q := by
    intro xs
    induction xs with
    | nil => intro L k q hq; rfl
    | cons y ys ih =>
      intro L k q hq
      show wr (upd L k (nI y)) (k + 1) ys q = L q
      rw [ih _ _ _ (by omega)]
      unfold upd
      rw [if_neg (by omega)]
  intro xs
  induction xs generalizing L with
  | nil => intro k i x h; cases h
  | cons y ys ih =>
    intro k i x h
    show wr (upd L k (nI y)) (k + 1) ys (k + i) = nI x
    cases i with
    | zero =>
      cases h
      rw [base _ _ _ _ (by omega)]
      unfold upd
      rw [if_pos (by omega)]
    | succ i =>
      have := ih (L := upd L k (nI y)) (k + 1) i x h
      rw [← this]
      congr 1
      omega
theorem dgu_128 (n : Nat) : ∀ j, ∀ x ∈ dgu n j, x < 128
  | 0, x, hx => by
    have : x = 48 + n / 10 ^ 0 % 10 := List.mem_singleton.mp hx
    have := Nat.mod_lt (n / 10 ^ 0) (show 10 > 0 by decide)
    omega
  | j + 1, x, hx => by
    rcases List.mem_cons.mp hx with z | z
    · have := Nat.mod_lt (n / 10 ^ (j + 1)) (show 10 > 0 by decide)
      omega
    · exact dgu_128 n j x z
theorem fmt_128 {pr m cd w q : Nat} {A : Option (Nat × Nat)} : ∀ x ∈ fmt pr m cd w A q, x < 128 := by
  intro x hx
  unfold fmt at hx
  simp only [List.mem_append, List.mem_singleton] at hx
  rcases hx with ((((((((z | z) | z) | z) | z) | z) | z) | z) | z)
  · split at z <;> omega
  · exact dgu_128 _ _ x z
  · omega
  · exact dgu_128 _ _ x z
  · omega
  · exact dgu_128 _ _ x z
  · omega
  · unfold fmA at z
    split at z
    · cases z
    · simp only [List.mem_append, List.mem_singleton] at z
      rcases z with (((y | y) | y) | y) | y
      · omega
      · omega
      · exact dgu_128 _ _ x y
      · omega
      · exact dgu_128 _ _ x y
  · unfold fmQ at z
    split at z
    · cases z
    · simp only [List.mem_append, List.mem_singleton] at z
      rcases z with (y | y) | y
      · omega
      · omega
      · exact dgu_128 _ _ x y
theorem fa_lineChar {d1 d10 : Nat} {vf : Value} (hps : gPsb Γ d1 d10 vf) (hp : gPxs Γ) (G : gMO Γ de h m V F B) {n : Nat} {lx : Nat → Nat} (h12 : V 12 = nI n) (hn : n ≤ 60) (hL : ∀ i, i < n → F 11 i = nI (lx i) ∧ lx i < 128) (x : Int32) : fQ Γ M_X9_lineChar [.ref m, .int x] h (rT (bI (nI 0 ≤ x ∧ x ≤ nI n - nI 1)) (nI 1) (nI 1)) (.int (if nI 0 ≤ x ∧ x ≤ nI n - nI 1 then nI (lx x.toNatClampNeg) else nI 0)) (nmOf xIO xIO xIO) := by
  obtain ⟨o, svv, hl, tt, bu, sb, lv, lm, xs, hm, HS, hxl, e12, hrow, -⟩ := gMX.li G
  have en : xs.length = n := (nI_eqI (by omega) (by omega)).mp (e12.symm.trans h12)
  by_cases hx : nI 0 ≤ x ∧ x ≤ nI n - nI 1
  · obtain ⟨k, hk, rfl⟩ := in_rg (by omega) hx
    obtain ⟨y, hy⟩ : ∃ z, xs[k]? = some z := ⟨_, List.getElem?_eq_getElem (by omega)⟩
    obtain ⟨y1, y2⟩ := hrow k y hy
    have e0 : rT (bI (nI 0 ≤ (nI k) ∧ (nI k) ≤ nI n - nI 1)) (nI 1) (nI 1) = 0 := by rw [bI_t hx]; exact rT_0
    refine fQ_x (fQ_pure (mo_lineChar hps hm HS (by omega) hy y2) (by decide) e0 rfl) (fun _ => ?_)
    rw [if_pos hx, nI_clamp (by omega), ← y1, (hL k hk).1]
  · refine fQ_no (mo_lineChar_no hp hm HS (by omega) (by rw [en]; exact hx)) (by decide) (by decide) (by decide) ?_ nm_s rfl
    rw [bI_f hx, rT_1]
    exact n1x
/-- the line's cells -/
def lnC (h : gHp) (m q : Nat) : Prop := ∃ fs sb gs, h m = some (gJ 12 fs) ∧ fs[6]? = some (Value.ref sb) ∧ h sb = some (gJ 1 gs) ∧ (q = sb ∨ gs[0]? = some (Value.ref q))
theorem ln_keep {h5 h6 : gHp} {o sb lv lv5 lm hl tt bu : Nat} {svv : Value} {y1 y2 y3 : Int32} {xs : List Nat} (hm : gMc h m o svv hl tt bu y1 sb y2 y3) (HS : gSB Γ h sb lv lm xs) (hv : lv5 = lv ∨ h lv5 = none) (k5 : gKeep (fun z => z = sb ∨ z = lv) h h5) (k6 : gKeep (fun z => z = sb ∨ z = lv5) h5 h6) : gKeep (lnC h m) h h6 := by
  obtain ⟨ml, f, e1, -⟩ := HS
  intro q e hq he
  have n1 : ¬ q = sb := fun z => hq ⟨_, sb, _, hm, rfl, e1, Or.inl z⟩
  have n2 : ¬ q = lv := fun z => hq ⟨_, sb, _, hm, rfl, e1, Or.inr (by rw [z]; rfl)⟩
  refine k6 q e (fun z => ?_) (k5 q e (fun z => z.elim n1 n2) he)
  rcases z with z | z
  · exact n1 z
  · rcases hv with w | w
    · exact n2 (z.trans w)
    · rw [z, w] at he
      cases he
theorem fa_formatLetter0 (hp : gPxs Γ) (G : gMO Γ de h m V F B) (hB9 : B ≤ 9000) (id : Int32) (hn : rPlace (F 0) id (rc (F 0)) = -1) : fC Γ M_X9_formatLetter [.ref m, .int id] h 6 (nI 1) (.int (nI 0)) (nmOf xNS xNS xNS) (fP Γ de h m (vU V 13 (nI 1)) F B) := by
  obtain ⟨nx, o, svv, hl, tt, bu, sb, la, ta, ca, da, ba, pa, ep, fl, fq, ls, ps, hm, H, I, hB⟩ := G.rd
  have hc := I.hc
  refine fC_no (d := 7) (mc := 1) (ms := 6) ?_ (by decide) (by decide) (by decide) n1x nm_s G.self
  refine gC_of (by decide) rfl (Nat.le_of_ble_eq_true rfl) [some (.ref m), some (.int id), none] rfl ?_
  refine g_blk [(.aload_n 0, .null), (.iload_n 1, .null)] (Nat.le_of_ble_eq_true rfl) (by decide +kernel) ?_
  refine gx_aload_n_0 (gx_iload_n_1 ((gx_nil ?_)))
  exact g_callV (rc' := 0) (rs' := 0) kX9_167 (mo_present_no hp hm H hc I.uq id hn) (by decide +kernel) rfl rfl hm rfl (Nat.le_of_ble_eq_true rfl) (Nat.le_of_ble_eq_true rfl) (Nat.le_of_ble_eq_true rfl) (Nat.le_refl _) (Nat.le_refl _) rfl (fun _ _ z => z) (fun _ _ z => z.elim)
theorem fa_formatLetter1 {d1 d10 sr ss : Nat} {vf : Value} (hps : gPsb Γ d1 d10 vf) (hpt : gPtx Γ sr ss) (G : gMO Γ de h m V F B) (hB9 : B ≤ 9000) (id : Int32) {m9 cd w pr q p : Nat} {A : Option (Nat × Nat)} (hp9 : p < rc (F 0)) (ep9 : rPlace (F 0) id (rc (F 0)) = nI p) (hm9 : m9 < 100000) (em : F 0 (62 + 7 * p) = nI m9) (hcd : cd < 10000) (ecd : F 0 (62 + 7 * p + 1) = nI cd) (hw : w < 100) (ew : F 0 (62 + 7 * p + 2) = nI w) (epr : F 0 (62 + 7 * p + 3) = nI pr) (hpr : pr ≤ 1) (eq : F 0 (62 + 7 * p + 4) = nI q) (hq : q < 10) (hA : (A = none ∧ F 0 (62 + 7 * p + 5) = -1) ∨ ∃ a b, a < 10 ∧ b < 10 ∧ A = some (a, b) ∧ F 0 (62 + 7 * p + 5) = nI a ∧ F 0 (62 + 7 * p + 6) = nI b) : fC Γ M_X9_formatLetter [.ref m, .int id] h 780 (nI 0) (.int (nI (fmt pr m9 cd w A q).length)) (nmOf xNS xNS xNS) (fun h' => fP Γ de h m (vU (vU V 13 (nI 0)) 12 (nI (fmt pr m9 cd w A q).length)) (fR F 11 (wr (F 11) 0 (fmt pr m9 cd w A q))) B h' ∧ gKeep (lnC h m) h h') := by
  obtain ⟨nx, o, svv, hl, tt, bu, sb, la, ta, ca, da, ba, pa, ep, fl, fq, ls, ps, hm, H, I, hB⟩ := G.rd
  have hc := I.hc
  have hlen := H.2.2.1
  obtain ⟨a, hx9⟩ : ∃ z, ls[p]? = some z := ⟨_, List.getElem?_eq_getElem (by omega)⟩
  have hl9 : gLet h (F 0) p a := H.2.2.2.1 p a hx9
  have hbg : ∃ at9 bg, h a = some (gJ 6 [.int (nI m9), .int (nI cd), .int (nI w), .int (nI pr), .int (nI q), .int at9, .int bg]) ∧ ((A = none ∧ at9 = -1) ∨ ∃ x y, x < 10 ∧ y < 10 ∧ A = some (x, y) ∧ at9 = nI x ∧ bg = nI y) := by
    have hl8 := hl9
    unfold gLet at hl8
    rw [em, ecd, ew, epr, eq] at hl8
    refine ⟨_, _, hl8, ?_⟩
    rcases hA with ⟨y1, y2⟩ | ⟨x, y, y1, y2, y3, y4, y5⟩
    · exact Or.inl ⟨y1, y2⟩
    · exact Or.inr ⟨x, y, y1, y2, y3, y4, by rw [gBg_at (by rw [y4]; exact nI_nm1 (by omega))]; exact y5⟩
  obtain ⟨at9, bg, hle, hA9⟩ := hbg
  obtain ⟨o2, svv2, hl2, tt2, bu2, sb2, lv, lm, xs, hm2, HS, hxl, e12, hrow, hC⟩ := gMX.li G
  have ee := Option.some.inj (hm2.symm.trans hm)
  cases ee
  obtain ⟨fsb, hsb⟩ : ∃ fs, h sb = some (gJ 1 fs) := by obtain ⟨ml, f, z, -⟩ := HS; exact ⟨_, z⟩
  refine gC_wide (d := 10) (mc := 22) (ms := 748) ?_ (by decide) (by decide) (by decide)
  refine gC_of (by decide) rfl (Nat.le_of_ble_eq_true rfl) [some (.ref m), some (.int id), none] rfl ?_
  refine g_blk [(.aload_n 0, .null), (.iload_n 1, .null)] (Nat.le_of_ble_eq_true rfl) (by decide +kernel) ?_
  refine gx_aload_n_0 (gx_iload_n_1 ((gx_nil ?_)))
  refine g_pV kX9_167 (mo_present hm H hc I.uq id hx9 ep9) (by decide +kernel) rfl rfl hm rfl (Nat.le_of_ble_eq_true rfl) (Nat.le_of_ble_eq_true rfl) (Nat.le_of_ble_eq_true rfl) rfl ?_
  try simp only [Option.toList_some, Option.toList_none, List.cons_append, List.nil_append, bI_0, n1_0, n0_0, Decidable.not_not, not_true_eq_false, not_false_eq_true]
  refine g_blk [(.astore_n 2, .null), (.aload_n 0, .null)] (Nat.le_of_ble_eq_true rfl) (by decide +kernel) ?_
  refine gx_astore_n_2 rfl (gx_aload_n_0 ((gx_nil ?_)))
  refine g_getf fX9_44 (by decide +kernel) hm rfl ?_
  refine g_blk [(.iconst 0, .int (nI 0))] (Nat.le_of_ble_eq_true rfl) (by decide +kernel) ?_
  refine gx_iconst ((gx_nil ?_))
  refine g_callV (rc' := 21) (rs' := 714) kX9_350 (sb_setLen hps HS) (by decide +kernel) rfl rfl hsb rfl (Nat.le_of_ble_eq_true rfl) (Nat.le_of_ble_eq_true rfl) (Nat.le_of_ble_eq_true rfl) (by omega) (by omega) rfl (fun _ _ z => z.elim) (fun v9 h5 hz => ?_)
  obtain ⟨rfl, lv5, lm5, HS5, hv5, k5, ex5⟩ := hz
  obtain ⟨ft5, fc5⟩ := sb_fr HS k5
  have hm5 : gMc h5 m o svv hl tt bu (V 10) sb (V 7) (V 8) := ft5 _ _ hm (by unfold tgL; show ¬ ((12 : Nat) = 1 ∨ (12 : Nat) = 116 ∨ (12 : Nat) = 134); decide)
  have hle5 := ft5 _ _ hle (by unfold tgL; show ¬ ((6 : Nat) = 1 ∨ (6 : Nat) = 116 ∨ (6 : Nat) = 134); decide)
  obtain ⟨fsb5, hsb5⟩ : ∃ fs, h5 sb = some (gJ 1 fs) := by obtain ⟨ml, f, z, -⟩ := HS5; exact ⟨_, z⟩
  simp only [Option.toList_some, Option.toList_none, List.cons_append, List.nil_append]
  refine g_blk [(.aload_n 2, .null), (.aload_n 0, .null)] (Nat.le_of_ble_eq_true rfl) (by decide +kernel) ?_
  refine gx_aload_n_2 (gx_aload_n_0 ((gx_nil ?_)))
  refine g_getf fX9_44 (by decide +kernel) hm5 rfl ?_
  refine g_callV (rc' := 0) (rs' := 0) kX9_353 (le_writeTo hps hpt hle5 hm9 hcd hw hpr hq hA9 HS5) (by decide +kernel) rfl rfl hle5 rfl (Nat.le_of_ble_eq_true rfl) (Nat.le_of_ble_eq_true rfl) (Nat.le_of_ble_eq_true rfl) (by omega) (by omega) rfl (fun _ _ z => z.elim) (fun v9 h6 hz => ?_)
  obtain ⟨rfl, ⟨lv6, lm6, HS6, hv6, k6, ex6⟩, hK6⟩ := hz
  obtain ⟨ft6, fc6⟩ := sb_fr HS5 k6
  have hm6 : gMc h6 m o svv hl tt bu (V 10) sb (V 7) (V 8) := ft6 _ _ hm5 (by unfold tgL; show ¬ ((12 : Nat) = 1 ∨ (12 : Nat) = 116 ∨ (12 : Nat) = 134); decide)
  obtain ⟨fsb6, hsb6⟩ : ∃ fs, h6 sb = some (gJ 1 fs) := by obtain ⟨ml, f, z, -⟩ := HS6; exact ⟨_, z⟩
  simp only [Option.toList_some, Option.toList_none, List.cons_append, List.nil_append]
  refine g_blk [(.aload_n 0, .null)] (Nat.le_of_ble_eq_true rfl) (by decide +kernel) ?_
  refine gx_aload_n_0 ((gx_nil ?_))
  refine g_getf fX9_44 (by decide +kernel) hm6 rfl ?_
  refine g_pV kX9_357 (sb_len HS6) (by decide +kernel) rfl rfl hsb6 rfl (Nat.le_of_ble_eq_true rfl) (Nat.le_of_ble_eq_true rfl) (Nat.le_of_ble_eq_true rfl) rfl ?_
  simp only [Option.toList_some, Option.toList_none, List.cons_append, List.nil_append]
  refine g_end (some (.int _)) rfl ⟨by decide +kernel, _, rfl, rfl⟩ ?_
  exact ⟨z0, rfl, ⟨gMX.eqv (hC h6 lv6 lm6 _ (wr (F 11) 0 (fmt pr m9 cd w A q)) HS6 (by omega) (fun i x hi => ⟨by have := wr_row (L := F 11) _ 0 i x hi; rw [Nat.zero_add] at this; exact this, fmt_128 x (List.mem_of_getElem? hi)⟩) (ft5.tr ft6)) (fun j hj => vU_2 hj) (fun _ _ => rfl), fc5.tr fc6⟩, ln_keep hm HS hv5 k5 k6⟩
end GFz
