/-! THE FACE: HOURS UNTIL A LETTER IS GONE -/
section GFzb
variable {Γ : gE} {de mi : Nat} {h h' h1 : gHp} {m B : Nat} {V : Nat → Int32} {F : Nat → Nat → Int32}
section Hours
variable {N : Nat → Int32} {c t nx : Nat}
theorem nd_injI {l : List Int32} (nd : l.Nodup) {i j : Nat} {a : Int32} (hi : l[i]? = some a) (hj : l[j]? = some a) : i = j := by
  obtain ⟨h1, e1⟩ := List.getElem?_eq_some_iff.mp hi
  obtain ⟨h2, e2⟩ := List.getElem?_eq_some_iff.mp hj
  have hp := List.pairwise_iff_getElem.mp nd
  rcases Nat.lt_trichotomy i j with z | z | z
  · exact absurd (e1.trans e2.symm) (hp i j h1 h2 z)
  · exact z
  · exact absurd (e2.trans e1.symm) (hp j i h2 h1 z)
/-- what an hour leaves of the row below the letters -/
def smH (M N : Nat → Int32) : Prop := ∀ q, q < 62 → q ≠ 3 → q ≠ 5 → q ≠ 6 → q ≠ 7 → ¬ (8 ≤ q ∧ q < 26 ∧ q % 3 = 1) → M q = N q
theorem smH.tr {M N K : Nat → Int32} (a : smH M N) (b : smH N K) : smH M K := fun q h1 h2 h3 h4 h5 h6 => (a q h1 h2 h3 h4 h5 h6).trans (b q h1 h2 h3 h4 h5 h6)
theorem rDE_ls (h : rIV N c t nx) {r : Nat} (hr : r ≤ 5) : ∃ c', rIV (rDE (nI r) (rDL (nI r) t c N 0 (nI 0))) c' t nx ∧ lqs (rDE (nI r) (rDL (nI r) t c N 0 (nI 0))) c' = (lqs N c).filterMap (lqF N (nI r) t) ∧ smH (rDE (nI r) (rDL (nI r) t c N 0 (nI 0))) N := by
  obtain ⟨c', m, I', -, -⟩ := h.dep hr
  obtain ⟨c2, r1, r2, r3, r4, r5, r6, r7, r8⟩ := rDL_ls (N0 := N) (rt := nI r) h.ht c 0 c N (nI 0) [] (lqs N c) (by omega) h.hc h.h3 (fun _ _ _ => rfl) rfl lqs_len rfl
  have hc2 := h.hc
  have hc1 := I'.hc
  have e3 := I'.h3
  obtain ⟨R, hR⟩ : ∃ R, rDL (nI r) t c N 0 (nI 0) = R := ⟨_, rfl⟩
  rw [hR] at r3 r4 r5 r6 r7 r8 e3 I' ⊢
  have ei : rIx (nI r) = r := rIx_nI hr
  have k : ∀ q, q ≠ 5 → q ≠ 8 + 3 * r + 2 → rDE (nI r) R q = R.1 q := fun q q1 q2 => by
    unfold rDE
    rw [pk_un q1, ei, pk_un q2]
  rw [k 3 (by omega) (by omega), r3] at e3
  have ec : c2 = c' := (nI_eqI (by omega) (by omega)).mp e3
  subst ec
  refine ⟨c2, I', ?_, fun q h1 h2 h3 h4 h5 h6 => (k q h3 (by omega)).trans (r8 q h1 h2 h4 h5)⟩
  rw [lqs_cg (N' := R.1) (fun q q1 q2 => k q (by omega) (by omega)), r4, List.nil_append]
def gonE (N : Nat → Int32) (c : Nat) (id : Int32) : Prop := ∀ y ∈ lqs N c, ¬ y.1 = id
theorem gonE.no {id : Int32} (g : gonE N c id) : rPlace N id c = -1 := rPlace_no (fun j hj z => g (lqN N j) (List.mem_of_getElem? (lqs_get hj)) z)
theorem here_ne {x : lqT} (hc : c ≤ 20) (hu : rUq N c) (hx : x ∈ lqs N c) : ¬ rPlace N x.1 c = -1 := by
  obtain ⟨i, hi⟩ := List.getElem?_of_mem hx
  have hic : i < c := by
    have := (List.getElem?_eq_some_iff.mp hi).1
    rwa [lqs_len] at this
  rw [lqs_get hic] at hi
  cases hi
  show ¬ rPlace N (N (62 + 7 * i)) c = -1
  rw [rPlace_at (i := i) rfl hic (fun j h1 h2 z => hu i j h1 h2 z.symm)]
  exact nI_nm1 (by omega)
theorem gone_dep {id : Int32} {r : Nat} (g : gonE N c id) (h : rIV N c t nx) (hr : r ≤ 5) : ∃ c', rIV (rDE (nI r) (rDL (nI r) t c N 0 (nI 0))) c' t nx ∧ gonE (rDE (nI r) (rDL (nI r) t c N 0 (nI 0))) c' id := by
  obtain ⟨c', I', e, -⟩ := rDE_ls h hr
  refine ⟨c', I', fun y hy => ?_⟩
  rw [e] at hy
  obtain ⟨z, hz, ez⟩ := List.mem_filterMap.mp hy
  have : y.1 = z.1 := by
    rcases lqF_some ez with ⟨-, w⟩ | ⟨-, -, w⟩
    · rw [w]
    · rw [w]; rfl
  rw [this]
  exact g z hz
theorem gone_rt {id : Int32} {X : (Nat → Int32) × Int32} {i : Nat} (g : gonE X.1 c id) (h : rIV X.1 c t nx) (hi : i ≤ 5) : ∃ c', rIV (rRt X i).1 c' t nx ∧ gonE (rRt X i).1 c' id := by
  unfold rRt
  split
  · rw [h.t_eq, h.c_eq]
    exact gone_dep g h hi
  · exact ⟨c, h, g⟩
theorem gone_rf {id : Int32} : ∀ (n i : Nat) {c : Nat} {X : (Nat → Int32) × Int32}, i + n = 6 → rIV X.1 c t nx → gonE X.1 c id → ∃ c', rIV (rRF n i X).1 c' t nx ∧ gonE (rRF n i X).1 c' id
  | 0, i, c, X, _, h, g => ⟨c, h, g⟩
  | n + 1, i, c, X, hn, h, g => by
    obtain ⟨c', h1, g1⟩ := gone_rt g h (i := i) (by omega)
    exact gone_rf n (i + 1) (by omega) h1 g1
/-- a letter whose route does not depart stays -/
theorem stay_rt {x : lqT} {a i : Nat} {X : (Nat → Int32) × Int32} (h : rIV X.1 c t nx) (hi : i ≤ 5) (ha : a ≤ 5) (hx : x ∈ lqs X.1 c) (er : x.2.2.2.2.2.1 = nI a) (hd : i = a → ¬ X.1 (8 + 3 * i + 1) = X.1 0) : ∃ c', rIV (rRt X i).1 c' t nx ∧ x ∈ lqs (rRt X i).1 c' ∧ smH (rRt X i).1 X.1 := by
  unfold rRt
  split
  · next hcd =>
    rw [h.t_eq, h.c_eq]
    obtain ⟨c', I', e, s⟩ := rDE_ls h hi
    refine ⟨c', I', ?_, s⟩
    show x ∈ lqs (rDE (nI i) (rDL (nI i) t c X.1 0 (nI 0))) c'
    rw [e]
    refine List.mem_filterMap.mpr ⟨x, hx, ?_⟩
    unfold lqF
    rw [if_neg (fun z => by
      rw [er] at z
      have := (nI_eqI (by omega) (by omega)).mp z
      exact hd this.symm hcd)]
  · exact ⟨c, h, hx, fun _ _ _ _ _ _ _ => rfl⟩
theorem stay_rf {x : lqT} {a : Nat} (ha : a ≤ 5) (er : x.2.2.2.2.2.1 = nI a) : ∀ (n i : Nat) {c : Nat} {X : (Nat → Int32) × Int32}, i + n = 6 → rIV X.1 c t nx → x ∈ lqs X.1 c → ¬ X.1 (8 + 3 * a + 1) = X.1 0 → ∃ c', rIV (rRF n i X).1 c' t nx ∧ x ∈ lqs (rRF n i X).1 c' ∧ smH (rRF n i X).1 X.1
  | 0, i, c, X, _, h, hx, _ => ⟨c, h, hx, fun _ _ _ _ _ _ _ => rfl⟩
  | n + 1, i, c, X, hn, h, hx, hd => by
    obtain ⟨c', h1, g1, s1⟩ := stay_rt h (i := i) (by omega) ha hx er (fun z => by rw [z]; exact hd)
    have e1 : (rRt X i).1 (8 + 3 * a + 1) = X.1 (8 + 3 * a + 1) := s1 _ (by omega) (by omega) (by omega) (by omega) (by omega) (by omega)
    have e2 : (rRt X i).1 0 = X.1 0 := s1 _ (by omega) (by omega) (by omega) (by omega) (by omega) (by omega)
    obtain ⟨c2, h2, g2, s2⟩ := stay_rf ha er n (i + 1) (by omega) h1 g1 (by rw [e1, e2]; exact hd)
    exact ⟨c2, h2, g2, s2.tr s1⟩
/-- a letter whose own route departs is gone -/
theorem goes_rf {x : lqT} {a : Nat} (ha : a ≤ 5) (er : x.2.2.2.2.2.1 = nI a) : ∀ (n i : Nat) {c : Nat} {X : (Nat → Int32) × Int32}, i + n = 6 → i ≤ a → rIV X.1 c t nx → x ∈ lqs X.1 c → X.1 (8 + 3 * a + 1) = X.1 0 → rRoute X.1 x.2.1 t = nI a → ∃ c', rIV (rRF n i X).1 c' t nx ∧ gonE (rRF n i X).1 c' x.1
  | 0, i, c, X, hn, hi, _, _, _, _ => by omega
  | n + 1, i, c, X, hn, hi, h, hx, hd, hr => by
    by_cases e : i = a
    · subst e
      have g1 : ∃ c', rIV (rRt X i).1 c' t nx ∧ gonE (rRt X i).1 c' x.1 := by
        unfold rRt
        rw [if_pos hd, h.t_eq, h.c_eq]
        obtain ⟨c', I', e, s⟩ := rDE_ls h (r := i) ha
        refine ⟨c', I', fun y hy => ?_⟩
        have hy : y ∈ lqs (rDE (nI i) (rDL (nI i) t c X.1 0 (nI 0))) c' := hy
        rw [e] at hy
        obtain ⟨z, hz, ez⟩ := List.mem_filterMap.mp hy
        have ey : y.1 = z.1 := by
          rcases lqF_some ez with ⟨-, w⟩ | ⟨-, -, w⟩
          · rw [w]
          · rw [w]; rfl
        rw [ey]
        intro w
        have hxz : z = x := by
          obtain ⟨p, hp⟩ := List.getElem?_of_mem hz
          obtain ⟨q, hq⟩ := List.getElem?_of_mem hx
          have h1 : ((lqs X.1 c).map (·.1))[p]? = some z.1 := by rw [List.getElem?_map, hp]; rfl
          have h2 : ((lqs X.1 c).map (·.1))[q]? = some z.1 := by rw [List.getElem?_map, hq, w]; rfl
          have := nd_injI h.li.di h1 h2
          subst this
          rw [hp] at hq
          exact Option.some.inj hq
        rw [hxz] at ez
        unfold lqF at ez
        rw [if_pos er, if_pos hr] at ez
        cases ez
      obtain ⟨c', h1, g⟩ := g1
      exact gone_rf n (i + 1) (by omega) h1 g
    · obtain ⟨c', h1, g1, s1⟩ := stay_rt h (i := i) (by omega) ha hx er (fun z => absurd z e)
      have e1 : (rRt X i).1 (8 + 3 * a + 1) = X.1 (8 + 3 * a + 1) := s1 _ (by omega) (by omega) (by omega) (by omega) (by omega) (by omega)
      have e2 : (rRt X i).1 0 = X.1 0 := s1 _ (by omega) (by omega) (by omega) (by omega) (by omega) (by omega)
      have e3 : rRoute (rRt X i).1 x.2.1 t = rRoute X.1 x.2.1 t := rRoute_cg h.ht (fun q q1 q2 => s1 q (by omega) (by omega) (by omega) (by omega) (by omega) (by omega))
      exact goes_rf ha er n (i + 1) (by omega) (by omega) h1 g1 (by rw [e1, e2]; exact hd) (by rw [e3]; exact hr)
/-- an hour -/
def hrR (M : Nat → Int32) : Nat → Int32 := (rHF 1 (M, nI 0)).1
theorem hrR_e (M : Nat → Int32) : hrR M = (rRF 6 0 (rTick M, nI 0)).1 := rfl
theorem tick_l (M : Nat → Int32) : lqs (rTick M) c = lqs M c := lqs_cg (fun q q1 q2 => by unfold rTick; rw [pk_un (by omega), pk_un (by omega)])
theorem tick_s (M : Nat → Int32) : ∀ q, q ≠ 0 → q ≠ 1 → rTick M q = M q := fun q h0 h1 => by unfold rTick; rw [pk_un h0, pk_un h1]
theorem tick_0 {M : Nat → Int32} {hh : Nat} (h24 : hh < 24) (e : M 0 = nI hh) : rTick M 0 = nI ((hh + 1) % 24) := by
  have key : ∀ z, z < 24 → nI z + nI 1 - (nI z + nI 1) / nI 24 * nI 24 = nI ((z + 1) % 24) := by decide +kernel
  unfold rTick
  rw [pk_us, e, key hh h24]
def inH (M : Nat → Int32) (c t nx : Nat) (x : lqT) (a b hh : Nat) : Prop := rIV M c t nx ∧ M 0 = nI hh ∧ hh < 24 ∧ M (8 + 3 * a + 1) = nI b ∧ rRoute M x.2.1 t = nI a
theorem hour_stay {M : Nat → Int32} {x : lqT} {a b hh : Nat} (H : inH M c t nx x a b hh) (ha : a ≤ 5) (hb : b < 24) (er : x.2.2.2.2.2.1 = nI a) (hx : x ∈ lqs M c) (hn : ¬ (hh + 1) % 24 = b) : ∃ c', inH (hrR M) c' t nx x a b ((hh + 1) % 24) ∧ x ∈ lqs (hrR M) c' := by
  obtain ⟨I, e0, h24, ed, hr⟩ := H
  have t0 := tick_0 h24 e0
  have td := (tick_s M (8 + 3 * a + 1) (by omega) (by omega)).trans ed
  obtain ⟨c', h1, g1, s1⟩ := stay_rf (X := (rTick M, nI 0)) ha er 6 0 rfl I.tick (by rw [tick_l]; exact hx) (by
    show ¬ rTick M (8 + 3 * a + 1) = rTick M 0
    rw [t0, td]
    intro z
    exact hn ((nI_eqI (by omega) (by omega)).mp z).symm)
  rw [hrR_e]
  generalize rRF 6 0 (rTick M, nI 0) = R at h1 g1 s1 ⊢
  have s1 : smH R.1 (rTick M) := s1
  refine ⟨c', ⟨h1, (s1 0 (by omega) (by omega) (by omega) (by omega) (by omega) (by omega)).trans t0, Nat.mod_lt _ (by decide), (s1 _ (by omega) (by omega) (by omega) (by omega) (by omega) (by omega)).trans td, ?_⟩, g1⟩
  rw [← hr]
  exact rRoute_cg I.ht (fun q q1 q2 => (s1 q (by omega) (by omega) (by omega) (by omega) (by omega) (by omega)).trans (tick_s M q (by omega) (by omega)))
theorem hour_goes {M : Nat → Int32} {x : lqT} {a b hh : Nat} (H : inH M c t nx x a b hh) (ha : a ≤ 5) (er : x.2.2.2.2.2.1 = nI a) (hx : x ∈ lqs M c) (hn : (hh + 1) % 24 = b) : ∃ c', rIV (hrR M) c' t nx ∧ gonE (hrR M) c' x.1 := by
  obtain ⟨I, e0, h24, ed, hr⟩ := H
  have t0 := tick_0 h24 e0
  have td := (tick_s M (8 + 3 * a + 1) (by omega) (by omega)).trans ed
  rw [hrR_e]
  exact goes_rf (X := (rTick M, nI 0)) ha er 6 0 rfl (Nat.zero_le _) I.tick (by rw [tick_l]; exact hx) (by
    show rTick M (8 + 3 * a + 1) = rTick M 0
    rw [t0, td, hn]) (by
    rw [← hr]
    exact rRoute_cg I.ht (fun q q1 q2 => tick_s M q (by omega) (by omega)))
theorem tw_1 (M : Nat → Int32) : (tWait M (nI 1)).2.2 = hrR M := by
  unfold tWait hrR
  dsimp only
  rw [nI_clamp (by omega)]
theorem gLw_is {id : Int32} {ls : List Nat} (h : ¬ rPlace N id c = -1) : ∃ z, gLw N id c ls = .ref z := ⟨_, if_neg h⟩
theorem rHt_T : ∀ hh, hh < 24 → ∀ b, b < 24 → (nI b - nI hh + nI 23) - (nI b - nI hh + nI 23) / nI 24 * nI 24 + nI 1 = nI ((b + 23 - hh) % 24 + 1) := by decide +kernel
end Hours
variable {hl tt bu sb o c t nx la ta ca da ba pa ep : Nat} {sv : Value} {bl e8 f8 : Int32} {fl fq ls ps : List Nat} {N : Nat → Int32}
theorem mo_byHours {fo : List Nat} {p a9 : Nat} (hpl : gPall Γ de mi) (hm : gMc h m o sv hl tt bu bl sb e8 f8) (H : gOx Γ de h o N c t la ta ca da ba pa ep fl fq ls ps) (Ho : gOf Γ de h N c t o fo) (I : rIV N c t nx) (hn : nx < 100000) (id : Int32) (hx9 : ls[p]? = some a9) (ep9 : rPlace N id c = nI p) (hp9 : p < c) (ei : N (62 + 7 * p) = id) (ht5 : ¬ N (62 + 7 * p + 5) = -1) (hr9 : rWr N p t = false) {a b hh : Nat} (ha : a ≤ 5) (hb : b < 24) (er : N (62 + 7 * p + 5) = nI a) (H0 : inH N c t nx (lqN N p) a b hh) {T : Nat} (hT : T = (b + 23 - hh) % 24 + 1) : gC Γ M_X9_hoursToDeliveryByHours [.ref m, .int id] h 12 60 2230 (fun v h' => v = some (.int (nI T)) ∧ gAll h h') (fun _ _ => False) := by
  have h24 : hh < 24 := H0.2.2.1
  have hl9 := H.2.2.2.1 p a9 hx9
  have ho := H.1
  have hc := I.hc
  have loop : ∀ n k M c1 (b1 : Nat) (fp1 : List Nat) (h2 : gHp), k + n = T → gOf Γ de h2 M c1 t b1 fp1 → rIV M c1 t nx → (k < T → inH M c1 t nx (lqN N p) a b ((hh + k) % 24) ∧ lqN N p ∈ lqs M c1) → (k = T → gonE M c1 id) → (∀ q ∈ fp1, h q = none) → gAll h h2 → G Γ M_X9_hoursToDeliveryByHours 12 60 2230 (fun v h' => v = some (.int (nI T)) ∧ gAll h h') (fun _ _ => False) 0 0 20 [some (.ref m), some (.int id), some (.int id), some (.ref b1), some (.int (nI k))] [] h2 := by
    intro n
    induction n with
    | zero =>
      intro k M c1 b1 fp1 h2 hk H1 I1 hs hg hf ka
      have hkT : k = T := by omega
      obtain ⟨la1, ta1, ca1, da1, ba1, pa1, ep1, fl1, fq1, ls1, ps1, Hx1, -, -⟩ := by have Hx0 := H1; exact Hx0
      have hb1 := Hx1.1
      have hno := (hg hkT).no
      refine g_blk [(.aload_n 3, .null), (.iload_n 2, .null)] (Nat.le_of_ble_eq_true rfl) (by decide +kernel) ?_
      refine gx_aload_n_3 (gx_iload_n_2 ((gx_nil ?_)))
      refine g_pV kX9_153 (of_letterWith Hx1 I1.hc I1.uq id) (by decide +kernel) rfl rfl hb1 rfl (Nat.le_of_ble_eq_true rfl) (Nat.le_of_ble_eq_true rfl) (Nat.le_of_ble_eq_true rfl) rfl ?_
      simp only [Option.toList_some, Option.toList_none, List.cons_append, List.nil_append]
      rw [gLw_no hno]
      refine g_ifnullN (off := 22) (tgt := 47) (by decide +kernel) (by decide) ?_
      refine g_blk [(.iload 4, .null)] (Nat.le_of_ble_eq_true rfl) (by decide +kernel) ?_
      refine gx_iload_4 ((gx_nil ?_))
      refine g_end (some (.int _)) rfl ⟨by decide +kernel, _, rfl, rfl⟩ ?_
      exact ⟨by rw [hkT], ka⟩
    | succ n ih =>
      intro k M c1 b1 fp1 h2 hk H1 I1 hs hg hf ka
      have hkT : k < T := by omega
      obtain ⟨S1, S2⟩ := hs hkT
      obtain ⟨la1, ta1, ca1, da1, ba1, pa1, ep1, fl1, fq1, ls1, ps1, Hx1, -, -⟩ := by have Hx0 := H1; exact Hx0
      have hb1 := Hx1.1
      have hyes : ¬ rPlace M id c1 = -1 := by
        have := here_ne I1.hc I1.uq S2
        rwa [show (lqN N p).1 = id from ei] at this
      obtain ⟨z9, hz9⟩ := gLw_is (ls := ls1) hyes
      refine g_blk [(.aload_n 3, .null), (.iload_n 2, .null)] (Nat.le_of_ble_eq_true rfl) (by decide +kernel) ?_
      refine gx_aload_n_3 (gx_iload_n_2 ((gx_nil ?_)))
      refine g_pV kX9_153 (of_letterWith Hx1 I1.hc I1.uq id) (by decide +kernel) rfl rfl hb1 rfl (Nat.le_of_ble_eq_true rfl) (Nat.le_of_ble_eq_true rfl) (Nat.le_of_ble_eq_true rfl) rfl ?_
      simp only [Option.toList_some, Option.toList_none, List.cons_append, List.nil_append]
      rw [hz9]
      refine g_ifnull (off := 22) (by decide +kernel) ?_
      refine g_blk [(.iload 4, .null), (.bipush 24, .int (nI 24))] (Nat.le_of_ble_eq_true rfl) (by decide +kernel) ?_
      refine gx_iload_4 (gx_bipush ((gx_nil ?_)))
      refine g_icmp_ge (off := 15) (tgt := 47) (by decide +kernel) (by decide) (fun c32 => ?_) (fun c32 => ?_)
      · try simp only [bI_0, Decidable.not_not] at c32
        exact absurd ((nI_leI (by omega) (by omega)).mp c32) (by omega)
      · try simp only [bI_0, Decidable.not_not] at c32
        refine g_blk [(.aload_n 3, .null), (.iconst 1, .int (nI 1))] (Nat.le_of_ble_eq_true rfl) (by decide +kernel) ?_
        refine gx_aload_n_3 (gx_iconst ((gx_nil ?_)))
        refine g_callV (rc' := 0) (rs' := 0) kX9_100 (H1.passHours I1 hn (nI 1)) (by decide +kernel) rfl rfl hb1 rfl (Nat.le_of_ble_eq_true rfl) (Nat.le_of_ble_eq_true rfl) (Nat.le_of_ble_eq_true rfl) (by omega) (by omega) rfl (fun _ _ z => z.elim) (fun v9 h5 hz => ?_)
        have hz : chZ Γ de h2 b1 fp1 nx (tWait M (nI 1)) (ccd (-1) 0 0) v9 h5 := hz
        have et1 : (tWait M (nI 1)).1 = 0 := by unfold tWait; rw [bI_t ⟨by decide, by decide⟩]; exact rT_0
        obtain ⟨-, rfl, c2, t2, fp2, ⟨n2, a2, g1, g2, g3, g4⟩, H2, hf2, hk2⟩ := hz.resolve_right (fun z => z.1 et1)
        have e2 : (tWait M (nI 1)).2.2 = hrR M := tw_1 M
        rw [e2] at g1 H2
        simp only [Option.toList_some, Option.toList_none, List.cons_append, List.nil_append]
        refine g_blk [(.pop, .null), (.iinc 4 1, .int (nI 1)), (.goto (-24), .retAddr 20)] (Nat.le_of_ble_eq_true rfl) (by decide +kernel) ?_
        refine gx_popi (gx_iinc_4 rfl (gx_goto ((gx_nil ?_))))
        try simp only [nI_add]
        have hmd : ((hh + k) % 24 + 1) % 24 = (hh + (k + 1)) % 24 := by omega
        have hf5 : ∀ q ∈ fp2, h q = none := fun q hq => by
          rcases hf2 q hq with z | z
          · exact hf q z
          · exact gAll_no ka z
        have ka5 : gAll h h5 := gAll_tr ka hk2 hf
        by_cases hlast : k + 1 = T
        · obtain ⟨c3, I3, g3⟩ := hour_goes S1 ha er S2 (by omega)
          have hcc : c3 = c2 := by rw [← I3.c_eq, ← g1.c_eq]
          have htt : t = t2 := by rw [← I3.t_eq, ← g1.t_eq]
          subst hcc
          subst htt
          exact ih (k + 1) (hrR M) c3 b1 fp2 h5 (by omega) H2 I3 (fun z => by omega) (fun _ => by rw [← ei]; exact g3) hf5 ka5
        · obtain ⟨c3, S3, S4⟩ := hour_stay S1 ha hb er S2 (by omega)
          have hcc : c3 = c2 := by rw [← S3.1.c_eq, ← g1.c_eq]
          have htt : t = t2 := by rw [← S3.1.t_eq, ← g1.t_eq]
          subst hcc
          subst htt
          rw [hmd] at S3
          exact ih (k + 1) (hrR M) c3 b1 fp2 h5 (by omega) H2 S3.1 (fun _ => ⟨S3, S4⟩) (fun z => absurd z hlast) hf5 ka5
  refine gC_of (by decide) rfl (Nat.le_of_ble_eq_true rfl) [some (.ref m), some (.int id), none, none, none] rfl ?_
  refine g_blk [(.aload_n 0, .null), (.iload_n 1, .null)] (Nat.le_of_ble_eq_true rfl) (by decide +kernel) ?_
  refine gx_aload_n_0 (gx_iload_n_1 ((gx_nil ?_)))
  refine g_pV kX9_298 (mo_deliverableLetter hm H hc I.ht I.pv (I.lv (by omega)) I.uq id hx9 ep9 ht5 hr9) (by decide +kernel) rfl rfl hm rfl (Nat.le_of_ble_eq_true rfl) (Nat.le_of_ble_eq_true rfl) (Nat.le_of_ble_eq_true rfl) rfl ?_
  try simp only [Option.toList_some, Option.toList_none, List.cons_append, List.nil_append, bI_0, n1_0, n0_0, Decidable.not_not, not_true_eq_false, not_false_eq_true]
  refine g_getf fX9_164 (by decide +kernel) hl9 rfl ?_
  rw [ei]
  refine g_blk [(.istore_n 2, .null), (.aload_n 0, .null)] (Nat.le_of_ble_eq_true rfl) (by decide +kernel) ?_
  refine gx_istore_n_2 rfl (gx_aload_n_0 ((gx_nil ?_)))
  refine g_getf fX9_10 (by decide +kernel) hm rfl ?_
  refine g_callV (rc' := 0) (rs' := 0) kX9_54 (Ho.dup hpl I (by omega)) (by decide +kernel) rfl rfl ho rfl (Nat.le_of_ble_eq_true rfl) (Nat.le_of_ble_eq_true rfl) (Nat.le_of_ble_eq_true rfl) (by omega) (by omega) rfl (fun _ _ z => z.elim) (fun v9 h5 hz => ?_)
  obtain ⟨b1, fpb, rfl, Hb, hfr, ka⟩ := hz
  simp only [Option.toList_some, Option.toList_none, List.cons_append, List.nil_append]
  refine g_blk [(.astore_n 3, .null), (.iconst 0, .int (nI 0)), (.istore 4, .null)] (Nat.le_of_ble_eq_true rfl) (by decide +kernel) ?_
  refine gx_astore_n_3 rfl (gx_iconst (gx_istore_4 rfl ((gx_nil ?_))))
  exact loop T 0 N c b1 fpb h5 (by omega) Hb I (fun _ => ⟨by rw [Nat.add_zero, Nat.mod_eq_of_lt h24]; exact H0, List.mem_of_getElem? (lqs_get hp9)⟩) (fun z => by omega) hfr ka
theorem mo_byHours_no (hp : gPxs Γ) (hm : gMc h m o sv hl tt bu bl sb e8 f8) (H : gOx Γ de h o N c t la ta ca da ba pa ep fl fq ls ps) (hc : c ≤ 20) (hu : rUq N c) (id : Int32) (hn : rPlace N id c = -1) : gC Γ M_X9_hoursToDeliveryByHours [.ref m, .int id] h 10 1 6 (fun _ _ => False) (fun E h' => E = xNS ∧ h' = h) := by
  refine gC_of (by decide) rfl (Nat.le_of_ble_eq_true rfl) [some (.ref m), some (.int id), none, none, none] rfl ?_
  refine g_blk [(.aload_n 0, .null), (.iload_n 1, .null)] (Nat.le_of_ble_eq_true rfl) (by decide +kernel) ?_
  refine gx_aload_n_0 (gx_iload_n_1 ((gx_nil ?_)))
  exact g_callV (rc' := 0) (rs' := 0) kX9_298 (mo_deliverableLetter_no hp hm H hc hu id hn) (by decide +kernel) rfl rfl hm rfl (Nat.le_of_ble_eq_true rfl) (Nat.le_of_ble_eq_true rfl) (Nat.le_of_ble_eq_true rfl) (Nat.le_refl _) (Nat.le_refl _) rfl (fun _ _ z => z) (fun _ _ z => z.elim)
theorem mo_byHours_tray (hp : gPxs Γ) (hm : gMc h m o sv hl tt bu bl sb e8 f8) (H : gOx Γ de h o N c t la ta ca da ba pa ep fl fq ls ps) (hc : c ≤ 20) (hu : rUq N c) (id : Int32) {p a : Nat} (hx9 : ls[p]? = some a) (ep9 : rPlace N id c = nI p) (ht5 : N (62 + 7 * p + 5) = -1) : gC Γ M_X9_hoursToDeliveryByHours [.ref m, .int id] h 10 1 6 (fun _ _ => False) (fun E h' => E = xIS ∧ h' = h) := by
  refine gC_of (by decide) rfl (Nat.le_of_ble_eq_true rfl) [some (.ref m), some (.int id), none, none, none] rfl ?_
  refine g_blk [(.aload_n 0, .null), (.iload_n 1, .null)] (Nat.le_of_ble_eq_true rfl) (by decide +kernel) ?_
  refine gx_aload_n_0 (gx_iload_n_1 ((gx_nil ?_)))
  exact g_callV (rc' := 0) (rs' := 0) kX9_298 (mo_deliverableLetter_tray hp hm H hc hu id hx9 ep9 ht5) (by decide +kernel) rfl rfl hm rfl (Nat.le_of_ble_eq_true rfl) (Nat.le_of_ble_eq_true rfl) (Nat.le_of_ble_eq_true rfl) (Nat.le_refl _) (Nat.le_refl _) rfl (fun _ _ z => z) (fun _ _ z => z.elim)
theorem mo_byHours_wrong (hp : gPxs Γ) (hm : gMc h m o sv hl tt bu bl sb e8 f8) (H : gOx Γ de h o N c t la ta ca da ba pa ep fl fq ls ps) (hc : c ≤ 20) (ht : t ≤ 12) (hv : rPv N t) (hw : rLv1 N c) (hu : rUq N c) (id : Int32) {p a : Nat} (hx9 : ls[p]? = some a) (ep9 : rPlace N id c = nI p) (ht5 : ¬ N (62 + 7 * p + 5) = -1) (hr9 : rWr N p t = true) : gC Γ M_X9_hoursToDeliveryByHours [.ref m, .int id] h 10 1 6 (fun _ _ => False) (fun E h' => E = xIS ∧ h' = h) := by
  refine gC_of (by decide) rfl (Nat.le_of_ble_eq_true rfl) [some (.ref m), some (.int id), none, none, none] rfl ?_
  refine g_blk [(.aload_n 0, .null), (.iload_n 1, .null)] (Nat.le_of_ble_eq_true rfl) (by decide +kernel) ?_
  refine gx_aload_n_0 (gx_iload_n_1 ((gx_nil ?_)))
  exact g_callV (rc' := 0) (rs' := 0) kX9_298 (mo_deliverableLetter_wrong hp hm H hc ht hv hw hu id hx9 ep9 ht5 hr9) (by decide +kernel) rfl rfl hm rfl (Nat.le_of_ble_eq_true rfl) (Nat.le_of_ble_eq_true rfl) (Nat.le_of_ble_eq_true rfl) (Nat.le_refl _) (Nat.le_refl _) rfl (fun _ _ z => z) (fun _ _ z => z.elim)
theorem rPlace_id {N : Nat → Int32} {id : Int32} {p : Nat} (hp : p < 100) : ∀ {c : Nat}, rPlace N id c = nI p → c ≤ 100 → N (62 + 7 * p) = id := by
  intro c
  induction c with
  | zero => intro h _; exact absurd h.symm (nI_nm1 (by omega))
  | succ k ih =>
    intro h hc
    have h : (if N (62 + 7 * k) = id then nI k else rPlace N id k) = nI p := h
    by_cases e : N (62 + 7 * k) = id
    · rw [if_pos e] at h
      rw [← (nI_eqI (by omega) (by omega)).mp h]
      exact e
    · rw [if_neg e] at h
      exact ih h (by omega)
/-- behind a call that makes cells and changes none -/
def fPa (Γ : gE) (de : Nat) (h : gHp) (m : Nat) (V : Nat → Int32) (F : Nat → Nat → Int32) (B : Nat) : gHp → Prop := fun h' => gMO Γ de h' m V F B ∧ gAll h h'
theorem gMO.selfA (H : gMO Γ de h m V F B) {τ : Int32} : fPa Γ de h m (vU V 13 τ) F B h := ⟨H.eqv (fun j hj => vU_n (by omega)) (fun _ _ => rfl), gKeep.rf⟩
theorem fa_hoursToDeliveryByHours (hd : gDi Γ) (hpl : gPall Γ de mi) (hp : gPxs Γ) (G : gMO Γ de h m V F B) (hB9 : B ≤ 9000) (id : Int32) : fC Γ M_X9_hoursToDeliveryByHours [.ref m, .int id] h 2230 (tHf (F 0) id (rc (F 0)) (rtt (F 0))) (.int (if tHf (F 0) id (rc (F 0)) (rtt (F 0)) = 0 then rHt (F 0) (F 0 (62 + 7 * rIdx (F 0) id (rc (F 0)) + 5)) else nI 0)) (nmOf xNS xIS xIS) (fPa Γ de h m (vU V 13 (tHf (F 0) id (rc (F 0)) (rtt (F 0)))) (F) B) := by
  obtain ⟨nx, o, svv, hl, tt, bu, sb, fo, hm, Ho, I, hB⟩ := G.ro
  obtain ⟨la, ta, ca, da, ba, pa, ep, fl, fq, ls, ps, H, -, -⟩ := by have Hx0 := Ho; exact Hx0
  have hc := I.hc
  have ht := I.ht
  have hw := I.lv (by omega)
  have hlen := H.2.2.1
  by_cases hn : rPlace (F 0) id (rc (F 0)) = -1
  · have et := tHf_1 (t := rtt (F 0)) hn
    exact fC_no (mo_byHours_no hp hm H hc I.uq id hn) (by decide) (by decide) (by decide) (by rw [et]; exact n1x) (nmA _ et) G.selfA
  · obtain ⟨p, hp9, ep9⟩ := rPlace_in.resolve_left hn
    have hix := rIdx_of (by omega) ep9
    obtain ⟨a, hx9⟩ : ∃ z, ls[p]? = some z := ⟨_, List.getElem?_eq_getElem (by omega)⟩
    by_cases h5 : F 0 (62 + 7 * p + 5) = -1
    · have et := tHf_2 (t := rtt (F 0)) hn hix (Or.inl h5)
      exact fC_no (mo_byHours_tray hp hm H hc I.uq id hx9 ep9 h5) (by decide) (by decide) (by decide) (by rw [et]; exact n2x) (nmB _ et) G.selfA
    · cases hr9 : rWr (F 0) p (rtt (F 0)) with
      | true =>
        have et := tHf_2 (t := rtt (F 0)) hn hix (Or.inr hr9)
        exact fC_no (mo_byHours_wrong hp hm H hc ht I.pv hw I.uq id hx9 ep9 h5 hr9) (by decide) (by decide) (by decide) (by rw [et]; exact n2x) (nmB _ et) G.selfA
      | false =>
        have e0 := tHf_0 hn hix h5 hr9
        obtain ⟨m9, cd, w, pr, q, em, hm9, ec, hcd, ew, hw1, hw2, ep8, hpr, eq, hq, eA⟩ := hw p hp9
        obtain ⟨a9, b9, ha9, hb9, ea9, eb9⟩ := eA.resolve_left h5
        obtain ⟨hh, hh1, hh2⟩ := I.hh
        obtain ⟨x1, x2, x3, y1, y2, y3, y4, y5, y6⟩ := I.rt a9 ha9
        have hrt : rRoute (F 0) (lqN (F 0) p).2.1 (rtt (F 0)) = nI a9 := by
          have := of_decide_eq_false hr9
          rw [ea9] at this
          exact Decidable.not_not.mp (fun z => this ⟨nI_nm1 (by omega), z⟩)
        have H0 : inH (F 0) (rc (F 0)) (rtt (F 0)) nx (lqN (F 0) p) a9 x2 hh := ⟨I, hh2, hh1, y5, hrt⟩
        refine fC_x (fC_ok (mo_byHours hpl hm H Ho I (by omega) id hx9 ep9 hp9 (rPlace_id (by omega) ep9 (by omega)) h5 hr9 ha9 (by omega) ea9 H0 rfl) (by decide) (by decide) (by decide) e0 (fun v h' z => ⟨z.1, (G.fr hd (gFr.all (K := fun _ => False) z.2) (fun _ _ y => y)).eqv (fun j hj => vU_n (by omega)) (fun _ _ => rfl), z.2⟩)) (fun _ => ?_)
        rw [if_pos e0, hix, ea9]
        unfold rHt
        rw [rIx_nI ha9, y5, hh2, rHt_T hh hh1 x2 (by omega)]
end GFzb
