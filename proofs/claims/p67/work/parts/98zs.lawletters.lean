/-! THE LAW: letters are right -/
section GLm
variable {Γ : gE} {bm de mi : Nat} {h : gHp} {m : Nat} {N : Nat → Int32} {c t nx : Nat} {d1 d10 sr ss : Nat} {vf : Value}
theorem g_rcs {M : gM} {d mc ms : Nat} {Z : Option Value → gHp → Prop} {ZX : String → gHp → Prop} {rc rs rc' rs' pc : Nat} {L : List (Option Value)} {st : List Value} (h1 : rc' ≤ rc) (h2 : rs' ≤ rs) (k : G Γ M d mc ms Z ZX rc' rs' pc L st h) : G Γ M d mc ms Z ZX rc rs pc L st h := by
  intro p e R s m args below meth c H locs cells slots ls C hd1 hd2 hd3 hd4 ha hl hc hs
  exact k p e R s m args below meth c H locs cells slots ls C hd1 hd2 hd3 hd4 ha hl (by omega) (by omega)
theorem as_lt (I : rIV N c t nx) {i j : Nat} (hij : i < j) (hj : j < c) : N (62 + 7 * i) < N (62 + 7 * j) := by
  have hi : ((lqs N c).map (·.1))[i]? = some (N (62 + 7 * i)) := by rw [List.getElem?_map, lqs_get (by omega)]; rfl
  have hj' : ((lqs N c).map (·.1))[j]? = some (N (62 + 7 * j)) := by rw [List.getElem?_map, lqs_get hj]; rfl
  obtain ⟨h1, e1⟩ := List.getElem?_eq_some_iff.mp hi
  obtain ⟨h2, e2⟩ := List.getElem?_eq_some_iff.mp hj'
  have := List.pairwise_iff_getElem.mp I.li.as i j h1 h2 hij
  rw [e1, e2] at this
  exact this
theorem pw_at {l : List Nat} (hl : l.Pairwise (fun a b => a < b)) {i j x y : Nat} (hi : l[i]? = some x) (hj : l[j]? = some y) (hij : i < j) : x < y := by
  obtain ⟨h1, e1⟩ := List.getElem?_eq_some_iff.mp hi
  obtain ⟨h2, e2⟩ := List.getElem?_eq_some_iff.mp hj
  have := List.pairwise_iff_getElem.mp hl i j h1 h2 hij
  rw [e1, e2] at this
  exact this
theorem gTI_pw {p : Int32} : ∀ {c : Nat}, (gTI N p c).Pairwise (fun a b => a < b)
  | 0 => List.Pairwise.nil
  | c + 1 => by
    rw [gTI_s]
    refine List.pairwise_append.mpr ⟨gTI_pw, ?_, fun a ha b hb => ?_⟩
    · split
      · exact List.pairwise_singleton _ _
      · exact List.Pairwise.nil
    · have ha9 := (gTI_m ha).1
      split at hb
      · cases List.mem_singleton.mp hb
        exact ha9
      · cases hb
theorem ty_p {p : Int32} {i k : Nat} (h : (gTI N p c)[k]? = some i) : N (62 + 7 * i + 3) = p := (gTy_iff.mp (gTI_m (List.mem_of_getElem? h)).2).2
theorem ty_next {k i1 i2 : Nat} (h1 : (tyL N c)[k]? = some i1) (h2 : (tyL N c)[k + 1]? = some i2) : (N (62 + 7 * i1 + 3) = nI 1 ∧ N (62 + 7 * i2 + 3) = nI 1 ∧ i1 < i2) ∨ (N (62 + 7 * i1 + 3) = nI 1 ∧ N (62 + 7 * i2 + 3) = nI 0) ∨ (N (62 + 7 * i1 + 3) = nI 0 ∧ N (62 + 7 * i2 + 3) = nI 0 ∧ i1 < i2) := by
  unfold tyL at h1 h2
  by_cases y : k + 1 < (gTI N (nI 1) c).length
  · rw [List.getElem?_append_left (by omega)] at h1
    rw [List.getElem?_append_left y] at h2
    exact Or.inl ⟨ty_p h1, ty_p h2, pw_at gTI_pw h1 h2 (by omega)⟩
  · rw [List.getElem?_append_right (by omega)] at h2
    by_cases z : k < (gTI N (nI 1) c).length
    · rw [List.getElem?_append_left z] at h1
      exact Or.inr (Or.inl ⟨ty_p h1, ty_p h2⟩)
    · rw [List.getElem?_append_right (by omega)] at h1
      exact Or.inr (Or.inr ⟨ty_p h1, ty_p h2, pw_at gTI_pw h1 h2 (by omega)⟩)
theorem ln_s9 {k : Nat} : rLn N (-1) (-1) k + (if bI (N (62 + 7 * k + 5) = -1) = 0 then nI 0 else nI 1) = rLn N (-1) (-1) (k + 1) := by
  rw [rLn_s]
  by_cases h5 : N (62 + 7 * k + 5) = -1
  · rw [bI_t h5, if_pos (show N (62 + 7 * k + 5) = -1 ∧ ((-1 : Int32) = -1 ∨ N (62 + 7 * k + 6) = -1) from ⟨h5, Or.inl rfl⟩)]
    rfl
  · rw [bI_f h5, if_neg (show ¬ (N (62 + 7 * k + 5) = -1 ∧ ((-1 : Int32) = -1 ∨ N (62 + 7 * k + 6) = -1)) from fun z => h5 z.1)]
    rfl
theorem ms_s9 {k : Nat} : rMs N t k + (if bI (rWr N k t = true) = 0 then nI 0 else nI 1) = rMs N t (k + 1) := by
  show _ = rMs N t k + bI (rWr N k t = true)
  by_cases h5 : rWr N k t = true
  · rw [bI_t h5]
    rfl
  · rw [bI_f h5]
    rfl
/-- a letter of the tray that waits past its hour -/
def laL (N : Nat → Int32) (t k : Nat) : Prop := N (62 + 7 * k + 5) = -1 ∧ N (62 + 7 * k + 3) = 0 ∧ ¬ rLR N k t = -1 ∧ N (8 + 3 * rIx (rLR N k t) + 0) ≤ N 0
theorem lt_s9 {k : Nat} {x : Int32} (hx : (x = nI 1 ∧ laL N t k) ∨ (x = nI 0 ∧ ¬ laL N t k)) : rLt N t k + (if x = 0 then nI 0 else nI 1) = rLt N t (k + 1) := by
  show _ = rLt N t k + (if N (62 + 7 * k + 5) = -1 ∧ N (62 + 7 * k + 3) = 0 ∧ ¬ rLR N k t = -1 ∧ N (8 + 3 * rIx (rLR N k t) + 0) ≤ N 0 then nI 1 else nI 0)
  rcases hx with ⟨e, y⟩ | ⟨e, y⟩
  · rw [e, if_pos (show N (62 + 7 * k + 5) = -1 ∧ N (62 + 7 * k + 3) = 0 ∧ ¬ rLR N k t = -1 ∧ N (8 + 3 * rIx (rLR N k t) + 0) ≤ N 0 from y)]
    rfl
  · rw [e, if_neg (show ¬ (N (62 + 7 * k + 5) = -1 ∧ N (62 + 7 * k + 3) = 0 ∧ ¬ rLR N k t = -1 ∧ N (8 + 3 * rIx (rLR N k t) + 0) ≤ N 0) from y)]
    rfl
theorem rMx_0 {r : Nat} (hr : r < 1000) : rMax (nI 0) (nI r) = nI r := by
  have key : ∀ r : Fin 1000, rMax (nI 0) (nI r.val) = nI r.val := by decide +kernel
  exact key ⟨r, hr⟩
theorem la_areLettersRight (hd : gDi Γ) (hpl : gPall Γ de mi) (hp : gPxs Γ) (hnc : gPnc Γ) (hps : gPsb Γ d1 d10 vf) (hpt : gPtx Γ sr ss) (hpw : gPlw Γ) (H : lP bm Γ de h m N c t nx) : gC Γ M_L_areLettersRight [.ref m] h 42 8300 289400 (fun v h' => v = some (.int (nI 1)) ∧ lP bm Γ de h' m N c t nx) (fun _ _ => False) := by
  have I := H.iv.1
  have hn9 := H.iv.2
  have hc := I.hc
  have hT := tyL_len I
  have tail : ∀ (h : gHp), lP bm Γ de h m N c t nx → G Γ M_L_areLettersRight 42 8300 289400 (fun v h' => v = some (.int (nI 1)) ∧ lP bm Γ de h' m N c t nx) (fun _ _ => False) 216 7701 297 [some (.ref m), some (.int (nI (tyL N c).length)), some (.int (rMs N t c)), some (.int (rLt N t c)), some (.int (rSm N c)), some (.int (nI 1)), none, none, none] [] h := by
    intro h H
    obtain ⟨fs, hm⟩ := H.at12
    refine g_blk [(.iload 5, .null)] (Nat.le_of_ble_eq_true rfl) (by decide +kernel) ?_
    refine gx_iload_5 ((gx_nil ?_))
    refine g_if_eq (off := 57) (tgt := 356) (by decide +kernel) (by decide) (fun c299 => ?_) (fun c299 => ?_)
    · exact absurd c299 (by decide)
    · try simp only [bI_0, Decidable.not_not] at c299
      refine g_blk [(.aload_n 0, .null)] (Nat.le_of_ble_eq_true rfl) (by decide +kernel) ?_
      refine gx_aload_n_0 ((gx_nil ?_))
      refine g_callV (rc' := 144) (rs' := 5138) kL_291 (lr_traySize hd hpl H) (by decide +kernel) rfl rfl hm rfl (Nat.le_of_ble_eq_true rfl) (Nat.le_of_ble_eq_true rfl) (Nat.le_of_ble_eq_true rfl) (by omega) (by omega) rfl (fun _ _ z => z.elim) (fun v9 k5 hz => ?_)
      obtain ⟨rfl, Hk5⟩ := hz
      obtain ⟨fsk5, hmk5⟩ := Hk5.at12
      simp only [Option.toList_some, Option.toList_none, List.cons_append, List.nil_append]
      refine g_topi (tyL_n I hn9) ?_
      refine g_blk [(.iload_n 1, .null)] (Nat.le_of_ble_eq_true rfl) (by decide +kernel) ?_
      refine gx_iload_n_1 ((gx_nil ?_))
      refine g_icmp_ne (off := 49) (tgt := 356) (by decide +kernel) (by decide) (fun c307 => ?_) (fun c307 => ?_)
      · try simp only [bI_0, Decidable.not_not] at c307
        exact absurd (by first | rfl | trivial) c307
      · try simp only [bI_0, Decidable.not_not] at c307
        refine g_blk [(.aload_n 0, .null)] (Nat.le_of_ble_eq_true rfl) (by decide +kernel) ?_
        refine gx_aload_n_0 ((gx_nil ?_))
        refine g_pV kL_294 (lr_missortedCount Hk5) (by decide +kernel) rfl rfl hmk5 rfl (Nat.le_of_ble_eq_true rfl) (Nat.le_of_ble_eq_true rfl) (Nat.le_of_ble_eq_true rfl) rfl ?_
        simp only [Option.toList_some, Option.toList_none, List.cons_append, List.nil_append]
        refine g_blk [(.iload_n 2, .null)] (Nat.le_of_ble_eq_true rfl) (by decide +kernel) ?_
        refine gx_iload_n_2 ((gx_nil ?_))
        refine g_icmp_ne (off := 41) (tgt := 356) (by decide +kernel) (by decide) (fun c315 => ?_) (fun c315 => ?_)
        · try simp only [bI_0, Decidable.not_not] at c315
          exact absurd (by first | rfl | trivial) c315
        · try simp only [bI_0, Decidable.not_not] at c315
          refine g_blk [(.aload_n 0, .null)] (Nat.le_of_ble_eq_true rfl) (by decide +kernel) ?_
          refine gx_aload_n_0 ((gx_nil ?_))
          refine g_pV kL_297 (lr_lateCount Hk5) (by decide +kernel) rfl rfl hmk5 rfl (Nat.le_of_ble_eq_true rfl) (Nat.le_of_ble_eq_true rfl) (Nat.le_of_ble_eq_true rfl) rfl ?_
          simp only [Option.toList_some, Option.toList_none, List.cons_append, List.nil_append]
          refine g_blk [(.iload_n 3, .null)] (Nat.le_of_ble_eq_true rfl) (by decide +kernel) ?_
          refine gx_iload_n_3 ((gx_nil ?_))
          refine g_icmp_ne (off := 33) (tgt := 356) (by decide +kernel) (by decide) (fun c323 => ?_) (fun c323 => ?_)
          · try simp only [bI_0, Decidable.not_not] at c323
            exact absurd (by first | rfl | trivial) c323
          · try simp only [bI_0, Decidable.not_not] at c323
            refine g_blk [(.aload_n 0, .null), (.iconst 4, .int (nI 4)), (.iload_n 1, .null), (.iconst 0, .int (nI 0))] (Nat.le_of_ble_eq_true rfl) (by decide +kernel) ?_
            refine gx_aload_n_0 (gx_iconst (gx_iload_n_1 (gx_iconst ((gx_nil ?_)))))
            refine g_callSH (rc' := 72) (rs' := 2569) kL_166 (aq_4x hd hpl hp hnc Hk5) (by decide +kernel) rfl rfl (Nat.le_of_ble_eq_true rfl) (Nat.le_of_ble_eq_true rfl) (Nat.le_of_ble_eq_true rfl) (by omega) (by omega) rfl (fun _ _ z => z.elim) (fun v9 k6 hz => ?_)
            obtain ⟨rfl, Hk6⟩ := hz
            obtain ⟨fsk6, hmk6⟩ := Hk6.at12
            simp only [Option.toList_some, Option.toList_none, List.cons_append, List.nil_append]
            refine g_blk [(.sipush (-2004), .int (-2004))] (Nat.le_of_ble_eq_true rfl) (by decide +kernel) ?_
            refine gx_sipush ((gx_nil ?_))
            refine g_icmp_ne (off := 20) (tgt := 356) (by decide +kernel) (by decide) (fun c336 => ?_) (fun c336 => ?_)
            · exact absurd (by decide) c336
            · try simp only [bI_0, Decidable.not_not] at c336
              refine g_blk [(.aload_n 0, .null), (.iconst 4, .int (nI 4)), (.iconst (-1), .int (-1)), (.iconst 0, .int (nI 0))] (Nat.le_of_ble_eq_true rfl) (by decide +kernel) ?_
              refine gx_aload_n_0 (gx_iconst (gx_iconst (gx_iconst ((gx_nil ?_)))))
              refine g_callSH (rc' := 0) (rs' := 0) kL_166 (aq_4y hd hpl hp hnc Hk6) (by decide +kernel) rfl rfl (Nat.le_of_ble_eq_true rfl) (Nat.le_of_ble_eq_true rfl) (Nat.le_of_ble_eq_true rfl) (by omega) (by omega) rfl (fun _ _ z => z.elim) (fun v9 k7 hz => ?_)
              obtain ⟨rfl, Hk7⟩ := hz
              obtain ⟨fsk7, hmk7⟩ := Hk7.at12
              simp only [Option.toList_some, Option.toList_none, List.cons_append, List.nil_append]
              refine g_blk [(.sipush (-2004), .int (-2004))] (Nat.le_of_ble_eq_true rfl) (by decide +kernel) ?_
              refine gx_sipush ((gx_nil ?_))
              refine g_icmp_ne (off := 7) (tgt := 356) (by decide +kernel) (by decide) (fun c349 => ?_) (fun c349 => ?_)
              · exact absurd (by decide) c349
              · try simp only [bI_0, Decidable.not_not] at c349
                refine g_blk [(.iconst 1, .int (nI 1)), (.goto 4, .retAddr 357), (.istore 5, .null), (.iload 5, .null)] (Nat.le_of_ble_eq_true rfl) (by decide +kernel) ?_
                refine gx_iconst (gx_goto (gx_istore_5 rfl (gx_iload_5 ((gx_nil ?_)))))
                refine g_if_eq (off := 31) (tgt := 392) (by decide +kernel) (by decide) (fun c361 => ?_) (fun c361 => ?_)
                · exact absurd c361 (by decide)
                · try simp only [bI_0, Decidable.not_not] at c361
                  refine g_blk [(.aload_n 0, .null)] (Nat.le_of_ble_eq_true rfl) (by decide +kernel) ?_
                  refine gx_aload_n_0 ((gx_nil ?_))
                  refine g_pV kL_144 (lr_letterCount Hk7) (by decide +kernel) rfl rfl hmk7 rfl (Nat.le_of_ble_eq_true rfl) (Nat.le_of_ble_eq_true rfl) (Nat.le_of_ble_eq_true rfl) rfl ?_
                  simp only [Option.toList_some, Option.toList_none, List.cons_append, List.nil_append]
                  refine g_if_eq (off := 20) (tgt := 388) (by decide +kernel) (by decide) (fun c368 => ?_) (fun c368 => ?_)
                  · try simp only [bI_0, Decidable.not_not] at c368
                    refine g_blk [(.iconst 1, .int (nI 1)), (.goto 4, .retAddr 393)] (Nat.le_of_ble_eq_true rfl) (by decide +kernel) ?_
                    refine gx_iconst (gx_goto ((gx_nil ?_)))
                    refine g_end (some (.int _)) rfl ⟨by decide +kernel, _, rfl, (by first | rfl | exact bI_nar _)⟩ ?_
                    exact ⟨rfl, Hk7⟩
                  · try simp only [bI_0, Decidable.not_not] at c368
                    have h0 : ¬ c = 0 := fun z => c368 (by rw [z]; decide)
                    refine g_blk [(.aload_n 0, .null)] (Nat.le_of_ble_eq_true rfl) (by decide +kernel) ?_
                    refine gx_aload_n_0 ((gx_nil ?_))
                    refine g_pV kL_300 (lr_meanWeight hp Hk7 h0) (by decide +kernel) rfl rfl hmk7 rfl (Nat.le_of_ble_eq_true rfl) (Nat.le_of_ble_eq_true rfl) (Nat.le_of_ble_eq_true rfl) rfl ?_
                    simp only [Option.toList_some, Option.toList_none, List.cons_append, List.nil_append]
                    refine g_blk [(.iload 4, .null), (.i2d, .null), (.aload_n 0, .null)] (Nat.le_of_ble_eq_true rfl) (by decide +kernel) ?_
                    refine gx_iload_4 (gx_i2d (gx_aload_n_0 ((gx_nil ?_))))
                    refine g_pV kL_144 (lr_letterCount Hk7) (by decide +kernel) rfl rfl hmk7 rfl (Nat.le_of_ble_eq_true rfl) (Nat.le_of_ble_eq_true rfl) (Nat.le_of_ble_eq_true rfl) rfl ?_
                    simp only [Option.toList_some, Option.toList_none, List.cons_append, List.nil_append]
                    refine g_blk [(.i2d, .null)] (Nat.le_of_ble_eq_true rfl) (by decide +kernel) ?_
                    refine gx_i2d ((gx_nil ?_))
                    refine g_ddiv (rMw_n I (by omega) h0) (by decide +kernel) ?_
                    refine g_blk [(.dcmp .l, .null)] (Nat.le_of_ble_eq_true rfl) (by decide +kernel) ?_
                    refine gx_dcmp ((gx_nil ?_))
                    refine g_if_ne (off := 7) (tgt := 392) (by decide +kernel) (by decide) (fun c385 => ?_) (fun c385 => ?_)
                    · try simp only [bI_0, Decidable.not_not] at c385
                      exact absurd (dcmp_0 (rMw_n I (by omega) h0)) c385
                    · try simp only [bI_0, Decidable.not_not] at c385
                      refine g_blk [(.iconst 1, .int (nI 1)), (.goto 4, .retAddr 393)] (Nat.le_of_ble_eq_true rfl) (by decide +kernel) ?_
                      refine gx_iconst (gx_goto ((gx_nil ?_)))
                      refine g_end (some (.int _)) rfl ⟨by decide +kernel, _, rfl, (by first | rfl | exact bI_nar _)⟩ ?_
                      exact ⟨rfl, Hk7⟩
  have loop2 : ∀ n k (h : gHp), lP bm Γ de h m N c t nx → (tyL N c).length ≤ k + 1 + n → k < 50 → G Γ M_L_areLettersRight 42 8300 289400 (fun v h' => v = some (.int (nI 1)) ∧ lP bm Γ de h' m N c t nx) (fun _ _ => False) (144 * n + 216) (5138 * n + 7701) 219 [some (.ref m), some (.int (nI (tyL N c).length)), some (.int (rMs N t c)), some (.int (rLt N t c)), some (.int (rSm N c)), some (.int (nI 1)), some (.int (nI k)), none, none] [] h := by
    intro n
    induction n with
    | zero =>
      intro k h H hk hk5
      obtain ⟨fs, hm⟩ := H.at12
      refine g_blk [(.iload 6, .null), (.iconst 1, .int (nI 1)), (.iadd, .null), (.iload_n 1, .null)] (Nat.le_of_ble_eq_true rfl) (by decide +kernel) ?_
      refine gx_iload_6 (gx_iconst (gx_iadd (gx_iload_n_1 ((gx_nil ?_)))))
      try simp only [nI_add, pk_mul, Nat.add_zero, Nat.zero_add, Nat.reduceAdd, Nat.reduceMul]
      refine g_icmp_ge (off := 73) (tgt := 297) (by decide +kernel) (by decide) (fun c224 => ?_) (fun c224 => ?_)
      · try simp only [bI_0, Decidable.not_not] at c224
        refine g_weak (rc' := 216) (rs' := 7701) (L' := [some (.ref m), some (.int (nI (tyL N c).length)), some (.int (rMs N t c)), some (.int (rLt N t c)), some (.int (rSm N c)), some (.int (nI 1)), none, none, none]) ⟨rfl, rfl, rfl, rfl, rfl, rfl, True.intro⟩ (by omega) (by omega) ?_
        exact tail _ H
      · try simp only [bI_0, Decidable.not_not] at c224
        exact absurd (nI_le (by omega) (by omega)) c224
    | succ n ih =>
      intro k h H hk hk5
      obtain ⟨fs, hm⟩ := H.at12
      refine g_blk [(.iload 6, .null), (.iconst 1, .int (nI 1)), (.iadd, .null), (.iload_n 1, .null)] (Nat.le_of_ble_eq_true rfl) (by decide +kernel) ?_
      refine gx_iload_6 (gx_iconst (gx_iadd (gx_iload_n_1 ((gx_nil ?_)))))
      try simp only [nI_add, pk_mul, Nat.add_zero, Nat.zero_add, Nat.reduceAdd, Nat.reduceMul]
      refine g_icmp_ge (off := 73) (tgt := 297) (by decide +kernel) (by decide) (fun c224 => ?_) (fun c224 => ?_)
      · try simp only [bI_0, Decidable.not_not] at c224
        refine g_weak (rc' := 216) (rs' := 7701) (L' := [some (.ref m), some (.int (nI (tyL N c).length)), some (.int (rMs N t c)), some (.int (rLt N t c)), some (.int (rSm N c)), some (.int (nI 1)), none, none, none]) ⟨rfl, rfl, rfl, rfl, rfl, rfl, True.intro⟩ (by omega) (by omega) ?_
        exact tail _ H
      · try simp only [bI_0, Decidable.not_not] at c224
        have hkT : k + 1 < (tyL N c).length := by
          rcases Nat.lt_or_ge (k + 1) (tyL N c).length with y | y
          · exact y
          · exact absurd (nI_le y (by omega)) c224
        obtain ⟨i1, h1⟩ : ∃ z, (tyL N c)[k]? = some z := ⟨_, List.getElem?_eq_getElem (by omega)⟩
        obtain ⟨i2, h2⟩ : ∃ z, (tyL N c)[k + 1]? = some z := ⟨_, List.getElem?_eq_getElem hkT⟩
        have hi1 := (tyL_m (List.mem_of_getElem? h1)).1
        have hi2 := (tyL_m (List.mem_of_getElem? h2)).1
        have hnx := ty_next h1 h2
        have n01 : ¬ nI 0 = nI 1 := by decide
        refine g_blk [(.aload_n 0, .null), (.iload 6, .null)] (Nat.le_of_ble_eq_true rfl) (by decide +kernel) ?_
        refine gx_aload_n_0 (gx_iload_6 ((gx_nil ?_)))
        refine g_callV (rc' := 144 * n + 216 + 72) (rs' := 5138 * n + 7701 + 2569) kL_79 (lr_trayAt hd hpl hp H h1) (by decide +kernel) rfl rfl hm rfl (Nat.le_of_ble_eq_true rfl) (Nat.le_of_ble_eq_true rfl) (Nat.le_of_ble_eq_true rfl) (by omega) (by omega) rfl (fun _ _ z => z.elim) (fun v9 k5 hz => ?_)
        obtain ⟨rfl, Hk5⟩ := hz
        obtain ⟨fsk5, hmk5⟩ := Hk5.at12
        simp only [Option.toList_some, Option.toList_none, List.cons_append, List.nil_append]
        refine g_blk [(.istore 7, .null), (.aload_n 0, .null), (.iload 6, .null), (.iconst 1, .int (nI 1)), (.iadd, .null)] (Nat.le_of_ble_eq_true rfl) (by decide +kernel) ?_
        refine gx_istore_7 rfl (gx_aload_n_0 (gx_iload_6 (gx_iconst (gx_iadd ((gx_nil ?_))))))
        try simp only [nI_add, pk_mul, Nat.add_zero, Nat.zero_add, Nat.reduceAdd, Nat.reduceMul]
        refine g_callV (rc' := 144 * n + 216 + 0) (rs' := 5138 * n + 7701 + 0) kL_79 (lr_trayAt hd hpl hp Hk5 h2) (by decide +kernel) rfl rfl hmk5 rfl (Nat.le_of_ble_eq_true rfl) (Nat.le_of_ble_eq_true rfl) (Nat.le_of_ble_eq_true rfl) (by omega) (by omega) rfl (fun _ _ z => z.elim) (fun v9 k6 hz => ?_)
        obtain ⟨rfl, Hk6⟩ := hz
        obtain ⟨fsk6, hmk6⟩ := Hk6.at12
        simp only [Option.toList_some, Option.toList_none, List.cons_append, List.nil_append]
        refine g_blk [(.istore 8, .null), (.iload 5, .null)] (Nat.le_of_ble_eq_true rfl) (by decide +kernel) ?_
        refine gx_istore_8 rfl (gx_iload_5 ((gx_nil ?_)))
        refine g_if_eq (off := 41) (tgt := 288) (by decide +kernel) (by decide) (fun c247 => ?_) (fun c247 => ?_)
        · exact absurd c247 (by decide)
        · try simp only [bI_0, Decidable.not_not] at c247
          refine g_blk [(.aload_n 0, .null), (.iload 7, .null)] (Nat.le_of_ble_eq_true rfl) (by decide +kernel) ?_
          refine gx_aload_n_0 (gx_iload_7 ((gx_nil ?_)))
          refine g_pV kL_181 (lr_isPriority hp Hk6 hi1) (by decide +kernel) rfl rfl hmk6 rfl (Nat.le_of_ble_eq_true rfl) (Nat.le_of_ble_eq_true rfl) (Nat.le_of_ble_eq_true rfl) rfl ?_
          simp only [Option.toList_some, Option.toList_none, List.cons_append, List.nil_append]
          refine g_blk [(.aload_n 0, .null), (.iload 8, .null)] (Nat.le_of_ble_eq_true rfl) (by decide +kernel) ?_
          refine gx_aload_n_0 (gx_iload_8 ((gx_nil ?_)))
          refine g_pV kL_181 (lr_isPriority hp Hk6 hi2) (by decide +kernel) rfl rfl hmk6 rfl (Nat.le_of_ble_eq_true rfl) (Nat.le_of_ble_eq_true rfl) (Nat.le_of_ble_eq_true rfl) rfl ?_
          simp only [Option.toList_some, Option.toList_none, List.cons_append, List.nil_append]
          refine g_icmp_ne (off := 13) (tgt := 275) (by decide +kernel) (by decide) (fun c262 => ?_) (fun c262 => ?_)
          · try simp only [bI_0, Decidable.not_not] at c262
            have hp1 : N (62 + 7 * i1 + 3) = nI 1 := by
              rcases hnx with z | z | z
              · exact z.1
              · exact z.1
              · exact absurd (by rw [bI_f (fun y => n01 (z.1.symm.trans y)), bI_f (fun y => n01 (z.2.1.symm.trans y))]) c262
            refine g_blk [(.aload_n 0, .null), (.iload 7, .null)] (Nat.le_of_ble_eq_true rfl) (by decide +kernel) ?_
            refine gx_aload_n_0 (gx_iload_7 ((gx_nil ?_)))
            refine g_pV kL_181 (lr_isPriority hp Hk6 hi1) (by decide +kernel) rfl rfl hmk6 rfl (Nat.le_of_ble_eq_true rfl) (Nat.le_of_ble_eq_true rfl) (Nat.le_of_ble_eq_true rfl) rfl ?_
            simp only [Option.toList_some, Option.toList_none, List.cons_append, List.nil_append]
            refine g_if_eq (off := 7) (tgt := 288) (by decide +kernel) (by decide) (fun c281 => ?_) (fun c281 => ?_)
            · try simp only [bI_0, Decidable.not_not] at c281
              exact absurd hp1 c281
            · try simp only [bI_0, Decidable.not_not] at c281
              refine g_blk [(.iconst 1, .int (nI 1)), (.goto 4, .retAddr 289), (.istore 5, .null), (.iinc 6 1, .int (nI 1)), (.goto (-75), .retAddr 219)] (Nat.le_of_ble_eq_true rfl) (by decide +kernel) ?_
              refine gx_iconst (gx_goto (gx_istore_5 rfl (gx_iinc_6 rfl (gx_goto ((gx_nil ?_))))))
              try simp only [nI_add, pk_mul, Nat.add_zero, Nat.zero_add, Nat.reduceAdd, Nat.reduceMul]
              refine g_weak (rc' := 144 * n + 216) (rs' := 5138 * n + 7701) (L' := [some (.ref m), some (.int (nI (tyL N c).length)), some (.int (rMs N t c)), some (.int (rLt N t c)), some (.int (rSm N c)), some (.int (nI 1)), some (.int (nI (k + 1))), none, none]) ⟨rfl, rfl, rfl, rfl, rfl, rfl, rfl, True.intro⟩ (by omega) (by omega) ?_
              exact ih (k + 1) _ Hk6 (by omega) (by omega)
          · try simp only [bI_0, Decidable.not_not] at c262
            have hlt : i1 < i2 := by
              rcases hnx with z | z | z
              · exact z.2.2
              · rw [bI_t z.1, bI_f (fun y => n01 (z.2.symm.trans y))] at c262
                exact absurd c262 (by decide)
              · exact z.2.2
            refine g_blk [(.iload 7, .null), (.iload 8, .null)] (Nat.le_of_ble_eq_true rfl) (by decide +kernel) ?_
            refine gx_iload_7 (gx_iload_8 ((gx_nil ?_)))
            refine g_icmp_ge (off := 19) (tgt := 288) (by decide +kernel) (by decide) (fun c269 => ?_) (fun c269 => ?_)
            · try simp only [bI_0, Decidable.not_not] at c269
              exact absurd (as_lt I hlt hi2) (Int32.not_lt.mpr c269)
            · try simp only [bI_0, Decidable.not_not] at c269
              refine g_blk [(.goto 12, .retAddr 284), (.iconst 1, .int (nI 1)), (.goto 4, .retAddr 289), (.istore 5, .null), (.iinc 6 1, .int (nI 1)), (.goto (-75), .retAddr 219)] (Nat.le_of_ble_eq_true rfl) (by decide +kernel) ?_
              refine gx_goto (gx_iconst (gx_goto (gx_istore_5 rfl (gx_iinc_6 rfl (gx_goto ((gx_nil ?_)))))))
              try simp only [nI_add, pk_mul, Nat.add_zero, Nat.zero_add, Nat.reduceAdd, Nat.reduceMul]
              refine g_weak (rc' := 144 * n + 216) (rs' := 5138 * n + 7701) (L' := [some (.ref m), some (.int (nI (tyL N c).length)), some (.int (rMs N t c)), some (.int (rLt N t c)), some (.int (rSm N c)), some (.int (nI 1)), some (.int (nI (k + 1))), none, none]) ⟨rfl, rfl, rfl, rfl, rfl, rfl, rfl, True.intro⟩ (by omega) (by omega) ?_
              exact ih (k + 1) _ Hk6 (by omega) (by omega)
  have loop1 : ∀ n k (h : gHp), lP bm Γ de h m N c t nx → k + n = c → G Γ M_L_areLettersRight 42 8300 289400 (fun v h' => v = some (.int (nI 1)) ∧ lP bm Γ de h' m N c t nx) (fun _ _ => False) (116 * n + 5976) (3808 * n + 213221) 56 [some (.ref m), some (.int (rLn N (-1) (-1) k)), some (.int (rMs N t k)), some (.int (rLt N t k)), some (.int (rSm N k)), some (.int (nI 1)), some (.int (nI k)), none, none] [] h := by
    intro n
    induction n with
    | zero =>
      intro k h H hk
      obtain ⟨fs, hm⟩ := H.at12
      have ek : k = c := by omega
      subst ek
      refine g_blk [(.iload 6, .null), (.aload_n 0, .null)] (Nat.le_of_ble_eq_true rfl) (by decide +kernel) ?_
      refine gx_iload_6 (gx_aload_n_0 ((gx_nil ?_)))
      refine g_pV kL_144 (lr_letterCount H) (by decide +kernel) rfl rfl hm rfl (Nat.le_of_ble_eq_true rfl) (Nat.le_of_ble_eq_true rfl) (Nat.le_of_ble_eq_true rfl) rfl ?_
      simp only [Option.toList_some, Option.toList_none, List.cons_append, List.nil_append]
      refine g_icmp_ge (off := 154) (tgt := 216) (by decide +kernel) (by decide) (fun c62 => ?_) (fun c62 => ?_)
      · try simp only [bI_0, Decidable.not_not] at c62
        refine g_blk [(.iconst 0, .int (nI 0)), (.istore 6, .null)] (Nat.le_of_ble_eq_true rfl) (by decide +kernel) ?_
        refine gx_iconst (gx_istore_6 rfl ((gx_nil ?_)))
        rw [tyL_n I hn9]
        refine g_weak (rc' := 144 * 40 + 216) (rs' := 5138 * 40 + 7701) (L' := [some (.ref m), some (.int (nI (tyL N k).length)), some (.int (rMs N t k)), some (.int (rLt N t k)), some (.int (rSm N k)), some (.int (nI 1)), some (.int (nI 0)), none, none]) ⟨rfl, rfl, rfl, rfl, rfl, rfl, rfl, True.intro⟩ (by omega) (by omega) ?_
        exact loop2 40 0 _ H (by omega) (by omega)
      · try simp only [bI_0, Decidable.not_not] at c62
        exact absurd (Int32.le_refl _) c62
    | succ n ih =>
      intro k h H hk
      obtain ⟨fs, hm⟩ := H.at12
      have hkc : k < c := by omega
      obtain ⟨i, cd, w, pr, q, x2, x3, x4, x5, x6, x61, x7, x8, x9, y1, y2, y3⟩ := I.let9 hkc
      have st : ∀ x x8, ((x = nI 1 ∧ laL N t k) ∨ (x = nI 0 ∧ ¬ laL N t k)) → G Γ M_L_areLettersRight 42 8300 289400 (fun v h' => v = some (.int (nI 1)) ∧ lP bm Γ de h' m N c t nx) (fun _ _ => False) (116 * n + 5976 + 116) (3808 * n + 213221 + 3808) 155 [some (.ref m), some (.int (rLn N (-1) (-1) (k + 1))), some (.int (rMs N t (k + 1))), some (.int (rLt N t k)), some (.int (rSm N k)), some (.int (nI 1)), some (.int (nI k)), some (.int (N (62 + 7 * k))), some (.int x8)] [.int x, .int (rLt N t k)] h := by
        intro x x8 hx
        refine g_pS kL_119 (la_told _) (by decide +kernel) rfl rfl (Nat.le_of_ble_eq_true rfl) (Nat.le_of_ble_eq_true rfl) (Nat.le_of_ble_eq_true rfl) rfl ?_
        simp only [Option.toList_some, Option.toList_none, List.cons_append, List.nil_append]
        refine g_blk [(.iadd, .null)] (Nat.le_of_ble_eq_true rfl) (by decide +kernel) ?_
        refine gx_iadd ((gx_nil ?_))
        try simp only [nI_add, pk_mul, Nat.add_zero, Nat.zero_add, Nat.reduceAdd, Nat.reduceMul]
        refine g_topi (lt_s9 hx) ?_
        refine g_blk [(.istore_n 3, .null), (.iload 4, .null), (.aload_n 0, .null), (.iload 7, .null)] (Nat.le_of_ble_eq_true rfl) (by decide +kernel) ?_
        refine gx_istore_n_3 rfl (gx_iload_4 (gx_aload_n_0 (gx_iload_7 ((gx_nil ?_)))))
        refine g_pV kL_178 (lr_weightOf hp H hkc) (by decide +kernel) rfl rfl hm rfl (Nat.le_of_ble_eq_true rfl) (Nat.le_of_ble_eq_true rfl) (Nat.le_of_ble_eq_true rfl) rfl ?_
        simp only [Option.toList_some, Option.toList_none, List.cons_append, List.nil_append]
        refine g_blk [(.iadd, .null)] (Nat.le_of_ble_eq_true rfl) (by decide +kernel) ?_
        refine gx_iadd ((gx_nil ?_))
        try simp only [nI_add, pk_mul, Nat.add_zero, Nat.zero_add, Nat.reduceAdd, Nat.reduceMul]
        refine g_topi (show _ = rSm N (k + 1) from rfl) ?_
        refine g_blk [(.istore 4, .null), (.iload 5, .null)] (Nat.le_of_ble_eq_true rfl) (by decide +kernel) ?_
        refine gx_istore_4 rfl (gx_iload_5 ((gx_nil ?_)))
        refine g_if_eq (off := 34) (tgt := 207) (by decide +kernel) (by decide) (fun c173 => ?_) (fun c173 => ?_)
        · exact absurd c173 (by decide)
        · try simp only [bI_0, Decidable.not_not] at c173
          refine g_blk [(.aload_n 0, .null), (.iload 7, .null)] (Nat.le_of_ble_eq_true rfl) (by decide +kernel) ?_
          refine gx_aload_n_0 (gx_iload_7 ((gx_nil ?_)))
          refine g_callS (rc' := 116 * n + 5976 + 0) (rs' := 3808 * n + 213221 + 0) kL_287 (la_isLetterRight hd hpl hp hnc hps hpt hpw H hkc) (by decide +kernel) rfl rfl (Nat.le_of_ble_eq_true rfl) (Nat.le_of_ble_eq_true rfl) (Nat.le_of_ble_eq_true rfl) (by omega) (by omega) rfl (fun _ _ z => z.elim) (fun v9 k5 hz => ?_)
          obtain ⟨rfl, Hk5⟩ := hz
          obtain ⟨fsk5, hmk5⟩ := Hk5.at12
          simp only [Option.toList_some, Option.toList_none, List.cons_append, List.nil_append]
          refine g_if_eq (off := 25) (tgt := 207) (by decide +kernel) (by decide) (fun c182 => ?_) (fun c182 => ?_)
          · exact absurd c182 (by decide)
          · try simp only [bI_0, Decidable.not_not] at c182
            refine g_blk [(.iload 6, .null)] (Nat.le_of_ble_eq_true rfl) (by decide +kernel) ?_
            refine gx_iload_6 ((gx_nil ?_))
            refine g_if_eq (off := 16) (tgt := 203) (by decide +kernel) (by decide) (fun c187 => ?_) (fun c187 => ?_)
            · try simp only [bI_0, Decidable.not_not] at c187
              refine g_blk [(.iconst 1, .int (nI 1)), (.goto 4, .retAddr 208), (.istore 5, .null), (.iinc 6 1, .int (nI 1)), (.goto (-157), .retAddr 56)] (Nat.le_of_ble_eq_true rfl) (by decide +kernel) ?_
              refine gx_iconst (gx_goto (gx_istore_5 rfl (gx_iinc_6 rfl (gx_goto ((gx_nil ?_))))))
              try simp only [nI_add, pk_mul, Nat.add_zero, Nat.zero_add, Nat.reduceAdd, Nat.reduceMul]
              refine g_weak (rc' := 116 * n + 5976) (rs' := 3808 * n + 213221) (L' := [some (.ref m), some (.int (rLn N (-1) (-1) (k + 1))), some (.int (rMs N t (k + 1))), some (.int (rLt N t (k + 1))), some (.int (rSm N (k + 1))), some (.int (nI 1)), some (.int (nI (k + 1))), none, none]) ⟨rfl, rfl, rfl, rfl, rfl, rfl, rfl, True.intro⟩ (by omega) (by omega) ?_
              exact ih (k + 1) _ Hk5 (by omega)
            · try simp only [bI_0, Decidable.not_not] at c187
              have hk0 : ¬ k = 0 := fun z => c187 (by rw [z]; decide)
              refine g_blk [(.aload_n 0, .null), (.iload 6, .null), (.iconst 1, .int (nI 1)), (.isub, .null)] (Nat.le_of_ble_eq_true rfl) (by decide +kernel) ?_
              refine gx_aload_n_0 (gx_iload_6 (gx_iconst (gx_isub ((gx_nil ?_)))))
              refine g_topi (nI_subN (show 1 ≤ k by omega)) ?_
              refine g_pV kL_67 (lr_idAt hp Hk5 (show k - 1 < c by omega)) (by decide +kernel) rfl rfl hmk5 rfl (Nat.le_of_ble_eq_true rfl) (Nat.le_of_ble_eq_true rfl) (Nat.le_of_ble_eq_true rfl) rfl ?_
              simp only [Option.toList_some, Option.toList_none, List.cons_append, List.nil_append]
              refine g_blk [(.iload 7, .null)] (Nat.le_of_ble_eq_true rfl) (by decide +kernel) ?_
              refine gx_iload_7 ((gx_nil ?_))
              refine g_icmp_ge (off := 7) (tgt := 207) (by decide +kernel) (by decide) (fun c200 => ?_) (fun c200 => ?_)
              · try simp only [bI_0, Decidable.not_not] at c200
                exact absurd (as_lt I (show k - 1 < k by omega) hkc) (Int32.not_lt.mpr c200)
              · try simp only [bI_0, Decidable.not_not] at c200
                refine g_blk [(.iconst 1, .int (nI 1)), (.goto 4, .retAddr 208), (.istore 5, .null), (.iinc 6 1, .int (nI 1)), (.goto (-157), .retAddr 56)] (Nat.le_of_ble_eq_true rfl) (by decide +kernel) ?_
                refine gx_iconst (gx_goto (gx_istore_5 rfl (gx_iinc_6 rfl (gx_goto ((gx_nil ?_))))))
                try simp only [nI_add, pk_mul, Nat.add_zero, Nat.zero_add, Nat.reduceAdd, Nat.reduceMul]
                refine g_weak (rc' := 116 * n + 5976) (rs' := 3808 * n + 213221) (L' := [some (.ref m), some (.int (rLn N (-1) (-1) (k + 1))), some (.int (rMs N t (k + 1))), some (.int (rLt N t (k + 1))), some (.int (rSm N (k + 1))), some (.int (nI 1)), some (.int (nI (k + 1))), none, none]) ⟨rfl, rfl, rfl, rfl, rfl, rfl, rfl, True.intro⟩ (by omega) (by omega) ?_
                exact ih (k + 1) _ Hk5 (by omega)
      rcases lr_cases I k with e | ⟨r, hr, e⟩
      · have ero := ro_0 I x4 x5 e
        refine g_blk [(.iload 6, .null), (.aload_n 0, .null)] (Nat.le_of_ble_eq_true rfl) (by decide +kernel) ?_
        refine gx_iload_6 (gx_aload_n_0 ((gx_nil ?_)))
        refine g_pV kL_144 (lr_letterCount H) (by decide +kernel) rfl rfl hm rfl (Nat.le_of_ble_eq_true rfl) (Nat.le_of_ble_eq_true rfl) (Nat.le_of_ble_eq_true rfl) rfl ?_
        simp only [Option.toList_some, Option.toList_none, List.cons_append, List.nil_append]
        refine g_icmp_ge (off := 154) (tgt := 216) (by decide +kernel) (by decide) (fun c62 => ?_) (fun c62 => ?_)
        · try simp only [bI_0, Decidable.not_not] at c62
          exact absurd ((nI_leI (by omega) (by omega)).mp c62) (by omega)
        · try simp only [bI_0, Decidable.not_not] at c62
          refine g_blk [(.aload_n 0, .null), (.iload 6, .null)] (Nat.le_of_ble_eq_true rfl) (by decide +kernel) ?_
          refine gx_aload_n_0 (gx_iload_6 ((gx_nil ?_)))
          refine g_pV kL_67 (lr_idAt hp H hkc) (by decide +kernel) rfl rfl hm rfl (Nat.le_of_ble_eq_true rfl) (Nat.le_of_ble_eq_true rfl) (Nat.le_of_ble_eq_true rfl) rfl ?_
          simp only [Option.toList_some, Option.toList_none, List.cons_append, List.nil_append]
          refine g_blk [(.istore 7, .null), (.aload_n 0, .null), (.aload_n 0, .null), (.iload 7, .null)] (Nat.le_of_ble_eq_true rfl) (by decide +kernel) ?_
          refine gx_istore_7 rfl (gx_aload_n_0 (gx_aload_n_0 (gx_iload_7 ((gx_nil ?_)))))
          refine g_pV kL_70 (lr_codeOf hp H hkc) (by decide +kernel) rfl rfl hm rfl (Nat.le_of_ble_eq_true rfl) (Nat.le_of_ble_eq_true rfl) (Nat.le_of_ble_eq_true rfl) rfl ?_
          simp only [Option.toList_some, Option.toList_none, List.cons_append, List.nil_append]
          refine g_topi x4 ?_
          refine g_pS kL_198 (la_route hp H hm x5) (by decide +kernel) rfl rfl (Nat.le_of_ble_eq_true rfl) (Nat.le_of_ble_eq_true rfl) (Nat.le_of_ble_eq_true rfl) rfl ?_
          simp only [Option.toList_some, Option.toList_none, List.cons_append, List.nil_append]
          refine g_topi ero ?_
          refine g_blk [(.istore 8, .null), (.iload_n 1, .null), (.aload_n 0, .null), (.iload 7, .null)] (Nat.le_of_ble_eq_true rfl) (by decide +kernel) ?_
          refine gx_istore_8 rfl (gx_iload_n_1 (gx_aload_n_0 (gx_iload_7 ((gx_nil ?_)))))
          refine g_pV kL_191 (lr_isInTray hp H hkc) (by decide +kernel) rfl rfl hm rfl (Nat.le_of_ble_eq_true rfl) (Nat.le_of_ble_eq_true rfl) (Nat.le_of_ble_eq_true rfl) rfl ?_
          simp only [Option.toList_some, Option.toList_none, List.cons_append, List.nil_append]
          refine g_pS kL_119 (la_told _) (by decide +kernel) rfl rfl (Nat.le_of_ble_eq_true rfl) (Nat.le_of_ble_eq_true rfl) (Nat.le_of_ble_eq_true rfl) rfl ?_
          simp only [Option.toList_some, Option.toList_none, List.cons_append, List.nil_append]
          refine g_blk [(.iadd, .null)] (Nat.le_of_ble_eq_true rfl) (by decide +kernel) ?_
          refine gx_iadd ((gx_nil ?_))
          try simp only [nI_add, pk_mul, Nat.add_zero, Nat.zero_add, Nat.reduceAdd, Nat.reduceMul]
          refine g_topi ln_s9 ?_
          refine g_blk [(.istore_n 1, .null), (.iload_n 2, .null), (.aload_n 0, .null), (.iload 7, .null)] (Nat.le_of_ble_eq_true rfl) (by decide +kernel) ?_
          refine gx_istore_n_1 rfl (gx_iload_n_2 (gx_aload_n_0 (gx_iload_7 ((gx_nil ?_)))))
          refine g_pV kL_263 (lr_isMissorted hp H hkc) (by decide +kernel) rfl rfl hm rfl (Nat.le_of_ble_eq_true rfl) (Nat.le_of_ble_eq_true rfl) (Nat.le_of_ble_eq_true rfl) rfl ?_
          simp only [Option.toList_some, Option.toList_none, List.cons_append, List.nil_append]
          refine g_pS kL_119 (la_told _) (by decide +kernel) rfl rfl (Nat.le_of_ble_eq_true rfl) (Nat.le_of_ble_eq_true rfl) (Nat.le_of_ble_eq_true rfl) rfl ?_
          simp only [Option.toList_some, Option.toList_none, List.cons_append, List.nil_append]
          refine g_blk [(.iadd, .null)] (Nat.le_of_ble_eq_true rfl) (by decide +kernel) ?_
          refine gx_iadd ((gx_nil ?_))
          try simp only [nI_add, pk_mul, Nat.add_zero, Nat.zero_add, Nat.reduceAdd, Nat.reduceMul]
          refine g_topi ms_s9 ?_
          refine g_blk [(.istore_n 2, .null), (.iload_n 3, .null), (.aload_n 0, .null), (.iload 7, .null)] (Nat.le_of_ble_eq_true rfl) (by decide +kernel) ?_
          refine gx_istore_n_2 rfl (gx_iload_n_3 (gx_aload_n_0 (gx_iload_7 ((gx_nil ?_)))))
          refine g_pV kL_191 (lr_isInTray hp H hkc) (by decide +kernel) rfl rfl hm rfl (Nat.le_of_ble_eq_true rfl) (Nat.le_of_ble_eq_true rfl) (Nat.le_of_ble_eq_true rfl) rfl ?_
          simp only [Option.toList_some, Option.toList_none, List.cons_append, List.nil_append]
          refine g_if_eq (off := 38) (tgt := 154) (by decide +kernel) (by decide) (fun c116 => ?_) (fun c116 => ?_)
          · try simp only [bI_0, Decidable.not_not] at c116
            refine g_blk [(.iconst 0, .int (nI 0))] (Nat.le_of_ble_eq_true rfl) (by decide +kernel) ?_
            refine gx_iconst ((gx_nil ?_))
            refine g_rcs (rc' := 116 * n + 5976 + 116) (rs' := 3808 * n + 213221 + 3808) (by omega) (by omega) ?_
            exact st _ _ (Or.inr ⟨rfl, fun z => c116 z.1⟩)
          · try simp only [bI_0, Decidable.not_not] at c116
            refine g_blk [(.aload_n 0, .null), (.iload 7, .null)] (Nat.le_of_ble_eq_true rfl) (by decide +kernel) ?_
            refine gx_aload_n_0 (gx_iload_7 ((gx_nil ?_)))
            refine g_pV kL_181 (lr_isPriority hp H hkc) (by decide +kernel) rfl rfl hm rfl (Nat.le_of_ble_eq_true rfl) (Nat.le_of_ble_eq_true rfl) (Nat.le_of_ble_eq_true rfl) rfl ?_
            simp only [Option.toList_some, Option.toList_none, List.cons_append, List.nil_append]
            refine g_if_ne (off := 29) (tgt := 154) (by decide +kernel) (by decide) (fun c125 => ?_) (fun c125 => ?_)
            · try simp only [bI_0, Decidable.not_not] at c125
              refine g_blk [(.iconst 0, .int (nI 0))] (Nat.le_of_ble_eq_true rfl) (by decide +kernel) ?_
              refine gx_iconst ((gx_nil ?_))
              refine g_rcs (rc' := 116 * n + 5976 + 116) (rs' := 3808 * n + 213221 + 3808) (by omega) (by omega) ?_
              exact st _ _ (Or.inr ⟨rfl, fun z => absurd (c125.symm.trans z.2.1) (by decide)⟩)
            · try simp only [bI_0, Decidable.not_not] at c125
              have npr : N (62 + 7 * k + 3) = 0 := by
                rcases (show pr = 0 ∨ pr = 1 by omega) with z | z
                · rw [x8, z]; decide
                · exact absurd (by rw [x8, z]) c125
              refine g_blk [(.iload 8, .null)] (Nat.le_of_ble_eq_true rfl) (by decide +kernel) ?_
              refine gx_iload_8 ((gx_nil ?_))
              refine g_if_lt (off := 24) (tgt := 154) (by decide +kernel) (by decide) (fun c130 => ?_) (fun c130 => ?_)
              · try simp only [bI_0, Decidable.not_not] at c130
                refine g_blk [(.iconst 0, .int (nI 0))] (Nat.le_of_ble_eq_true rfl) (by decide +kernel) ?_
                refine gx_iconst ((gx_nil ?_))
                refine g_rcs (rc' := 116 * n + 5976 + 116) (rs' := 3808 * n + 213221 + 3808) (by omega) (by omega) ?_
                exact st _ _ (Or.inr ⟨rfl, fun z => z.2.2.1 e⟩)
              · exact absurd (by decide) c130
      · have ero := ro_1 I x4 x5 hr e
        refine g_blk [(.iload 6, .null), (.aload_n 0, .null)] (Nat.le_of_ble_eq_true rfl) (by decide +kernel) ?_
        refine gx_iload_6 (gx_aload_n_0 ((gx_nil ?_)))
        refine g_pV kL_144 (lr_letterCount H) (by decide +kernel) rfl rfl hm rfl (Nat.le_of_ble_eq_true rfl) (Nat.le_of_ble_eq_true rfl) (Nat.le_of_ble_eq_true rfl) rfl ?_
        simp only [Option.toList_some, Option.toList_none, List.cons_append, List.nil_append]
        refine g_icmp_ge (off := 154) (tgt := 216) (by decide +kernel) (by decide) (fun c62 => ?_) (fun c62 => ?_)
        · try simp only [bI_0, Decidable.not_not] at c62
          exact absurd ((nI_leI (by omega) (by omega)).mp c62) (by omega)
        · try simp only [bI_0, Decidable.not_not] at c62
          refine g_blk [(.aload_n 0, .null), (.iload 6, .null)] (Nat.le_of_ble_eq_true rfl) (by decide +kernel) ?_
          refine gx_aload_n_0 (gx_iload_6 ((gx_nil ?_)))
          refine g_pV kL_67 (lr_idAt hp H hkc) (by decide +kernel) rfl rfl hm rfl (Nat.le_of_ble_eq_true rfl) (Nat.le_of_ble_eq_true rfl) (Nat.le_of_ble_eq_true rfl) rfl ?_
          simp only [Option.toList_some, Option.toList_none, List.cons_append, List.nil_append]
          refine g_blk [(.istore 7, .null), (.aload_n 0, .null), (.aload_n 0, .null), (.iload 7, .null)] (Nat.le_of_ble_eq_true rfl) (by decide +kernel) ?_
          refine gx_istore_7 rfl (gx_aload_n_0 (gx_aload_n_0 (gx_iload_7 ((gx_nil ?_)))))
          refine g_pV kL_70 (lr_codeOf hp H hkc) (by decide +kernel) rfl rfl hm rfl (Nat.le_of_ble_eq_true rfl) (Nat.le_of_ble_eq_true rfl) (Nat.le_of_ble_eq_true rfl) rfl ?_
          simp only [Option.toList_some, Option.toList_none, List.cons_append, List.nil_append]
          refine g_topi x4 ?_
          refine g_pS kL_198 (la_route hp H hm x5) (by decide +kernel) rfl rfl (Nat.le_of_ble_eq_true rfl) (Nat.le_of_ble_eq_true rfl) (Nat.le_of_ble_eq_true rfl) rfl ?_
          simp only [Option.toList_some, Option.toList_none, List.cons_append, List.nil_append]
          refine g_topi ero ?_
          refine g_blk [(.istore 8, .null), (.iload_n 1, .null), (.aload_n 0, .null), (.iload 7, .null)] (Nat.le_of_ble_eq_true rfl) (by decide +kernel) ?_
          refine gx_istore_8 rfl (gx_iload_n_1 (gx_aload_n_0 (gx_iload_7 ((gx_nil ?_)))))
          refine g_pV kL_191 (lr_isInTray hp H hkc) (by decide +kernel) rfl rfl hm rfl (Nat.le_of_ble_eq_true rfl) (Nat.le_of_ble_eq_true rfl) (Nat.le_of_ble_eq_true rfl) rfl ?_
          simp only [Option.toList_some, Option.toList_none, List.cons_append, List.nil_append]
          refine g_pS kL_119 (la_told _) (by decide +kernel) rfl rfl (Nat.le_of_ble_eq_true rfl) (Nat.le_of_ble_eq_true rfl) (Nat.le_of_ble_eq_true rfl) rfl ?_
          simp only [Option.toList_some, Option.toList_none, List.cons_append, List.nil_append]
          refine g_blk [(.iadd, .null)] (Nat.le_of_ble_eq_true rfl) (by decide +kernel) ?_
          refine gx_iadd ((gx_nil ?_))
          try simp only [nI_add, pk_mul, Nat.add_zero, Nat.zero_add, Nat.reduceAdd, Nat.reduceMul]
          refine g_topi ln_s9 ?_
          refine g_blk [(.istore_n 1, .null), (.iload_n 2, .null), (.aload_n 0, .null), (.iload 7, .null)] (Nat.le_of_ble_eq_true rfl) (by decide +kernel) ?_
          refine gx_istore_n_1 rfl (gx_iload_n_2 (gx_aload_n_0 (gx_iload_7 ((gx_nil ?_)))))
          refine g_pV kL_263 (lr_isMissorted hp H hkc) (by decide +kernel) rfl rfl hm rfl (Nat.le_of_ble_eq_true rfl) (Nat.le_of_ble_eq_true rfl) (Nat.le_of_ble_eq_true rfl) rfl ?_
          simp only [Option.toList_some, Option.toList_none, List.cons_append, List.nil_append]
          refine g_pS kL_119 (la_told _) (by decide +kernel) rfl rfl (Nat.le_of_ble_eq_true rfl) (Nat.le_of_ble_eq_true rfl) (Nat.le_of_ble_eq_true rfl) rfl ?_
          simp only [Option.toList_some, Option.toList_none, List.cons_append, List.nil_append]
          refine g_blk [(.iadd, .null)] (Nat.le_of_ble_eq_true rfl) (by decide +kernel) ?_
          refine gx_iadd ((gx_nil ?_))
          try simp only [nI_add, pk_mul, Nat.add_zero, Nat.zero_add, Nat.reduceAdd, Nat.reduceMul]
          refine g_topi ms_s9 ?_
          refine g_blk [(.istore_n 2, .null), (.iload_n 3, .null), (.aload_n 0, .null), (.iload 7, .null)] (Nat.le_of_ble_eq_true rfl) (by decide +kernel) ?_
          refine gx_istore_n_2 rfl (gx_iload_n_3 (gx_aload_n_0 (gx_iload_7 ((gx_nil ?_)))))
          refine g_pV kL_191 (lr_isInTray hp H hkc) (by decide +kernel) rfl rfl hm rfl (Nat.le_of_ble_eq_true rfl) (Nat.le_of_ble_eq_true rfl) (Nat.le_of_ble_eq_true rfl) rfl ?_
          simp only [Option.toList_some, Option.toList_none, List.cons_append, List.nil_append]
          refine g_if_eq (off := 38) (tgt := 154) (by decide +kernel) (by decide) (fun c116 => ?_) (fun c116 => ?_)
          · try simp only [bI_0, Decidable.not_not] at c116
            refine g_blk [(.iconst 0, .int (nI 0))] (Nat.le_of_ble_eq_true rfl) (by decide +kernel) ?_
            refine gx_iconst ((gx_nil ?_))
            refine g_rcs (rc' := 116 * n + 5976 + 116) (rs' := 3808 * n + 213221 + 3808) (by omega) (by omega) ?_
            exact st _ _ (Or.inr ⟨rfl, fun z => c116 z.1⟩)
          · try simp only [bI_0, Decidable.not_not] at c116
            refine g_blk [(.aload_n 0, .null), (.iload 7, .null)] (Nat.le_of_ble_eq_true rfl) (by decide +kernel) ?_
            refine gx_aload_n_0 (gx_iload_7 ((gx_nil ?_)))
            refine g_pV kL_181 (lr_isPriority hp H hkc) (by decide +kernel) rfl rfl hm rfl (Nat.le_of_ble_eq_true rfl) (Nat.le_of_ble_eq_true rfl) (Nat.le_of_ble_eq_true rfl) rfl ?_
            simp only [Option.toList_some, Option.toList_none, List.cons_append, List.nil_append]
            refine g_if_ne (off := 29) (tgt := 154) (by decide +kernel) (by decide) (fun c125 => ?_) (fun c125 => ?_)
            · try simp only [bI_0, Decidable.not_not] at c125
              refine g_blk [(.iconst 0, .int (nI 0))] (Nat.le_of_ble_eq_true rfl) (by decide +kernel) ?_
              refine gx_iconst ((gx_nil ?_))
              refine g_rcs (rc' := 116 * n + 5976 + 116) (rs' := 3808 * n + 213221 + 3808) (by omega) (by omega) ?_
              exact st _ _ (Or.inr ⟨rfl, fun z => absurd (c125.symm.trans z.2.1) (by decide)⟩)
            · try simp only [bI_0, Decidable.not_not] at c125
              have npr : N (62 + 7 * k + 3) = 0 := by
                rcases (show pr = 0 ∨ pr = 1 by omega) with z | z
                · rw [x8, z]; decide
                · exact absurd (by rw [x8, z]) c125
              refine g_blk [(.iload 8, .null)] (Nat.le_of_ble_eq_true rfl) (by decide +kernel) ?_
              refine gx_iload_8 ((gx_nil ?_))
              refine g_if_lt (off := 24) (tgt := 154) (by decide +kernel) (by decide) (fun c130 => ?_) (fun c130 => ?_)
              · try simp only [bI_0, Decidable.not_not] at c130
                exact absurd c130 (nI_pos (by omega))
              · try simp only [bI_0, Decidable.not_not] at c130
                refine g_blk [(.aload_n 0, .null)] (Nat.le_of_ble_eq_true rfl) (by decide +kernel) ?_
                refine gx_aload_n_0 ((gx_nil ?_))
                refine g_pV kL_151 (lr_hour H) (by decide +kernel) rfl rfl hm rfl (Nat.le_of_ble_eq_true rfl) (Nat.le_of_ble_eq_true rfl) (Nat.le_of_ble_eq_true rfl) rfl ?_
                simp only [Option.toList_some, Option.toList_none, List.cons_append, List.nil_append]
                refine g_blk [(.aload_n 0, .null), (.iconst 0, .int (nI 0)), (.iload 8, .null)] (Nat.le_of_ble_eq_true rfl) (by decide +kernel) ?_
                refine gx_aload_n_0 (gx_iconst (gx_iload_8 ((gx_nil ?_))))
                refine g_mmax kML_282 (by decide +kernel) (by decide) (Nat.le_of_ble_eq_true rfl) ?_
                rw [rMx_0 (by omega)]
                refine g_pV kL_172 (lr_cutoff hp H hr) (by decide +kernel) rfl rfl hm rfl (Nat.le_of_ble_eq_true rfl) (Nat.le_of_ble_eq_true rfl) (Nat.le_of_ble_eq_true rfl) rfl ?_
                simp only [Option.toList_some, Option.toList_none, List.cons_append, List.nil_append]
                refine g_icmp_lt (off := 7) (tgt := 154) (by decide +kernel) (by decide) (fun c147 => ?_) (fun c147 => ?_)
                · try simp only [bI_0, Decidable.not_not] at c147
                  refine g_blk [(.iconst 0, .int (nI 0))] (Nat.le_of_ble_eq_true rfl) (by decide +kernel) ?_
                  refine gx_iconst ((gx_nil ?_))
                  refine g_rcs (rc' := 116 * n + 5976 + 116) (rs' := 3808 * n + 213221 + 3808) (by omega) (by omega) ?_
                  exact st _ _ (Or.inr ⟨rfl, fun z => by
                    have z9 := z.2.2.2
                    rw [e, rIx_nI (by omega)] at z9
                    exact absurd c147 (Int32.not_lt.mpr z9)⟩)
                · try simp only [bI_0, Decidable.not_not] at c147
                  refine g_blk [(.iconst 1, .int (nI 1)), (.goto 4, .retAddr 155)] (Nat.le_of_ble_eq_true rfl) (by decide +kernel) ?_
                  refine gx_iconst (gx_goto ((gx_nil ?_)))
                  refine g_rcs (rc' := 116 * n + 5976 + 116) (rs' := 3808 * n + 213221 + 3808) (by omega) (by omega) ?_
                  exact st _ _ (Or.inl ⟨rfl, c116, npr, (by rw [e]; exact nI_nm1 (by omega)), (by rw [e, rIx_nI (by omega)]; exact Int32.not_lt.mp c147)⟩)
  obtain ⟨fs, hm⟩ := H.at12
  refine gC_of (by decide) rfl (Nat.le_of_ble_eq_true rfl) [some (.ref m), none, none, none, none, none, none, none, none] rfl ?_
  refine g_blk [(.iconst 0, .int (nI 0)), (.istore_n 1, .null), (.iconst 0, .int (nI 0)), (.istore_n 2, .null), (.iconst 0, .int (nI 0)), (.istore_n 3, .null), (.iconst 0, .int (nI 0)), (.istore 4, .null), (.aload_n 0, .null), (.iconst 0, .int (nI 0)), (.aload_n 0, .null)] (Nat.le_of_ble_eq_true rfl) (by decide +kernel) ?_
  refine gx_iconst (gx_istore_n_1 rfl (gx_iconst (gx_istore_n_2 rfl (gx_iconst (gx_istore_n_3 rfl (gx_iconst (gx_istore_4 rfl (gx_aload_n_0 (gx_iconst (gx_aload_n_0 ((gx_nil ?_))))))))))))
  refine g_pV kL_144 (lr_letterCount H) (by decide +kernel) rfl rfl hm rfl (Nat.le_of_ble_eq_true rfl) (Nat.le_of_ble_eq_true rfl) (Nat.le_of_ble_eq_true rfl) rfl ?_
  simp only [Option.toList_some, Option.toList_none, List.cons_append, List.nil_append]
  refine g_blk [(.iconst 0, .int (nI 0))] (Nat.le_of_ble_eq_true rfl) (by decide +kernel) ?_
  refine gx_iconst ((gx_nil ?_))
  refine g_callSH (rc' := 8299) (rs' := 289394) kL_166 (aq_0 hp hnc H) (by decide +kernel) rfl rfl (Nat.le_of_ble_eq_true rfl) (Nat.le_of_ble_eq_true rfl) (Nat.le_of_ble_eq_true rfl) (by omega) (by omega) rfl (fun _ _ z => z.elim) (fun v9 k5 hz => ?_)
  obtain ⟨rfl, rfl⟩ := hz
  simp only [Option.toList_some, Option.toList_none, List.cons_append, List.nil_append]
  refine g_blk [(.sipush (-2002), .int (-2002))] (Nat.le_of_ble_eq_true rfl) (by decide +kernel) ?_
  refine gx_sipush ((gx_nil ?_))
  refine g_icmp_ne (off := 28) (tgt := 50) (by decide +kernel) (by decide) (fun c22 => ?_) (fun c22 => ?_)
  · exact absurd (by decide) c22
  · try simp only [bI_0, Decidable.not_not] at c22
    refine g_blk [(.aload_n 0, .null), (.iconst 1, .int (nI 1)), (.iconst (-1), .int (-1)), (.iconst 0, .int (nI 0))] (Nat.le_of_ble_eq_true rfl) (by decide +kernel) ?_
    refine gx_aload_n_0 (gx_iconst (gx_iconst (gx_iconst ((gx_nil ?_)))))
    refine g_callSH (rc' := 8298) (rs' := 289388) kL_166 (aq_1 hp hnc H) (by decide +kernel) rfl rfl (Nat.le_of_ble_eq_true rfl) (Nat.le_of_ble_eq_true rfl) (Nat.le_of_ble_eq_true rfl) (by omega) (by omega) rfl (fun _ _ z => z.elim) (fun v9 k6 hz => ?_)
    obtain ⟨rfl, rfl⟩ := hz
    simp only [Option.toList_some, Option.toList_none, List.cons_append, List.nil_append]
    refine g_blk [(.sipush (-2004), .int (-2004))] (Nat.le_of_ble_eq_true rfl) (by decide +kernel) ?_
    refine gx_sipush ((gx_nil ?_))
    refine g_icmp_ne (off := 15) (tgt := 50) (by decide +kernel) (by decide) (fun c35 => ?_) (fun c35 => ?_)
    · exact absurd (by decide) c35
    · try simp only [bI_0, Decidable.not_not] at c35
      refine g_blk [(.aload_n 0, .null), (.iconst (-1), .int (-1))] (Nat.le_of_ble_eq_true rfl) (by decide +kernel) ?_
      refine gx_aload_n_0 (gx_iconst ((gx_nil ?_)))
      refine g_pV kL_279 (lr_isPresent_no H) (by decide +kernel) rfl rfl hm rfl (Nat.le_of_ble_eq_true rfl) (Nat.le_of_ble_eq_true rfl) (Nat.le_of_ble_eq_true rfl) rfl ?_
      simp only [Option.toList_some, Option.toList_none, List.cons_append, List.nil_append]
      refine g_if_ne (off := 7) (tgt := 50) (by decide +kernel) (by decide) (fun c43 => ?_) (fun c43 => ?_)
      · exact absurd (by decide) c43
      · try simp only [bI_0, Decidable.not_not] at c43
        refine g_blk [(.iconst 1, .int (nI 1)), (.goto 4, .retAddr 51), (.istore 5, .null), (.iconst 0, .int (nI 0)), (.istore 6, .null)] (Nat.le_of_ble_eq_true rfl) (by decide +kernel) ?_
        refine gx_iconst (gx_goto (gx_istore_5 rfl (gx_iconst (gx_istore_6 rfl ((gx_nil ?_))))))
        refine g_weak (rc' := 116 * c + 5976) (rs' := 3808 * c + 213221) (L' := [some (.ref m), some (.int (rLn N (-1) (-1) 0)), some (.int (rMs N t 0)), some (.int (rLt N t 0)), some (.int (rSm N 0)), some (.int (nI 1)), some (.int (nI 0)), none, none]) ⟨rfl, rfl, rfl, rfl, rfl, rfl, rfl, True.intro⟩ (by omega) (by omega) ?_
        exact loop1 c 0 _ H (by omega)
end GLm
