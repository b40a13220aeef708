/-! PURE CONTRACTS: the heap stays -/
section GPu
variable {Γ : gE} {M : gM} {d mc ms : Nat} {Z : Option Value → gHp → Prop} {ZX : String → gHp → Prop} {rc rs pc : Nat} {L L' : List (Option Value)} {st st' : List Value} {h : gHp}
def pC (Γ : gE) (M : gM) (av : List Value) (h : gHp) (d : Nat) (v : Option Value) : Prop := gC Γ M av h d 0 0 (fun v' h' => v' = v ∧ h' = h) (fun _ _ => False)
abbrev pG (Γ : gE) (M : gM) (d : Nat) (v : Option Value) (h : gHp) (pc : Nat) (L : List (Option Value)) (st : List Value) : Prop := G Γ M d 0 0 (fun v' h' => v' = v ∧ h' = h) (fun _ _ => False) 0 0 pc L st h
theorem pC_of {av : List Value} {v : Option Value} (hy : plainName M.1.cls = true) (hh : M.2.2.2.2 = []) (hlen : (lg_sl av).length ≤ M.2.2.1) (L : List (Option Value)) (hL : gAs 0 L = lv_args 0 av) (k : pG Γ M d v h 0 L []) : pC Γ M av h d v := gC_of hy hh hlen L hL k
theorem g_top {x y : Value} (e : x = y) (k : G Γ M d mc ms Z ZX rc rs pc L (y :: st) h) : G Γ M d mc ms Z ZX rc rs pc L (x :: st) h := e ▸ k
theorem g_topi {x y : Int32} (e : x = y) (k : G Γ M d mc ms Z ZX rc rs pc L (.int y :: st) h) : G Γ M d mc ms Z ZX rc rs pc L (.int x :: st) h := e ▸ k
theorem g_lcl (e : L = L') (k : G Γ M d mc ms Z ZX rc rs pc L' st h) : G Γ M d mc ms Z ZX rc rs pc L st h := e ▸ k
theorem g_hp {h1 h2 : gHp} (e : h1 = h2) (k : G Γ M d mc ms Z ZX rc rs pc L st h1) : G Γ M d mc ms Z ZX rc rs pc L st h2 := e ▸ k
theorem g_wk (hL : gLe L' L) (k : G Γ M d mc ms Z ZX rc rs pc L' st h) : G Γ M d mc ms Z ZX rc rs pc L st h := g_weak hL (Nat.le_refl _) (Nat.le_refl _) k

theorem g_pS {idx n d' : Nat} {M' : gM} {av : List Value} {v : Option Value} (hlk : gLkS M.1.cls idx M' n) (hC : pC Γ M' av h d' v) (hd : decode M.2.1 pc = .ok (.invokestatic idx, 3)) (hst : st' = av.reverse ++ st) (hn : av.length = n) (hdd : d' + 1 ≤ d) (hnl : M'.2.2.1 ≤ 80) (hcat : (st.map fun v => v.category).sum ≤ 8) (hh : M.2.2.2.2 = []) (kk : G Γ M d mc ms Z ZX rc rs (pc + 3) L (v.toList ++ st) h) : G Γ M d mc ms Z ZX rc rs pc L st' h :=
  g_callS (rc' := rc) (rs' := rs) hlk hC hd hst hn hdd hnl hcat (Nat.le_refl _) (Nat.le_refl _) hh (fun _ _ z => z.elim) (fun w h' q => by
    obtain ⟨rfl, rfl⟩ := q
    exact kk)
theorem g_pSN {idx n d' : Nat} {M' : gM} {host : String} {av : List Value} {v : Option Value} (hlk : gLkSN M.1.cls host idx M' n) (hC : pC Γ M' av h d' v) (hd : decode M.2.1 pc = .ok (.invokestatic idx, 3)) (hst : st' = av.reverse ++ st) (hn : av.length = n) (hdd : d' + 1 ≤ d) (hnl : M'.2.2.1 ≤ 80) (hcat : (st.map fun v => v.category).sum ≤ 8) (hh : M.2.2.2.2 = []) (kk : G Γ M d mc ms Z ZX rc rs (pc + 3) L (v.toList ++ st) h) : G Γ M d mc ms Z ZX rc rs pc L st' h :=
  g_callSN (rc' := rc) (rs' := rs) hlk hC hd hst hn hdd hnl hcat (Nat.le_refl _) (Nat.le_refl _) hh (fun _ _ z => z.elim) (fun w h' q => by
    obtain ⟨rfl, rfl⟩ := q
    exact kk)
theorem g_pV {idx n d' : Nat} {M' : gM} {av : List Value} {v : Option Value} {ci b : Nat} {As fs : List Value} (hlk : gLkV M.1.cls idx ci M' n) (hC : pC Γ M' av h d' v) (hd : decode M.2.1 pc = .ok (.invokevirtual idx, 3)) (hst : st' = av.reverse ++ st) (hav : av = .ref b :: As) (ho : h b = some (.inr (ci, fs))) (hn : av.length = n + 1) (hdd : d' + 1 ≤ d) (hnl : M'.2.2.1 ≤ 80) (hcat : (st.map fun v => v.category).sum ≤ 8) (hh : M.2.2.2.2 = []) (kk : G Γ M d mc ms Z ZX rc rs (pc + 3) L (v.toList ++ st) h) : G Γ M d mc ms Z ZX rc rs pc L st' h :=
  g_callV (rc' := rc) (rs' := rs) hlk hC hd hst hav ho hn hdd hnl hcat (Nat.le_refl _) (Nat.le_refl _) hh (fun _ _ z => z.elim) (fun w h' q => by
    obtain ⟨rfl, rfl⟩ := q
    exact kk)
theorem g_ldcI {idx : Nat} {v : Int32} (hw : Cond.constant M.1.cls idx v ∈ lw_good) (hd : decode M.2.1 pc = .ok (.ldc idx, 2)) (kk : G Γ M d mc ms Z ZX rc rs (pc + 2) L (.int v :: st) h) : G Γ M d mc ms Z ZX rc rs pc L st h := by
  intro p e R s m args below meth c H locs cells slots ls C hd1 hd2 hd3 hd4 ha hl hc hs
  obtain ⟨hx, hb, hml, hown, hts, hr, hlocks, htb, hnm, hok, hK, hbs⟩ := id C
  exact lv_ldc hx hb hown (hts _ hw) hd (kk p e R s m args below meth c H locs cells slots ls C hd1 hd2 hd3 hd4 ha hl hc hs)
theorem nI_p0 {n : Nat} (h0 : 0 < n) (h : n < 2 ^ 31) : (0 : Int32) < nI n := by
  have e := nI_lt (a := 0) h0 h
  rwa [show nI 0 = (0 : Int32) by decide] at e
theorem gC_pure {av : List Value} {v : Option Value} (c : pC Γ M av h d v) : gC Γ M av h d 0 0 (fun v' h' => v' = v ∧ h' = h) (fun _ _ => False) := c
end GPu
section GCl
set_option maxRecDepth 100000 in
theorem cnJ8_200 : Cond.constant RJ8 200 (2147483639 : Int32) ∈ lw_good := (gIn (List.mem_of_getElem? (i := 383) (by decide +kernel)) (by decide +kernel))
set_option maxRecDepth 100000 in
theorem cnJ5_39 : Cond.constant RJ5 39 (2147483647 : Int32) ∈ lw_good := (gIn (List.mem_of_getElem? (i := 1269) (by decide +kernel)) (by decide +kernel))
set_option maxRecDepth 100000 in
theorem clX4_63 : Cond.classLink RX4 63 "MailOffice$Letter" ∈ lw_good := (gIn (List.mem_of_getElem? (i := 315) (by decide +kernel)) (by decide +kernel))
set_option maxRecDepth 100000 in
theorem clX7_41 : Cond.classLink RX7 41 "MailOffice$Prefix" ∈ lw_good := (gIn (List.mem_of_getElem? (i := 1052) (by decide +kernel)) (by decide +kernel))
set_option maxRecDepth 100000 in
theorem clX8_18 : Cond.classLink RX8 18 "MailOffice$Prefix" ∈ lw_good := (gIn (List.mem_of_getElem? (i := 119) (by decide +kernel)) (by decide +kernel))
set_option maxRecDepth 100000 in
theorem clX9_162 : Cond.classLink RX9 162 "MailOffice$Letter" ∈ lw_good := (gIn (List.mem_of_getElem? (i := 980) (by decide +kernel)) (by decide +kernel))
set_option maxRecDepth 100000 in
theorem clX9_385 : Cond.classLink RX9 385 "MailOffice$Command" ∈ lw_good := (gIn (List.mem_of_getElem? (i := 941) (by decide +kernel)) (by decide +kernel))
set_option maxRecDepth 100000 in
theorem clJ7_110 : Cond.classLink RJ7 110 "[Ljava/lang/Object;" ∈ lw_good := (gIn (List.mem_of_getElem? (i := 416) (by decide +kernel)) (by decide +kernel))
set_option maxRecDepth 100000 in
theorem clJ7_311 : Cond.classLink RJ7 311 "[B" ∈ lw_good := (gIn (List.mem_of_getElem? (i := 1279) (by decide +kernel)) (by decide +kernel))
end GCl
