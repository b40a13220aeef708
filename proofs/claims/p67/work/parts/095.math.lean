section GMath
variable {Γ : gE} {M : gM} {d mc ms : Nat} {Z : Option Value → gHp → Prop} {ZX : String → gHp → Prop} {rc rs pc : Nat} {L : List (Option Value)} {st : List Value} {h : gHp}
def rMax (x y : Int32) : Int32 := if x < y then y else x
def rMin (x y : Int32) : Int32 := if y < x then y else x
set_option maxRecDepth 100000 in
theorem k_mmax_s : Cond.static Lib.Math.max.name ∈ lw_good := (gIn (List.mem_of_getElem? (i := 381) (by decide +kernel)) (by decide +kernel))
set_option maxRecDepth 100000 in
theorem k_mmax_c : Cond.code Lib.Math.max.name Lib.Math.max.code 2 (some .int) ∈ lw_good := (gIn (List.mem_of_getElem? (i := 382) (by decide +kernel)) (by decide +kernel))
set_option maxRecDepth 100000 in
theorem k_mmin_s : Cond.static Lib.Math.min.name ∈ lw_good := (gIn (List.mem_of_getElem? (i := 420) (by decide +kernel)) (by decide +kernel))
set_option maxRecDepth 100000 in
theorem k_mmin_c : Cond.code Lib.Math.min.name Lib.Math.min.code 2 (some .int) ∈ lw_good := (gIn (List.mem_of_getElem? (i := 421) (by decide +kernel)) (by decide +kernel))
set_option maxRecDepth 100000 in
theorem k_math_i : Cond.initialized "java/lang/Math" ∈ lw_good := (gIn (List.mem_of_getElem? (i := 55) (by decide +kernel)) (by decide +kernel))
theorem g_mmax {idx : Nat} {x y : Int32} (hlk : Cond.methodLink M.1.cls idx Lib.Math.max.name ∈ lw_good) (hd : decode M.2.1 pc = .ok (.invokestatic idx, 3)) (hd0 : 1 ≤ d) (hcat : (st.map fun v => v.category).sum ≤ 8) (kk : G Γ M d mc ms Z ZX rc rs (pc + 3) L (.int (rMax x y) :: st) h) : G Γ M d mc ms Z ZX rc rs pc L (.int y :: .int x :: st) h := by
  intro p e R s m args below meth c H locs cells slots ls C hd1 hd2 hd3 hd4 ha hl hc hs
  obtain ⟨hx, hb, hml, hown, hts, hr, hlocks, htb, hnm, hok, hK, hbs⟩ := id C
  exact va_mmax hx hb (hml.trans hl.1.symm) hown (hts _ hlk) (hts _ k_mmax_s) (hts _ k_math_i) (hts _ k_mmax_c) (by omega) (by omega) (by omega) (by omega) hd (kk p e R s m args below meth c H locs cells slots ls C hd1 hd2 hd3 hd4 ha hl hc hs)
theorem g_mmin {idx : Nat} {x y : Int32} (hlk : Cond.methodLink M.1.cls idx Lib.Math.min.name ∈ lw_good) (hd : decode M.2.1 pc = .ok (.invokestatic idx, 3)) (hd0 : 1 ≤ d) (hcat : (st.map fun v => v.category).sum ≤ 8) (kk : G Γ M d mc ms Z ZX rc rs (pc + 3) L (.int (rMin x y) :: st) h) : G Γ M d mc ms Z ZX rc rs pc L (.int y :: .int x :: st) h := by
  intro p e R s m args below meth c H locs cells slots ls C hd1 hd2 hd3 hd4 ha hl hc hs
  obtain ⟨hx, hb, hml, hown, hts, hr, hlocks, htb, hnm, hok, hK, hbs⟩ := id C
  exact va_mmin hx hb (hml.trans hl.1.symm) hown (hts _ hlk) (hts _ k_mmin_s) (hts _ k_math_i) (hts _ k_mmin_c) (by omega) (by omega) (by omega) (by omega) hd (kk p e R s m args below meth c H locs cells slots ls C hd1 hd2 hd3 hd4 ha hl hc hs)
set_option maxRecDepth 100000 in
theorem kML_282 : Cond.methodLink RL 282 Lib.Math.max.name ∈ lw_good := (gIn (List.mem_of_getElem? (i := 1237) (by decide +kernel)) (by decide +kernel))
set_option maxRecDepth 100000 in
theorem kMJx4a65c_79 : Cond.methodLink RJx4a65c 79 Lib.Math.max.name ∈ lw_good := (gIn (List.mem_of_getElem? (i := 425) (by decide +kernel)) (by decide +kernel))
set_option maxRecDepth 100000 in
theorem kMX5_82 : Cond.methodLink RX5 82 Lib.Math.max.name ∈ lw_good := (gIn (List.mem_of_getElem? (i := 904) (by decide +kernel)) (by decide +kernel))
set_option maxRecDepth 100000 in
theorem kMJ8_194 : Cond.methodLink RJ8 194 Lib.Math.max.name ∈ lw_good := (gIn (List.mem_of_getElem? (i := 380) (by decide +kernel)) (by decide +kernel))
set_option maxRecDepth 100000 in
theorem kMJ5_138 : Cond.methodLink RJ5 138 Lib.Math.min.name ∈ lw_good := (gIn (List.mem_of_getElem? (i := 1543) (by decide +kernel)) (by decide +kernel))
set_option maxRecDepth 100000 in
theorem kMJ7_304 : Cond.methodLink RJ7 304 Lib.Math.min.name ∈ lw_good := (gIn (List.mem_of_getElem? (i := 419) (by decide +kernel)) (by decide +kernel))
end GMath
