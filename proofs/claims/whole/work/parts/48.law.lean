/-! ===== the law: its context, its rows ===== -/
def jPL (b L : Nat) (xs : Nat → Int32) : jX → Prop := fun X => match X with
  | (p, _, _, R, s, m, args, below, meth, c, cells, slots, Q, ω) => p.tables.exec = Jvm.exec ∧ c.code = cL_law ∧ c.maxLocals = 4 ∧ meth.sig.returnType = ret ∧ meth.locks = false ∧ s.vm.findClass RL = some m.cls ∧ (∀ w ∈ jTB, w.before args s = true) ∧ (∀ w ∈ jNL, va_Nw w s) ∧ va_K (jD ω) vwCl (jty ω) s ∧ jIn ω ∧ R = room_1 ∧ cells = 600000 ∧ slots = 7302250 ∧ args = #[Value.ref b] ∧ Q = lw_Z below #[Value.ref b] s ∧ va_X b L xs s s.heap ∧ b < s.heap.size ∧ (∀ k, k < 37 → s.heap.size ≤ jad ω k) ∧ jad ω 37 = b
section jLaw
variable {b L : Nat} {xs : Nat → Int32}
theorem gL : jG (jPL b L xs) cL_law RL 30 := by
  intro p l e R s m args below meth c cells slots Q ω h
  obtain ⟨h1, h2, h3, h4, h5, h6, h7, h8, h9, h10, h11, h12, h13, h14, h15, h16⟩ := h
  subst h11; subst h12; subst h13
  exact ⟨h1, h2, h6, h7, h8, h9, h10, by decide, by decide, by decide, by decide⟩
variable {pc pc' : Nat} {lv : List (Option Value)} {st : List Value} {σ : jMem}
theorem jr_slen (hd : decode cL_law pc = .ok (.arraylength, 1)) (hp : pc + 1 = pc') (k : jV (jPL b L xs) pc' lv (.int (jI (L : Int)) :: st) σ) : jV (jPL b L xs) pc lv (.ref 37 :: st) σ := by
  subst hp
  intro p l e R s m args below meth c cells slots Q ω hΨ ls H locs hl hP hS
  have hΨ0 := hΨ
  obtain ⟨h1, h2, h3, h4, h5, h6, h7, h8, h9, h10, h11, h12, h13, h14, h15, h16, h17, h18, h19⟩ := hΨ
  have hbA : ¬ jA ω b := fun ⟨k, hk, e⟩ => by
    have := h18 k hk
    omega
  show W p l e R s m args below meth c H locs cells slots Q (F0 m pc ls (Value.ref (jad ω 37) :: st.map (jco ω)))
  rw [h19]
  refine va_slen h1 h2 h16 h17 hbA hS hd ?_
  exact k p l e R s m args below meth c cells slots Q ω hΨ0 ls H locs hl hP hS
theorem jr_sld {x : Int} (j : Nat) (hd : decode cL_law pc = .ok (.iaload, 1)) (hp : pc + 1 = pc') (hj : x = (j : Int)) (hi : j < L) (hL : L < 2147483648) (k : jV (jPL b L xs) pc' lv (.int (jI (xs j).toInt) :: st) σ) : jV (jPL b L xs) pc lv (.int (jI x) :: .ref 37 :: st) σ := by
  subst hp
  subst hj
  intro p l e R s m args below meth c cells slots Q ω hΨ ls H locs hl hP hS
  have hΨ0 := hΨ
  obtain ⟨h1, h2, h3, h4, h5, h6, h7, h8, h9, h10, h11, h12, h13, h14, h15, h16, h17, h18, h19⟩ := hΨ
  have hbA : ¬ jA ω b := fun ⟨k, hk, e⟩ => by
    have := h18 k hk
    omega
  show W p l e R s m args below meth c H locs cells slots Q (F0 m pc ls (.int (jI (j : Int)) :: Value.ref (jad ω 37) :: st.map (jco ω)))
  rw [h19]
  refine va_sld h1 h2 h16 h17 hbA hS (jI_in hi hL) hd ?_
  rw [jI_clamp (by omega)]
  rw [jI_of] at k
  exact k p l e R s m args below meth c cells slots Q ω hΨ0 ls H locs hl hP hS
theorem jr_eqS {Ψ : jX → Prop} {B : ByteArray} {own : String} {d : Nat} {v : Int32} {off : Int} {tgt : Nat} (G : jG Ψ B own d) (hd : decode B pc = .ok (.if_icmp .eq off, 3)) (ht : (pc : Int) + off = (tgt : Int)) (k : jV Ψ tgt lv st σ) : jV Ψ pc lv (.int v :: .int v :: st) σ := by
  intro p l e R s m args below meth c cells slots Q ω hΨ ls H locs hl hP hS
  obtain ⟨hx, hb, hown, hts, hnw, hK, hI, hfr, hlo, hce, hsl⟩ := G p l e R s m args below meth c cells slots Q ω hΨ
  refine lv_icmp_eq hx hb hd ht (fun _ => ?_) (fun q => absurd rfl q)
  exact k p l e R s m args below meth c cells slots Q ω hΨ ls H locs hl hP hS
theorem jr_lend (hd : decode cL_law pc = .ok (.ireturn, 1)) : jV (jPL b L xs) pc lv [.int (jI 1)] σ := by
  intro p l e R s m args below meth c cells slots Q ω hΨ ls H locs hl hP hS
  obtain ⟨h1, h2, h3, h4, h5, h6, h7, h8, h9, h10, h11, h12, h13, h14, h15, h16, h17, h18, h19⟩ := hΨ
  subst h11; subst h12; subst h13; subst h14; subst h15
  refine va_forget (fun q hq => ?_) ?_
  · obtain ⟨k, hk, e⟩ := hS.2.2 q hq
    rw [e]
    exact h18 k hk
  · exact lw_ret h1 h2 h4 h5 hd
end jLaw
theorem jR_toInt (v : Int32) : jR v.toInt := ⟨Int32.le_toInt v, by have := Int32.toInt_lt v; omega⟩
