/-! ===== rows of calls ===== -/
theorem jNL_is {w : Cond} (h : w ∈ jNL) : ∃ (a : String) (i : Nat) (x : MethodName) (b : String), w = .methodLinkNest a i x b := by
  have h2 := (List.mem_filter.mp h).2
  unfold jNest at h2
  split at h2
  · exact ⟨_, _, _, _, rfl⟩
  · cases h2
theorem jPre_blind (ω : jW) (σ : jMem) (av : List Value) : FrameBlind (va_Pc av (jPre ω σ)) := by
  intro a U g mk q
  obtain ⟨q0, qP, qK, qN, qI⟩ := q
  refine ⟨q0, qP, va_K.moved (u := U) (U := U.calling g mk a) (Vm.Alike.refl U.vm) qK, fun w hw => ?_, qI⟩
  obtain ⟨_, _, _, _, rfl⟩ := jNL_is hw
  exact va_Nw.same rfl (show U.vm = (U.calling g mk a).vm from rfl) (qN _ hw)
theorem jPre_at {ω : jW} {σ : jMem} {s U : State} {H : Heap} (hK : va_K (jD ω) vwCl (jty ω) s) (hN : ∀ w ∈ jNL, va_Nw w s) (hI : jIn ω) (hP : va_P (jD ω) vwCl (jWO ω σ) H) (hU : U.heap = H) (hW : s.WarmedH U.vm) : jPre ω σ U := by
  refine ⟨by rw [hU]; exact hP, va_K.moved hW.alike hK, fun w hw => ?_, hI⟩
  obtain ⟨_, _, _, _, rfl⟩ := jNL_is hw
  exact va_Nw.warmM hW (hN _ hw)
/-- what a method that is called must have in the tables -/
def jMk (M : jM) (n : Nat) : Prop := Cond.code M.1 M.2.1 M.2.2.1 M.2.2.2 ∈ jTB ∧ Cond.initialized M.1.cls ∈ jTB ∧ (M.1.cls ≠ "java/lang/invoke/MethodHandle" ∧ M.1.cls ≠ "java/lang/invoke/VarHandle") ∧ (parseMethodDescriptor M.1.desc).map (fun d => d.parameters.length) = some n ∧ M.2.2.1 ≤ 21
def jCV (own : String) (idx ci : Nat) (M : jM) (n : Nat) : Prop := jMk M n ∧ (∃ r : vw_C, vwCl[ci]? = some r ∧ M.1.cls = r.1) ∧ Cond.methodLink own idx M.1 ∈ jTB ∧ Cond.instanceMethod M.1 ∈ jTB ∧ Cond.selects M.1.cls M.1 M.1 ∈ jTB
def jCS (own : String) (idx : Nat) (M : jM) (n : Nat) : Prop := jMk M n ∧ Cond.methodLink own idx M.1 ∈ jTB ∧ Cond.static M.1 ∈ jTB
def jCN (own : String) (idx : Nat) (M : jM) (n : Nat) : Prop := jMk M n ∧ (∃ host, Cond.methodLinkNest own idx M.1 host ∈ jNL) ∧ Cond.static M.1 ∈ jTB
theorem jws_ok {M : jM} {s : State} {args : Array Value} (hts : ∀ w ∈ jTB, w.before args s = true) (hc : Cond.code M.1 M.2.1 M.2.2.1 M.2.2.2 ∈ jTB) : ∀ w ∈ jws M, ∀ (a' : Array Value) (U : State), s.WarmedH U.vm → w.before a' U = true := by
  intro w hw a' U hW
  have h : w ∈ jTB := by
    rcases List.mem_cons.mp hw with e | h
    · rw [e]; exact hc
    · exact h
  exact word_at hW (jTB_good h) (hts w h)
section jCalls
variable {p : Program} {l : Launch} {e : Env} {R : Room} {s : State} {m : MethodId} {args : Array Value} {below : List Frame} {meth : Method} {c : Code} {H : Heap} {locs : List Loc} {cells slots : Nat} {Q : State → Prop} {ω : jW}
theorem jcb {own : String} {idx d n : Nat} {M : jM} (hts : ∀ w ∈ jTB, w.before args s = true) (hm : jMk M n) (hl : (Cond.methodLink own idx M.1).before args s = true) (hfr : d + 1 ≤ R.frames) (hlo : 40 * (d + 1) ≤ R.locals) : CallB R s args own idx M.1 M.2.1 M.2.2.1 M.2.2.2 (jws M) (jrm d) 0 0 n := by
  obtain ⟨h1, h2, h3, h4, h5⟩ := hm
  refine ⟨rfl, rfl, hfr, ?_, jws_ok hts h1, List.mem_cons_self, hts _ h1, hts _ h2, h3, fun sig h => ?_, hl⟩
  · show 8 + (M.2.2.1 + 11) + 40 * d ≤ R.locals
    omega
  · rw [h] at h4
    exact (Option.some.inj h4).symm
theorem jgo {Ψ : jX → Prop} {pc pc' : Nat} {lv : List (Option Value)} {st st0 : List Value} {ls : Array Slot} {a : Array Value} (hp : pc + 3 = pc') (hΨ : Ψ (p, l, e, R, s, m, args, below, meth, c, cells, slots, Q, ω)) (hl : jLV ω c.maxLocals ls lv) (hS : va_S (jA ω) s.heap H locs)
    (hr : va_Run p l e R s m args below meth c H locs cells slots 0 0 (F0 m pc ls st0) (st.map (jco ω)) (jQc ω (fun r σ' => jV Ψ pc' lv (r.toList ++ st) σ') a) (jA ω)) : W p l e R s m args below meth c H locs cells slots Q (F0 m pc ls st0) := by
  subst hp
  intro T hT X
  obtain ⟨v, st₀, t, T', L, h0, X', hL, e1, e2, ⟨r, σ', hv, hk, hP', hF⟩, stp⟩ := hr T hT X
  cases hv
  obtain ⟨hz, hk2⟩ := hF
  rw [h0] at hz hk2
  obtain ⟨t2, a1, b1⟩ := hk p l e R s m args below meth c cells slots Q ω hΨ ls T'.heap (locs ++ L) hl (by rw [e1]; exact hP')
    ⟨Nat.le_trans hS.1 (by rw [e1]; exact hz), fun q h1 h2 => by rw [e1, hk2 q (Nat.lt_of_lt_of_le h1 hS.1) h2]; exact hS.2.1 q h1 h2, fun q hq => by
      rcases List.mem_append.mp hq with h | h
      · exact hS.2.2 q h
      · exact hL q h⟩ T' rfl X'
  refine ⟨t2, stp t2 ?_, b1⟩
  rw [List.map_append] at a1
  cases r with
  | none => exact a1
  | some v => exact a1
end jCalls
section jCalls2
variable {Ψ : jX → Prop} {B : ByteArray} {own : String} {d pc pc' : Nat} {lv : List (Option Value)} {st st0 : List Value} {σ : jMem}
theorem jcat_map (ω : jW) (st : List Value) : ((st.map (jco ω)).map fun v => v.category).sum = (st.map fun v => v.category).sum := by
  rw [List.map_map]
  congr 1
  apply List.map_congr_left
  intro v _
  exact jco_cat ω v
theorem jr_inv {M : jM} {index c0 ci n : Nat} {tm : List (Option Nat)} {as : List Value} (G : jG Ψ B own (d + 1)) (hd : decode B pc = .ok (.invokevirtual index, 3)) (hp : pc + 3 = pc') (hc : jCV own index ci M n) (hs : jsh[c0]? = some (.inr (ci, tm))) (hn : as.length = n) (hst : st0 = as.reverse ++ .ref c0 :: st) (hroom : (st.map fun v => v.category).sum ≤ 8)
    (k : jRun d M (.ref c0 :: as) σ (fun r σ' => jV Ψ pc' lv (r.toList ++ st) σ')) : jV Ψ pc lv st0 σ := by
  intro p l e R s m args below meth c cells slots Q ω hΨ ls H locs hl hP hS
  obtain ⟨hx, hb, hown, hts, hnw, hK, hI, hfr, hlo, hce, hsl⟩ := G p l e R s m args below meth c cells slots Q ω hΨ
  obtain ⟨hm, ⟨r, hr1, hr2⟩, hl1, hl2, hl3⟩ := hc
  refine jgo hp hΨ hl hS (st := st) (a := (Value.ref (jad ω c0) :: as.map (jco ω)).toArray) ?_
  refine va_runV (C := M.1.cls) (As := as.map (jco ω)) (rest := st.map (jco ω)) (b := jad ω c0) (nL := c.maxLocals) (Ts := jTB) ⟨hx, hb, rfl, hown, hts⟩ (k l ω) ⟨jcb hts hm (hts _ hl1) hfr hlo, hts _ hl2, hts _ hl3⟩ ⟨jPre_blind _ _ _, ?_, fun U hU hW => ⟨rfl, jPre_at hK hnw hI hP hU hW⟩⟩ rfl (by rw [List.length_map]; exact hn) hl.1 ?_ (lv_room (by rw [jcat_map]; exact hroom)) hd ⟨hce, hsl⟩
  · rw [hr2]
    exact va_recv hK hP (ci := ci) (q0 := c0) hr1 (jWO_at hs)
  · rw [hst]
    show ((as.reverse ++ .ref c0 :: st).map (jco ω)) = _
    rw [List.map_append, List.map_reverse]
    rfl
theorem jr_ins {M : jM} {index n : Nat} {as : List Value} (G : jG Ψ B own (d + 1)) (hd : decode B pc = .ok (.invokestatic index, 3)) (hp : pc + 3 = pc') (hc : jCS own index M n) (hn : as.length = n) (hst : st0 = as.reverse ++ st) (hroom : (st.map fun v => v.category).sum ≤ 8)
    (k : jRun d M as σ (fun r σ' => jV Ψ pc' lv (r.toList ++ st) σ')) : jV Ψ pc lv st0 σ := by
  intro p l e R s m args below meth c cells slots Q ω hΨ ls H locs hl hP hS
  obtain ⟨hx, hb, hown, hts, hnw, hK, hI, hfr, hlo, hce, hsl⟩ := G p l e R s m args below meth c cells slots Q ω hΨ
  obtain ⟨hm, hl1, hl2⟩ := hc
  refine jgo hp hΨ hl hS (st := st) (a := (as.map (jco ω)).toArray) ?_
  refine va_runS (As := as.map (jco ω)) (rest := st.map (jco ω)) (nL := c.maxLocals) (Ts := jTB) ⟨hx, hb, rfl, hown, hts⟩ (k l ω) ⟨jcb hts hm (hts _ hl1) hfr hlo, hts _ hl2⟩ ⟨jPre_blind _ _ _, fun U hU hW => ⟨rfl, jPre_at hK hnw hI hP hU hW⟩⟩ rfl (by rw [List.length_map]; exact hn) hl.1 ?_ (lv_room (by rw [jcat_map]; exact hroom)) hd ⟨hce, hsl⟩
  rw [hst]
  show ((as.reverse ++ st).map (jco ω)) = _
  rw [List.map_append, List.map_reverse]
theorem jr_inn {M : jM} {index n : Nat} {as : List Value} (G : jG Ψ B own (d + 1)) (hd : decode B pc = .ok (.invokestatic index, 3)) (hp : pc + 3 = pc') (hc : jCN own index M n) (hn : as.length = n) (hst : st0 = as.reverse ++ st) (hroom : (st.map fun v => v.category).sum ≤ 8)
    (k : jRun d M as σ (fun r σ' => jV Ψ pc' lv (r.toList ++ st) σ')) : jV Ψ pc lv st0 σ := by
  intro p l e R s m args below meth c cells slots Q ω hΨ ls H locs hl hP hS
  obtain ⟨hx, hb, hown, hts, hnw, hK, hI, hfr, hlo, hce, hsl⟩ := G p l e R s m args below meth c cells slots Q ω hΨ
  obtain ⟨hm, ⟨host, hl1⟩, hl2⟩ := hc
  obtain ⟨h1, h2, h3, h4, h5⟩ := hm
  refine jgo hp hΨ hl hS (st := st) (a := (as.map (jco ω)).toArray) ?_
  refine va_runSN (host := host) (As := as.map (jco ω)) (rest := st.map (jco ω)) (nL := c.maxLocals) (Ts := jTB) (n := n) ⟨hx, hb, rfl, hown, hts⟩ (k l ω) ⟨⟨⟨rfl, rfl, hfr, (by show 8 + (M.2.2.1 + 11) + 40 * d ≤ R.locals; omega), jws_ok hts h1, List.mem_cons_self⟩, hts _ h1, hts _ h2, h3, (fun sig h => by rw [h] at h4; exact (Option.some.inj h4).symm), va_Nw.use rfl (hnw _ hl1)⟩, hts _ hl2, trivial⟩ ⟨jPre_blind _ _ _, fun U hU hW => ⟨rfl, jPre_at hK hnw hI hP hU hW⟩⟩ rfl (by rw [List.length_map]; exact hn) hl.1 ?_ (lv_room (by rw [jcat_map]; exact hroom)) hd ⟨hce, hsl⟩
  rw [hst]
  show ((as.reverse ++ st).map (jco ω)) = _
  rw [List.map_append, List.map_reverse]
end jCalls2
