/-! ===== constructors: a contract over the cells that they make ===== -/
abbrev jT3 (τ : ClassId × ClassId × ClassId) : List (ClassId × FieldType) := [(τ.1, .int), (τ.2.1, .long), (τ.2.2, .boolean)]
def jRm (d mc ms : Nat) : Room := { frames := d, cells := mc, slots := ms, locals := 40 * d }
def jCt (d mc ms : Nat) (M : jM) (D : va_G) (τ : ClassId × ClassId × ClassId) (as : List Value) (w0 : va_W) {S : Type} (post : S → Prop) (w1 : S → va_W) : Prop :=
  ∀ (l : Launch) (sz : Nat), Met l M.1 (jws M) (jRm d mc ms) (va_Pc as (fun U => U.heap.size = sz ∧ va_P D vwCl w0 U.heap ∧ va_K D vwCl (jT3 τ) U ∧ va_D (fun _ => True) w0)) (va_Qv post (fun u t => va_P D vwCl (w1 u) t.heap ∧ va_D (va_A w0 sz) (w1 u)) (va_A w0 sz)) mc ms (va_A w0 sz)
/-- what holds within such a method -/
def jcC (p : Program) (s : State) (m : MethodId) (meth : Method) (c : Code) (args : Array Value) (M : jM) (D : va_G) (τ : ClassId × ClassId × ClassId) (A : Nat → Prop) : Prop :=
  p.tables.exec = Jvm.exec ∧ c.code = M.2.1 ∧ c.maxLocals = M.2.2.1 ∧ meth.sig.returnType = M.2.2.2 ∧ meth.locks = false ∧ s.vm.findClass M.1.cls = some m.cls ∧ (∀ w ∈ jTB, w.before args s = true) ∧ meth.name = M.1.name ∧ va_K D vwCl (jT3 τ) s ∧ ∀ q, s.heap.size ≤ q → A q
theorem jct_in {d mc ms : Nat} {M : jM} {D : va_G} {τ : ClassId × ClassId × ClassId} {as : List Value} {w0 : va_W} {S : Type} {post : S → Prop} {w1 : S → va_W} (hM : plainName M.1.cls = true) (hn : (lg_sl as).length ≤ M.2.2.1)
    (h : ∀ (p : Program) (l : Launch) (e : Env) (s : State) (m : MethodId) (below : List Frame) (meth : Method) (c : Code) (ls : Array Slot) (A : Nat → Prop), jcC p s m meth c as.toArray M D τ A → lv_has ls M.2.2.1 (lv_args 0 as) → va_P D vwCl w0 s.heap → va_D A w0 →
      W p l e (jRm d mc ms) s m as.toArray below meth c s.heap [] 0 0 (MQ below (va_Qv post (fun u t => va_P D vwCl (w1 u) t.heap ∧ va_D A (w1 u)) A) as.toArray s mc ms A) (F0 m 0 ls [])) : jCt d mc ms M D τ as w0 post w1 := by
  intro l sz
  refine Met.ofW (cc := M.2.1) (maxL := M.2.2.1) (ret := M.2.2.2) (ws' := jTB) hM rfl ?_
  intro p e s m args below meth c s₁ B hml hv
  obtain ⟨rfl, hsz, hP, hK, hD0⟩ := hv
  have hts := atoms_spec (ws := jws M) B.pre
  subst hsz
  have hl := lv_entry as (n := M.2.2.1) hn
  rw [lg_entry_eq]
  generalize (lg_sl as ++ List.replicate (M.2.2.1 - (lg_sl as).length) Slot.unset).toArray = ls at hl ⊢
  exact h p l e s m below meth c ls _ ⟨B.exec, B.bytes, hml, B.returns, B.notSynchronized, findClass_of_methodNamed B.named, fun w hw => hts w (List.mem_cons_of_mem _ hw), (name_of_methodNamed B.named B.method).1, hK, fun q hq => Or.inr hq⟩ hl hP (hD0.self (sz := s.heap.size))
theorem jcb2 {R : Room} {s : State} {args : Array Value} {own : String} {idx d mc ms n : Nat} {M : jM} (hts : ∀ w ∈ jTB, w.before args s = true) (hm : jMk M n) (hl : Cond.methodLink own idx M.1 ∈ jTB) (hfr : d + 1 ≤ R.frames) (hlo : 40 * (d + 1) ≤ R.locals) : CallB R s args own idx M.1 M.2.1 M.2.2.1 M.2.2.2 (jws M) (jRm d mc ms) mc ms n := by
  obtain ⟨h1, h2, h3, h4, h5⟩ := hm
  refine ⟨rfl, rfl, hfr, ?_, jws_ok hts h1, List.mem_cons_self, hts _ h1, hts _ h2, h3, fun sig h => ?_, hts _ hl⟩
  · show 8 + (M.2.2.1 + 11) + 40 * d ≤ R.locals
    omega
  · rw [h] at h4
    exact (Option.some.inj h4).symm
def jCI (own : String) (idx : Nat) (M : jM) (n : Nat) : Prop := jMk M n ∧ Cond.methodLink own idx M.1 ∈ jTB ∧ Cond.instanceMethod M.1 ∈ jTB ∧ M.1.name = "<init>" ∧ M.2.2.2 = none
section jCn
variable {p : Program} {l : Launch} {e : Env} {R : Room} {s : State} {m : MethodId} {args : Array Value} {below : List Frame} {meth : Method} {c : Code} {H : Heap} {locs : List Loc} {cells slots : Nat} {Q : State → Prop}
variable {cc : ByteArray} {pc : Nat} {ls : Array Slot} {rest : List Value} {D : va_G} {τ : ClassId × ClassId × ClassId} {ws : va_W} {A : Nat → Prop} {H0 : Heap}
theorem jn_blind (av : List Value) (sz : Nat) (w : va_W) : FrameBlind (va_Pc av (fun U => U.heap.size = sz ∧ va_P D vwCl w U.heap ∧ va_K D vwCl (jT3 τ) U ∧ va_D (fun _ => True) w)) := by
  intro a U g mk q
  obtain ⟨q0, q1, qP, qK, qD⟩ := q
  exact ⟨q0, q1, qP, va_K.moved (u := U) (U := U.calling g mk a) (Vm.Alike.refl U.vm) qK, qD⟩
/-- a constructor is called: its own cells are cut out, and come back beside the rest -/
theorem jn_callI {own : String} {index d mc ms n nL : Nat} {M : jM} {As : List Value} {b : Nat} {wc wr : va_W} {S : Type} {post : S → Prop} {w1 : S → va_W} (hx : p.tables.exec = Jvm.exec) (hb : c.code = cc) (hml : c.maxLocals = nL) (hsz : ls.size = nL) (hown : s.vm.findClass own = some m.cls) (hts : ∀ w ∈ jTB, w.before args s = true) (hK : va_K D vwCl (jT3 τ) s) (hct : jCt d mc ms M D τ (.ref b :: As) wc post w1) (hci : jCI own index M n) (hn : As.length = n) (hfr : d + 1 ≤ R.frames) (hlo : 40 * (d + 1) ≤ R.locals) (hce : cells + mc ≤ R.cells) (hsl : slots + ms ≤ R.slots)
    (hP : va_P D vwCl ws H) (hD : va_D A ws) (hS : va_S A s.heap H locs) (hA : ∀ q, s.heap.size ≤ q → A q) (isC isR : List Nat) (hC1 : isC.filterMap (fun i => ws[i]?) = wc) (hC : isC.map (fun i => ws[i]?) = wc.map some) (hR : isR.map (fun i => ws[i]?) = wr.map some) (hnc : va_nd isC = true) (hnr : va_nd isR = true) (hdis : ∀ i ∈ isR, i ∉ isC) (hroom : (rest.map fun v => v.category).sum ≤ 8) (hdg : decode cc pc = .ok (.invokespecial index, 3)) {st0 : List Value} (hst : st0 = As.reverse ++ .ref b :: rest)
    (kk : ∀ (u : S) (H1 : Heap) (locs1 : List Loc), post u → va_P D vwCl (wr ++ w1 u) H1 → va_D A (wr ++ w1 u) → va_S A s.heap H1 locs1 → W p l e R s m args below meth c H1 locs1 (cells + mc) (slots + ms) Q (F0 m (pc + 3) ls rest)) : W p l e R s m args below meth c H locs cells slots Q (F0 m pc ls st0) := by
  obtain ⟨hmk, hl1, hl2, hi, hrn⟩ := hci
  have hPc := hP.sub isC hC1
  have hDc := hD.sub isC hnc hC
  have hFc := va_free (wc := wc) hD hS hA isC hC
  have hcb := jcb2 (d := d) (mc := mc) (ms := ms) (R := R) hts hmk hl1 hfr hlo
  rw [hrn] at hcb
  refine va_callv (va_runI (As := As) (rest := rest) ⟨hx, hb, hml, hown, hts⟩ (hct l H.size) ⟨hcb, hi, hts _ hl2⟩ ⟨jn_blind _ _ _, fun U hU hW => ⟨rfl, by rw [hU], by rw [hU]; exact hPc, va_K.moved hW.alike hK, hDc.weaken (fun _ _ _ _ => trivial)⟩⟩ rfl hn hsz hst (lv_room hroom) hdg ⟨hce, hsl⟩) hS (fun q _ h => hFc q h) hFc (fun u t H1 locs1 ht hvm hw hB hz1 hk1 hS1 => ?_)
  obtain ⟨hP1, hD1⟩ := hB
  rw [ht] at hP1
  obtain ⟨hP2, hD2⟩ := va_join hP hD isC isR hC hR hnr hdis hk1 hFc hP1 hD1
  exact kk u H1 locs1 hw hP2 hD2 hS1
/-- the same of a static method -/
theorem jn_callS {own : String} {index d mc ms n nL : Nat} {M : jM} {As : List Value} {wc wr : va_W} {S : Type} {post : S → Prop} {w1 : S → va_W} (hx : p.tables.exec = Jvm.exec) (hb : c.code = cc) (hml : c.maxLocals = nL) (hsz : ls.size = nL) (hown : s.vm.findClass own = some m.cls) (hts : ∀ w ∈ jTB, w.before args s = true) (hK : va_K D vwCl (jT3 τ) s) (hct : jCt d mc ms M D τ As wc post w1) (hci : jCS own index M n) (hn : As.length = n) (hfr : d + 1 ≤ R.frames) (hlo : 40 * (d + 1) ≤ R.locals) (hce : cells + mc ≤ R.cells) (hsl : slots + ms ≤ R.slots)
    (hP : va_P D vwCl ws H) (hD : va_D A ws) (hS : va_S A s.heap H locs) (hA : ∀ q, s.heap.size ≤ q → A q) (isC isR : List Nat) (hC1 : isC.filterMap (fun i => ws[i]?) = wc) (hC : isC.map (fun i => ws[i]?) = wc.map some) (hR : isR.map (fun i => ws[i]?) = wr.map some) (hnc : va_nd isC = true) (hnr : va_nd isR = true) (hdis : ∀ i ∈ isR, i ∉ isC) (hroom : (rest.map fun v => v.category).sum ≤ 8) (hdg : decode cc pc = .ok (.invokestatic index, 3)) {st0 : List Value} (hst : st0 = As.reverse ++ rest)
    (kk : ∀ (u : S) (H1 : Heap) (locs1 : List Loc), post u → va_P D vwCl (wr ++ w1 u) H1 → va_D A (wr ++ w1 u) → va_S A s.heap H1 locs1 → W p l e R s m args below meth c H1 locs1 (cells + mc) (slots + ms) Q (F0 m (pc + 3) ls rest)) : W p l e R s m args below meth c H locs cells slots Q (F0 m pc ls st0) := by
  obtain ⟨hmk, hl1, hl2⟩ := hci
  have hPc := hP.sub isC hC1
  have hDc := hD.sub isC hnc hC
  have hFc := va_free (wc := wc) hD hS hA isC hC
  refine va_callv (va_runS (As := As) (rest := rest) ⟨hx, hb, hml, hown, hts⟩ (hct l H.size) ⟨jcb2 (d := d) (mc := mc) (ms := ms) (R := R) hts hmk hl1 hfr hlo, hts _ hl2⟩ ⟨jn_blind _ _ _, fun U hU hW => ⟨rfl, by rw [hU], by rw [hU]; exact hPc, va_K.moved hW.alike hK, hDc.weaken (fun _ _ _ _ => trivial)⟩⟩ rfl hn hsz hst (lv_room hroom) hdg ⟨hce, hsl⟩) hS (fun q _ h => hFc q h) hFc (fun u t H1 locs1 ht hvm hw hB hz1 hk1 hS1 => ?_)
  obtain ⟨hP1, hD1⟩ := hB
  rw [ht] at hP1
  obtain ⟨hP2, hD2⟩ := va_join hP hD isC isR hC hR hnr hdis hk1 hFc hP1 hD1
  exact kk u H1 locs1 hw hP2 hD2 hS1
theorem jkI : Cond.arrayClass .int ∈ jTB := jTB_mem (by decide +kernel) rfl
theorem jkJ : Cond.arrayClass .long ∈ jTB := jTB_mem (by decide +kernel) rfl
theorem jkZ : Cond.arrayClass .boolean ∈ jTB := jTB_mem (by decide +kernel) rfl
theorem jkOb1 : Cond.instanceMethod objectInit ∈ jTB := jTB_mem (by decide +kernel) rfl
theorem jkOb2 : Cond.code objectInit ⟨#[0xb1]⟩ 1 none ∈ jTB := jTB_mem (by decide +kernel) rfl
theorem jn_newI (hx : p.tables.exec = Jvm.exec) (hb : c.code = cc) (hts : ∀ w ∈ jTB, w.before args s = true) (hK : va_K D vwCl (jT3 τ) s) (hP : va_P D vwCl ws H) (hD : va_D A ws) (hS : va_S A H0 H locs) (hA : ∀ q, H0.size ≤ q → A q) {n : Int32} (N : Nat) (hn : ¬ n < 0) (hN : n.toNatClampNeg = N) (hN2 : N ≤ 2000) (hce : cells + 1 ≤ R.cells) (hsl : slots + N ≤ R.slots) (hdg : decode cc pc = .ok (.newarray .int, 2))
    (kk : ∀ (q : Nat) (H1 : Heap), va_P D vwCl (ws ++ [(q, .inl (τ.1, N, .inl (fun _ => 0)))]) H1 → va_D A (ws ++ [(q, .inl (τ.1, N, .inl (fun _ => 0)))]) → va_S A H0 H1 locs → W p l e R s m args below meth c H1 locs (cells + 1) (slots + N) Q (F0 m (pc + 2) ls (.ref q :: rest))) : W p l e R s m args below meth c H locs cells slots Q (F0 m pc ls (.int n :: rest)) := by
  refine va_newa (atype := .int) (a0 := (N, .inl (fun _ => 0))) hx hb (hts _ jkI) (ty := .int) rfl hK hP hD hS hA (fun _ => rfl) hn hN (by show N * 4 ≤ _; omega) hce hsl hdg (fun q cA H1 hK1 hP1 hD1 hS1 => ?_)
  have e1 : s.vm.findClass ("[" ++ FieldType.toString .int) = some cA := (hK1.2 3 _ rfl).2
  have e2 : s.vm.findClass ("[" ++ FieldType.toString .int) = some τ.1 := (hK.2 0 _ rfl).2
  have e : cA = τ.1 := Option.some.inj (e1.symm.trans e2)
  subst e
  exact kk q H1 hP1 hD1 hS1
theorem jn_newJ (hx : p.tables.exec = Jvm.exec) (hb : c.code = cc) (hts : ∀ w ∈ jTB, w.before args s = true) (hK : va_K D vwCl (jT3 τ) s) (hP : va_P D vwCl ws H) (hD : va_D A ws) (hS : va_S A H0 H locs) (hA : ∀ q, H0.size ≤ q → A q) {n : Int32} (N : Nat) (hn : ¬ n < 0) (hN : n.toNatClampNeg = N) (hN2 : N ≤ 2000) (hce : cells + 1 ≤ R.cells) (hsl : slots + N ≤ R.slots) (hdg : decode cc pc = .ok (.newarray .long, 2))
    (kk : ∀ (q : Nat) (H1 : Heap), va_P D vwCl (ws ++ [(q, .inl (τ.2.1, N, .inr (.inl (fun _ => 0))))]) H1 → va_D A (ws ++ [(q, .inl (τ.2.1, N, .inr (.inl (fun _ => 0))))]) → va_S A H0 H1 locs → W p l e R s m args below meth c H1 locs (cells + 1) (slots + N) Q (F0 m (pc + 2) ls (.ref q :: rest))) : W p l e R s m args below meth c H locs cells slots Q (F0 m pc ls (.int n :: rest)) := by
  refine va_newa (atype := .long) (a0 := (N, .inr (.inl (fun _ => 0)))) hx hb (hts _ jkJ) (ty := .long) rfl hK hP hD hS hA (fun _ => rfl) hn hN (by show N * 8 ≤ _; omega) hce hsl hdg (fun q cA H1 hK1 hP1 hD1 hS1 => ?_)
  have e1 : s.vm.findClass ("[" ++ FieldType.toString .long) = some cA := (hK1.2 3 _ rfl).2
  have e2 : s.vm.findClass ("[" ++ FieldType.toString .long) = some τ.2.1 := (hK.2 1 _ rfl).2
  have e : cA = τ.2.1 := Option.some.inj (e1.symm.trans e2)
  subst e
  exact kk q H1 hP1 hD1 hS1
theorem jn_newZ (hx : p.tables.exec = Jvm.exec) (hb : c.code = cc) (hts : ∀ w ∈ jTB, w.before args s = true) (hK : va_K D vwCl (jT3 τ) s) (hP : va_P D vwCl ws H) (hD : va_D A ws) (hS : va_S A H0 H locs) (hA : ∀ q, H0.size ≤ q → A q) {n : Int32} (N : Nat) (hn : ¬ n < 0) (hN : n.toNatClampNeg = N) (hN2 : N ≤ 2000) (hce : cells + 1 ≤ R.cells) (hsl : slots + N ≤ R.slots) (hdg : decode cc pc = .ok (.newarray .boolean, 2))
    (kk : ∀ (q : Nat) (H1 : Heap), va_P D vwCl (ws ++ [(q, .inl (τ.2.2, N, .inl (fun _ => 0)))]) H1 → va_D A (ws ++ [(q, .inl (τ.2.2, N, .inl (fun _ => 0)))]) → va_S A H0 H1 locs → W p l e R s m args below meth c H1 locs (cells + 1) (slots + N) Q (F0 m (pc + 2) ls (.ref q :: rest))) : W p l e R s m args below meth c H locs cells slots Q (F0 m pc ls (.int n :: rest)) := by
  refine va_newa (atype := .boolean) (a0 := (N, .inl (fun _ => 0))) hx hb (hts _ jkZ) (ty := .boolean) rfl hK hP hD hS hA (fun _ => rfl) hn hN (by show N * 1 ≤ _; omega) hce hsl hdg (fun q cA H1 hK1 hP1 hD1 hS1 => ?_)
  have e1 : s.vm.findClass ("[" ++ FieldType.toString .boolean) = some cA := (hK1.2 3 _ rfl).2
  have e2 : s.vm.findClass ("[" ++ FieldType.toString .boolean) = some τ.2.2 := (hK.2 2 _ rfl).2
  have e : cA = τ.2.2 := Option.some.inj (e1.symm.trans e2)
  subst e
  exact kk q H1 hP1 hD1 hS1
end jCn
/-- Arrays.fill over a row of ints -/
theorem n_fill (D : va_G) (τ : ClassId × ClassId × ClassId) (d a N : Nat) (f : Nat → Int32) (v : Int32) (hN : N ≤ 2000) : jCt d 0 0 mJ7_fill_53178 D τ [.ref a, .int v] [(a, .inl (τ.1, N, .inl f))] (fun g : Nat → Int32 => ∀ j, j < N → g j = v) (fun g => [(a, .inl (τ.1, N, .inl g))]) := by
  refine jct_in rfl (Nat.le_of_ble_eq_true rfl) ?_
  intro p l e s m below meth c ls A C hl hP hD
  obtain ⟨hx, hb, hml, hr, hlocks, hown, hts, hin, hK, hA⟩ := C
  have hl : lv_has ls 4 [(0, .ref a), (1, .int v)] := hl
  have hS : va_S A s.heap s.heap [] := va_S.rf
  refine lv_iconst (v := 0) hx hb dJ7_fill_53178_0 (by decide) ?_
  refine lv_istore_n (lv' := [(2, .int 0), (0, .ref a), (1, .int v)]) hx hb dJ7_fill_53178_1 rfl hl (by decide) rfl (fun ls hl => ?_)
  refine lv_aload_n hx hb dJ7_fill_53178_2 rfl (lv_at hl 1 rfl) ?_
  refine va_alen (ty := .int) (v := Int32.ofNat N) hx hb hK hP 0 0 rfl rfl rfl dJ7_fill_53178_3 ?_
  refine lv_istore_n (lv' := [(3, .int (Int32.ofNat N)), (2, .int 0), (0, .ref a), (1, .int v)]) hx hb dJ7_fill_53178_4 rfl hl (by decide) rfl (fun ls hl => ?_)
  have lp : ∀ n i, i + n = N → ∀ (g : Nat → Int32) (H : Heap) (locs : List Loc) (ls : Array Slot), (∀ j, j < i → g j = v) → va_P D vwCl [(a, .inl (τ.1, N, .inl g))] H → va_D A [(a, .inl (τ.1, N, .inl g))] → va_S A s.heap H locs → lv_has ls 4 [(3, .int (Int32.ofNat N)), (2, .int (nI i)), (0, .ref a), (1, .int v)] → W p l e (jRm d 0 0) s m [Value.ref a, .int v].toArray below meth c H locs 0 0 (MQ below (va_Qv (fun g : Nat → Int32 => ∀ j, j < N → g j = v) (fun g t => va_P D vwCl [(a, .inl (τ.1, N, .inl g))] t.heap ∧ va_D A [(a, .inl (τ.1, N, .inl g))]) A) [Value.ref a, .int v].toArray s 0 0 A) (F0 m 5 ls []) := by
    intro n
    induction n with
    | zero =>
      intro i hi g H locs ls hg hP hD hS hl
      have e : i = N := by omega
      subst e
      refine lv_iload_n hx hb dJ7_fill_53178_5 rfl (lv_at hl 1 rfl) ?_
      refine lv_iload_n hx hb dJ7_fill_53178_6 rfl (lv_at hl 0 rfl) ?_
      refine lv_icmp_ge (tgt := 20) hx hb dJ7_fill_53178_7 (by decide) (fun _ => ?_) (fun q => absurd (Int32.le_refl _) q)
      exact W.vret hx hb hr (fun t ht hW => ⟨⟨g, rfl, hg, by rw [ht]; exact hP, hD⟩, hS.F ht⟩) hS.2.2 dJ7_fill_53178_20
    | succ n ih =>
      intro i hi g H locs ls hg hP hD hS hl
      refine lv_iload_n hx hb dJ7_fill_53178_5 rfl (lv_at hl 1 rfl) ?_
      refine lv_iload_n hx hb dJ7_fill_53178_6 rfl (lv_at hl 0 rfl) ?_
      refine lv_icmp_ge (tgt := 20) hx hb dJ7_fill_53178_7 (by decide) (fun q => ?_) (fun _ => ?_)
      · exfalso
        have := (jI_le (x := (N : Int)) (y := (i : Int)) ⟨by omega, by omega⟩ ⟨by omega, by omega⟩).mp q
        omega
      · refine lv_aload_n hx hb dJ7_fill_53178_10 rfl (lv_at hl 2 rfl) ?_
        refine lv_iload_n hx hb dJ7_fill_53178_11 rfl (lv_at hl 1 rfl) ?_
        refine lv_iload_n hx hb dJ7_fill_53178_12 rfl (lv_at hl 3 rfl) ?_
        refine va_iast hx hb hK hP hD hS 0 0 rfl rfl (vp_in_nI (show i < N by omega) (by omega)) dJ7_fill_53178_13 (fun H1 locs1 hP1 hD1 hS1 => ?_)
        rw [nI_clamp (show i < 2147483648 by omega)] at hP1 hD1
        refine lv_iinc (v := nI (i + 1)) (lv' := [(2, .int (nI (i + 1))), (3, .int (Int32.ofNat N)), (0, .ref a), (1, .int v)]) hx hb dJ7_fill_53178_14 hl (k := 1) rfl (nI_1 i) (by decide) rfl (fun ls hl => ?_)
        refine lv_goto (tgt := 5) hx hb dJ7_fill_53178_17 (by decide) ?_
        refine ih (i + 1) (by omega) (upd g i v) H1 locs1 ls (fun j hj => ?_) hP1 hD1 hS1 (lv_sub hl [1, 0, 2, 3] rfl)
        unfold upd
        split
        · rfl
        · exact hg j (by omega)
  exact lp N 0 (by omega) f _ _ ls (fun j hj => absurd hj (by omega)) hP hD hS hl
