/-! ===== a memory of whole numbers; the world of 37 cells; a judgement over memories (my own words) ===== -/
abbrev jMem : Type := Nat → Nat → Int
def jI (x : Int) : Int32 := Int32.ofInt x
def jL (x : Int) : Int64 := Int64.ofInt x
abbrev jR (x : Int) : Prop := -2147483648 ≤ x ∧ x ≤ 2147483647
abbrev jR8 (x : Int) : Prop := -9223372036854775808 ≤ x ∧ x ≤ 9223372036854775807
theorem jI_add (x y : Int) : jI (x + y) = jI x + jI y := Int32.ofInt_add x y
theorem jI_sub (x y : Int) : jI (x - y) = jI x - jI y := Int32.ofInt_sub x y
theorem jI_mul (x y : Int) : jI (x * y) = jI x * jI y := Int32.ofInt_mul x y
theorem jI_neg (x : Int) : jI (-x) = - jI x := Int32.ofInt_neg x
theorem jL_add (x y : Int) : jL (x + y) = jL x + jL y := Int64.ofInt_add x y
theorem jL_sub (x y : Int) : jL (x - y) = jL x - jL y := Int64.ofInt_sub x y
theorem jI_to {x : Int} (h : jR x) : (jI x).toInt = x := Int32.toInt_ofInt_of_le (by have := h.1; omega) (by have := h.2; omega)
theorem jL_to {x : Int} (h : jR8 x) : (jL x).toInt = x := Int64.toInt_ofInt_of_le (by have := h.1; omega) (by have := h.2; omega)
theorem jI_of (v : Int32) : jI v.toInt = v := Int32.ofInt_toInt v
theorem jL_of (v : Int64) : jL v.toInt = v := Int64.ofInt_toInt v
theorem jI_lt {x y : Int} (hx : jR x) (hy : jR y) : jI x < jI y ↔ x < y := by rw [Int32.lt_iff_toInt_lt, jI_to hx, jI_to hy]
theorem jI_le {x y : Int} (hx : jR x) (hy : jR y) : jI x ≤ jI y ↔ x ≤ y := by rw [Int32.le_iff_toInt_le, jI_to hx, jI_to hy]
theorem jI_eq {x y : Int} (hx : jR x) (hy : jR y) : jI x = jI y ↔ x = y := by rw [← Int32.toInt_inj, jI_to hx, jI_to hy]
theorem jI_nat (n : Nat) : jI (n : Int) = nI n := rfl
theorem jI_clamp {j : Nat} (h : j < 2147483648) : (jI (j : Int)).toNatClampNeg = j := nI_clamp (by omega)
theorem jI_in {j n : Nat} (h : j < n) (hn : n < 2147483648) : vp_in (jI (j : Int)) n := vp_in_nI h (by omega)
abbrev jSh : Type := (Nat × Nat) ⊕ (Nat × List (Option Nat))
/-- the shapes: objects (class, a cell for each field that is a reference), arrays (0 int, 1 long, 2 boolean; length) -/
def jsh : List jSh := [
  .inr (7, [some 1, some 7, some 10, some 14, some 15, some 17, some 18]),
  .inr (6, [some 2, some 3, some 4, some 5, some 6, none]), .inl (0, 40), .inl (0, 40), .inl (1, 20), .inl (0, 20), .inl (0, 1600),
  .inr (0, [some 8, some 9, none]), .inl (1, 40), .inl (1, 40),
  .inr (2, [some 1, some 11, some 12, some 13, none, none]), .inl (0, 40), .inl (1, 40), .inl (0, 40),
  .inr (5, [some 1, some 7, some 10, none]),
  .inr (4, [some 1, some 7, some 16, none, none]), .inl (1, 7),
  .inr (3, [some 1, none, none]),
  .inr (1, [some 1, some 10, some 17, some 19, none, some 20, none, some 21, some 22, some 23, none]), .inl (0, 5), .inl (0, 5), .inl (0, 25), .inl (0, 5), .inl (0, 5),
  .inr (8, [some 25, none, none, none, none, none, some 26, some 27, some 28, some 29, none, some 30, some 31, some 32, none, some 33, none, some 34, some 35, some 36, none]),
  .inl (0, 20), .inl (0, 40), .inl (0, 40), .inl (0, 40), .inl (0, 1600), .inl (0, 60), .inl (0, 60), .inl (2, 60), .inl (0, 5), .inl (0, 7), .inl (0, 5), .inl (0, 5)]
/-- what a world is at: the classes, the slots, the array classes, the addresses -/
abbrev jW : Type := (Nat → ClassId) × (Nat → Nat → Nat) × ClassId × ClassId × ClassId × (Nat → Nat)
abbrev jad (ω : jW) : Nat → Nat := ω.2.2.2.2.2
abbrev jD (ω : jW) : va_G := (ω.1, ω.2.1)
abbrev jty (ω : jW) : List (ClassId × FieldType) := [(ω.2.2.1, .int), (ω.2.2.2.1, .long), (ω.2.2.2.2.1, .boolean)]
def jfv (ad : Nat → Nat) (σ : Nat → Int) (j : Nat) (t : Option Nat) : Value := match t with
  | none => .int (jI (σ j))
  | some c => .ref (ad c)
def jfs (ad : Nat → Nat) (σ : Nat → Int) (tm : List (Option Nat)) : List Value := tm.mapIdx (jfv ad σ)
def jce (ω : jW) (σ : Nat → Int) (s : jSh) : va_E := match s with
  | .inr (ci, tm) => .inr (ci, jfs (jad ω) σ tm)
  | .inl (0, n) => .inl (ω.2.2.1, n, .inl (fun j => jI (σ j)))
  | .inl (1, n) => .inl (ω.2.2.2.1, n, .inr (.inl (fun j => jL (σ j))))
  | .inl (_, n) => .inl (ω.2.2.2.2.1, n, .inl (fun j => jI (σ j)))
def jWO (ω : jW) (σ : jMem) : va_W := jsh.mapIdx (fun k s => (jad ω k, jce ω (σ k) s))
def jA (ω : jW) : Nat → Prop := fun q => ∃ k, k < 37 ∧ q = jad ω k
def jIn (ω : jW) : Prop := ∀ i j, i < 37 → j < 37 → jad ω i = jad ω j → i = j
theorem jsh_len : jsh.length = 37 := rfl
theorem jWO_at {ω : jW} {σ : jMem} {k : Nat} {s : jSh} (h : jsh[k]? = some s) : (jWO ω σ)[k]? = some (jad ω k, jce ω (σ k) s) := by
  unfold jWO
  rw [List.getElem?_mapIdx, h]
  rfl
theorem jWO_of {ω : jW} {σ : jMem} {k : Nat} {q : Nat × va_E} (h : (jWO ω σ)[k]? = some q) : k < 37 ∧ q.1 = jad ω k := by
  unfold jWO at h
  rw [List.getElem?_mapIdx] at h
  cases hs : jsh[k]? with
  | none => rw [hs] at h; cases h
  | some s =>
    rw [hs] at h
    refine ⟨?_, ?_⟩
    · have := (List.getElem?_eq_some_iff.mp hs).1
      rw [jsh_len] at this
      exact this
    · cases h
      rfl
theorem jWO_D {ω : jW} (h : jIn ω) (σ : jMem) : va_D (jA ω) (jWO ω σ) := by
  refine ⟨fun i j p q hp hq e => ?_, fun k q hq => ?_⟩
  · obtain ⟨h1, h2⟩ := jWO_of hp
    obtain ⟨h3, h4⟩ := jWO_of hq
    exact h i j h1 h3 (by rw [← h2, ← h4]; exact e)
  · obtain ⟨h1, h2⟩ := jWO_of hq
    exact ⟨k, h1, h2⟩
/-- a memory with one place changed -/
def jup (σ : jMem) (c i : Nat) (v : Int) : jMem := fun k j => if k = c ∧ j = i then v else σ k j
theorem jup_row {σ : jMem} {c i k : Nat} {v : Int} (h : k ≠ c) : jup σ c i v k = σ k := by
  funext j
  simp [jup, h]
theorem jup_at {σ : jMem} {c i : Nat} {v : Int} : jup σ c i v c i = v := by simp [jup]
theorem jup_ne {σ : jMem} {c i k j : Nat} {v : Int} (h : k ≠ c ∨ j ≠ i) : jup σ c i v k j = σ k j := by
  unfold jup
  rw [if_neg]
  rintro ⟨a, b⟩
  rcases h with h | h
  · exact h a
  · exact h b
theorem jWO_set {ω : jW} {σ : jMem} {c i : Nat} {v : Int} {s : jSh} {e : va_E} (h : jsh[c]? = some s) (he : jce ω (jup σ c i v c) s = e) : (jWO ω σ).set c (jad ω c, e) = jWO ω (jup σ c i v) := by
  apply List.ext_getElem?
  intro k
  by_cases hk : c = k
  · subst hk
    rw [jWO_at h, he, List.getElem?_set_self]
    have := (List.getElem?_eq_some_iff.mp (jWO_at (ω := ω) (σ := σ) h)).1
    exact this
  · rw [List.getElem?_set_ne hk]
    unfold jWO
    rw [List.getElem?_mapIdx, List.getElem?_mapIdx, jup_row (fun q => hk q.symm)]
def jco (ω : jW) (v : Value) : Value := match v with
  | .ref c => .ref (jad ω c)
  | v => v
theorem jco_cat (ω : jW) (v : Value) : (jco ω v).category = v.category := by cases v <;> rfl
def jLV (ω : jW) (n : Nat) (ls : Array Slot) (lv : List (Option Value)) : Prop := ls.size = n ∧ lv.length = n ∧ lv_wf ls ∧ ∀ (i : Nat) (v : Value), lv[i]? = some (some v) → ls[i]? = some (Slot.val (jco ω v))
def jTB : List Cond := lw_tbl.filter goodWord
def jNest (w : Cond) : Bool := match w with
  | .methodLinkNest _ _ _ _ => true
  | _ => false
def jNL : List Cond := lw_tbl.filter jNest
theorem jTB_mem {w : Cond} (h : w ∈ lw_tbl) (h2 : goodWord w = true) : w ∈ jTB := List.mem_filter.mpr ⟨h, h2⟩
theorem jNL_mem {w : Cond} (h : w ∈ lw_tbl) (h2 : jNest w = true) : w ∈ jNL := List.mem_filter.mpr ⟨h, h2⟩
theorem jTB_good {w : Cond} (h : w ∈ jTB) : (w.onTables && w.keeps) = true ∨ ∃ ty, w = .arrayClass ty := good_of_word (List.mem_filter.mp h).2
/-- a method: its name, bytes, locals, what it returns -/
abbrev jM : Type := MethodName × ByteArray × Nat × Option FieldType
def jws (M : jM) : List Cond := Cond.code M.1 M.2.1 M.2.2.1 M.2.2.2 :: jTB
def jrm (d : Nat) : Room := { frames := d, cells := 0, slots := 0, locals := 40 * d }
def jPre (ω : jW) (σ : jMem) (U : State) : Prop := va_P (jD ω) vwCl (jWO ω σ) U.heap ∧ va_K (jD ω) vwCl (jty ω) U ∧ (∀ w ∈ jNL, va_Nw w U) ∧ jIn ω
def jQc (ω : jW) (K : Option Value → jMem → Prop) : Array Value → State → Outcome → State → Prop := fun _ st o t =>
  ∃ (r : Option Value) (σ : jMem), o = .returned (r.map (jco ω)) ∧ K r σ ∧ va_P (jD ω) vwCl (jWO ω σ) t.heap ∧ va_F (jA ω) st t
/-- the contract of a method, in words of memories: with d frames' room it ends, and K holds of its answer and the memory behind it -/
def jRun (d : Nat) (M : jM) (as : List Value) (σ : jMem) (K : Option Value → jMem → Prop) : Prop :=
  ∀ (l : Launch) (ω : jW), Met l M.1 (jws M) (jrm d) (va_Pc (as.map (jco ω)) (jPre ω σ)) (jQc ω K) 0 0 (jA ω)
abbrev jX : Type := Program × Launch × Env × Room × State × MethodId × Array Value × List Frame × Method × Code × Nat × Nat × (State → Prop) × jW
/-- the machine at pc, with these locals, this stack, this memory, comes to its end -/
def jV (Ψ : jX → Prop) (pc : Nat) (lv : List (Option Value)) (st : List Value) (σ : jMem) : Prop :=
  ∀ (p : Program) (l : Launch) (e : Env) (R : Room) (s : State) (m : MethodId) (args : Array Value) (below : List Frame) (meth : Method) (c : Code) (cells slots : Nat) (Q : State → Prop) (ω : jW),
    Ψ (p, l, e, R, s, m, args, below, meth, c, cells, slots, Q, ω) → ∀ (ls : Array Slot) (H : Heap) (locs : List Loc), jLV ω c.maxLocals ls lv → va_P (jD ω) vwCl (jWO ω σ) H → va_S (jA ω) s.heap H locs →
      W p l e R s m args below meth c H locs cells slots Q (F0 m pc ls (st.map (jco ω)))
/-- what the machine's side gives of a context -/
def jG (Ψ : jX → Prop) (B : ByteArray) (own : String) (d : Nat) : Prop :=
  ∀ (p : Program) (l : Launch) (e : Env) (R : Room) (s : State) (m : MethodId) (args : Array Value) (below : List Frame) (meth : Method) (c : Code) (cells slots : Nat) (Q : State → Prop) (ω : jW),
    Ψ (p, l, e, R, s, m, args, below, meth, c, cells, slots, Q, ω) → p.tables.exec = Jvm.exec ∧ c.code = B ∧ s.vm.findClass own = some m.cls ∧ (∀ w ∈ jTB, w.before args s = true) ∧ (∀ w ∈ jNL, va_Nw w s) ∧ va_K (jD ω) vwCl (jty ω) s ∧ jIn ω ∧ d ≤ R.frames ∧ 40 * d ≤ R.locals ∧ cells ≤ R.cells ∧ slots ≤ R.slots
/-- a method's own context -/
def jP (M : jM) (d : Nat) (K : Option Value → jMem → Prop) : jX → Prop := fun X => match X with
  | (p, _, _, R, s, m, args, below, meth, c, cells, slots, Q, ω) => p.tables.exec = Jvm.exec ∧ c.code = M.2.1 ∧ c.maxLocals = M.2.2.1 ∧ meth.sig.returnType = M.2.2.2 ∧ meth.locks = false ∧ s.vm.findClass M.1.cls = some m.cls ∧ (∀ w ∈ jTB, w.before args s = true) ∧ (∀ w ∈ jNL, va_Nw w s) ∧ va_K (jD ω) vwCl (jty ω) s ∧ jIn ω ∧ R = jrm d ∧ cells = 0 ∧ slots = 0 ∧ Q = MQ below (jQc ω K) args s 0 0 (jA ω)
theorem gM {M : jM} {d : Nat} {K : Option Value → jMem → Prop} : jG (jP M d K) M.2.1 M.1.cls d := by
  intro p l e R s m args below meth c cells slots Q ω h
  obtain ⟨h1, h2, h3, h4, h5, h6, h7, h8, h9, h10, h11, h12, h13, h14⟩ := h
  subst h11; subst h12; subst h13
  exact ⟨h1, h2, h6, h7, h8, h9, h10, Nat.le_refl _, Nat.le_refl _, Nat.le_refl _, Nat.le_refl _⟩
def jar : List Value → List (Option Value)
  | [] => []
  | v :: r => if v.category = 2 then some v :: none :: jar r else some v :: jar r
theorem jar_len (ω : jW) (vs : List Value) : (jar vs).length = (lg_sl (vs.map (jco ω))).length := by
  induction vs with
  | nil => rfl
  | cons v r ih =>
    simp only [jar, lg_sl, List.map_cons, List.flatMap_cons, jco_cat]
    split
    · simp only [List.length_cons, List.length_append, List.length_nil]
      rw [ih]
      simp only [lg_sl]
      omega
    · simp only [List.length_cons, List.length_append, List.length_nil]
      rw [ih]
      simp only [lg_sl]
      omega
theorem jar_at (ω : jW) (vs : List Value) : ∀ (i k : Nat) (v : Value), (jar vs)[i]? = some (some v) → (k + i, jco ω v) ∈ lv_args k (vs.map (jco ω)) := by
  induction vs with
  | nil => intro i k v h; simp [jar] at h
  | cons w r ih =>
    intro i k v h
    simp only [jar] at h
    simp only [List.map_cons, lv_args, jco_cat]
    split at h
    next hc =>
      rw [if_pos hc]
      match i, h with
      | 0, h => cases h; exact List.mem_cons_self
      | 1, h => cases h
      | i + 2, h =>
        have := ih i (k + 2) v h
        rw [show k + (i + 2) = k + 2 + i by omega]
        exact List.mem_cons_of_mem _ this
    next hc =>
      rw [if_neg hc]
      match i, h with
      | 0, h => cases h; exact List.mem_cons_self
      | i + 1, h =>
        have := ih i (k + 1) v h
        rw [show k + (i + 1) = k + 1 + i by omega]
        exact List.mem_cons_of_mem _ this
theorem jenter {M : jM} {d : Nat} {as : List Value} {σ : jMem} {K : Option Value → jMem → Prop} {lv : List (Option Value)} (hM : plainName M.1.cls = true) (hlv : jar as ++ List.replicate (M.2.2.1 - (jar as).length) none = lv) (hn : (jar as).length ≤ M.2.2.1) (h : jV (jP M d K) 0 lv [] σ) : jRun d M as σ K := by
  intro l ω
  refine Met.ofW (cc := M.2.1) (maxL := M.2.2.1) (ret := M.2.2.2) (ws' := jTB) hM rfl ?_
  intro p e s m args below meth c s₁ B hml hv
  obtain ⟨hargs, hP, hK, hN, hI⟩ := hv
  have hts := atoms_spec (ws := jws M) B.pre
  have hl := lv_entry (as.map (jco ω)) (n := M.2.2.1) (by rw [← jar_len]; exact hn)
  subst hargs
  rw [lg_entry_eq]
  generalize (lg_sl (as.map (jco ω)) ++ List.replicate (M.2.2.1 - (lg_sl (as.map (jco ω))).length) Slot.unset).toArray = ls at hl ⊢
  refine h p l e _ s m _ below meth c 0 0 _ ω ⟨B.exec, B.bytes, hml, B.returns, B.notSynchronized, findClass_of_methodNamed B.named, fun w hw => hts w (List.mem_cons_of_mem _ hw), hN, hK, hI, rfl, rfl, rfl, rfl⟩ ls s.heap [] ?_ hP va_S.rf
  refine ⟨by rw [hl.1, hml], by rw [← hlv, hml]; simp; omega, hl.2.1, fun i v hi => ?_⟩
  have h2 : (jar as)[i]? = some (some v) := by
    rw [← hlv] at hi
    rcases Nat.lt_or_ge i (jar as).length with q | q
    · rw [List.getElem?_append_left q] at hi
      exact hi
    · rw [List.getElem?_append_right q, List.getElem?_replicate] at hi
      split at hi
      · cases hi
      · cases hi
  have h3 := jar_at ω as i 0 v h2
  rw [Nat.zero_add] at h3
  exact hl.2.2 _ h3
