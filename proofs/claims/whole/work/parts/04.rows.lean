/-! ===== rows: an instruction each, over memories ===== -/
def jpr (ω : jW) (lv : List (Option Value)) : List (Nat × Value) := (List.range lv.length).filterMap (fun i => match lv[i]? with
  | some (some v) => some (i, jco ω v)
  | _ => none)
theorem jpr_of {ω : jW} {lv : List (Option Value)} {q : Nat × Value} (h : q ∈ jpr ω lv) : ∃ v, lv[q.1]? = some (some v) ∧ q.2 = jco ω v := by
  obtain ⟨i, -, hi⟩ := List.mem_filterMap.mp h
  split at hi
  next v hv => cases hi; exact ⟨v, hv, rfl⟩
  next => cases hi
theorem jpr_in {ω : jW} {lv : List (Option Value)} {i : Nat} {v : Value} (h : lv[i]? = some (some v)) : (i, jco ω v) ∈ jpr ω lv := by
  refine List.mem_filterMap.mpr ⟨i, List.mem_range.mpr (List.getElem?_eq_some_iff.mp h).1, ?_⟩
  rw [h]
theorem jLV_has {ω : jW} {n : Nat} {ls : Array Slot} {lv : List (Option Value)} (h : jLV ω n ls lv) : lv_has ls n (jpr ω lv) := by
  obtain ⟨h1, h2, h3, h4⟩ := h
  refine ⟨h1, h3, fun q hq => ?_⟩
  obtain ⟨v, hv, e⟩ := jpr_of hq
  rw [e]
  exact h4 _ _ hv
def jclr (lv : List (Option Value)) (i : Nat) : List (Option Value) := match i with
  | 0 => lv
  | j + 1 => match lv[j]? with
    | some (some v) => if v.category = 2 then lv.set j none else lv
    | _ => lv
def js1 (lv : List (Option Value)) (i : Nat) (v : Value) : List (Option Value) := (jclr lv i).set i (some v)
def js2 (lv : List (Option Value)) (i : Nat) (v : Value) : List (Option Value) := ((jclr lv i).set i (some v)).set (i + 1) none
theorem jclr_len (lv : List (Option Value)) (i : Nat) : (jclr lv i).length = lv.length := by
  unfold jclr
  split
  · rfl
  · split
    · split <;> simp
    · rfl
theorem jclr_at {lv : List (Option Value)} {i j : Nat} {w : Value} (h : (jclr lv i)[j]? = some (some w)) : lv[j]? = some (some w) ∧ ¬ (j + 1 = i ∧ w.category = 2) := by
  unfold jclr at h
  split at h
  · exact ⟨h, by omega⟩
  next k =>
    split at h
    next v hv =>
      split at h
      next hc =>
        by_cases hj : k = j
        · subst hj
          rw [List.getElem?_set_self (List.getElem?_eq_some_iff.mp hv).1] at h
          cases h
        · rw [List.getElem?_set_ne hj] at h
          exact ⟨h, by omega⟩
      next hc =>
        refine ⟨h, fun q => ?_⟩
        have e : j = k := by omega
        subst e
        rw [hv] at h
        cases h
        exact hc q.2
    next hv =>
      refine ⟨h, fun q => ?_⟩
      have e : j = k := by omega
      subst e
      exact hv _ h
theorem jLV_set1 {ω : jW} {n : Nat} {ls' : Array Slot} {lv : List (Option Value)} {i : Nat} {v : Value} (hn : lv.length = n) (hi : i < n) (h : lv_has ls' n ((i, jco ω v) :: (jpr ω lv).filter (fun q => !(q.1 == i) && !(q.1 + 1 == i && q.2.category == 2)))) : jLV ω n ls' (js1 lv i v) := by
  refine ⟨h.1, by unfold js1; rw [List.length_set, jclr_len]; exact hn, h.2.1, fun j w hw => ?_⟩
  unfold js1 at hw
  by_cases hj : i = j
  · subst hj
    rw [List.getElem?_set_self (by rw [jclr_len]; omega)] at hw
    cases hw
    exact h.2.2 _ List.mem_cons_self
  · rw [List.getElem?_set_ne hj] at hw
    obtain ⟨h1, h2⟩ := jclr_at hw
    refine h.2.2 (j, jco ω w) (List.mem_cons_of_mem _ (List.mem_filter.mpr ⟨jpr_in h1, ?_⟩))
    simp only [jco_cat]
    have a1 : (j == i) = false := by simpa using fun q => hj q.symm
    rw [a1]
    simp only [Bool.not_false, Bool.true_and, Bool.not_eq_true', Bool.and_eq_false_iff, beq_eq_false_iff_ne]
    by_cases hc : j + 1 = i
    · exact Or.inr (fun q => h2 ⟨hc, q⟩)
    · exact Or.inl hc
theorem jLV_set2 {ω : jW} {n : Nat} {ls' : Array Slot} {lv : List (Option Value)} {i : Nat} {v : Value} (hn : lv.length = n) (hi : i + 1 < n) (h : lv_has ls' n ((i, jco ω v) :: (jpr ω lv).filter (fun q => !(q.1 == i) && (!(q.1 == i + 1) && !(q.1 + 1 == i && q.2.category == 2))))) : jLV ω n ls' (js2 lv i v) := by
  refine ⟨h.1, by unfold js2; rw [List.length_set, List.length_set, jclr_len]; exact hn, h.2.1, fun j w hw => ?_⟩
  unfold js2 at hw
  by_cases hk : i + 1 = j
  · subst hk
    rw [List.getElem?_set_self (by rw [List.length_set, jclr_len]; omega)] at hw
    cases hw
  · rw [List.getElem?_set_ne hk] at hw
    by_cases hj : i = j
    · subst hj
      rw [List.getElem?_set_self (by rw [jclr_len]; omega)] at hw
      cases hw
      exact h.2.2 _ List.mem_cons_self
    · rw [List.getElem?_set_ne hj] at hw
      obtain ⟨h1, h2⟩ := jclr_at hw
      refine h.2.2 (j, jco ω w) (List.mem_cons_of_mem _ (List.mem_filter.mpr ⟨jpr_in h1, ?_⟩))
      simp only [jco_cat]
      have a1 : (j == i) = false := by simpa using fun q => hj q.symm
      have a2 : (j == i + 1) = false := by simpa using fun q => hk q.symm
      rw [a1, a2]
      simp only [Bool.not_false, Bool.true_and, Bool.not_eq_true', Bool.and_eq_false_iff, beq_eq_false_iff_ne]
      by_cases hc : j + 1 = i
      · exact Or.inr (fun q => h2 ⟨hc, q⟩)
      · exact Or.inl hc
section jRows
variable {Ψ : jX → Prop} {B : ByteArray} {own : String} {d pc pc' : Nat} {lv : List (Option Value)} {st : List Value} {σ : jMem}
theorem jr_iconst {n : Int} (G : jG Ψ B own d) (hd : decode B pc = .ok (.iconst n, 1)) (hp : pc + 1 = pc')  (k : jV Ψ pc' lv (.int (jI n) :: st) σ) : jV Ψ pc lv (st) σ := by
  subst hp
  intro p l e R s m args below meth c cells slots Q ω hΨ ls H locs hl hP hS
  obtain ⟨hx, hb, hown, hts, hnw, hK, hI, hfr, hlo, hce, hsl⟩ := G p l e R s m args below meth c cells slots Q ω hΨ
  refine lv_iconst hx hb hd rfl ?_
  exact k p l e R s m args below meth c cells slots Q ω hΨ ls H locs hl hP hS
theorem jr_bipush {n : Int} (G : jG Ψ B own d) (hd : decode B pc = .ok (.bipush n, 2)) (hp : pc + 2 = pc') (hv : (Int8.ofInt n).toInt32 = jI n) (k : jV Ψ pc' lv (.int (jI n) :: st) σ) : jV Ψ pc lv (st) σ := by
  subst hp
  intro p l e R s m args below meth c cells slots Q ω hΨ ls H locs hl hP hS
  obtain ⟨hx, hb, hown, hts, hnw, hK, hI, hfr, hlo, hce, hsl⟩ := G p l e R s m args below meth c cells slots Q ω hΨ
  refine lv_bipush hx hb hd hv ?_
  exact k p l e R s m args below meth c cells slots Q ω hΨ ls H locs hl hP hS
theorem jr_sipush {n : Int} (G : jG Ψ B own d) (hd : decode B pc = .ok (.sipush n, 3)) (hp : pc + 3 = pc') (hv : (Int16.ofInt n).toInt32 = jI n) (k : jV Ψ pc' lv (.int (jI n) :: st) σ) : jV Ψ pc lv (st) σ := by
  subst hp
  intro p l e R s m args below meth c cells slots Q ω hΨ ls H locs hl hP hS
  obtain ⟨hx, hb, hown, hts, hnw, hK, hI, hfr, hlo, hce, hsl⟩ := G p l e R s m args below meth c cells slots Q ω hΨ
  refine lv_sipush hx hb hd hv ?_
  exact k p l e R s m args below meth c cells slots Q ω hΨ ls H locs hl hP hS
theorem jr_lconst {n : Fin 2} {x : Int} (G : jG Ψ B own d) (hd : decode B pc = .ok (.lconst n, 1)) (hp : pc + 1 = pc') (hv : Int64.ofNat (n : Nat) = jL x) (k : jV Ψ pc' lv (.long (jL x) :: st) σ) : jV Ψ pc lv (st) σ := by
  subst hp
  intro p l e R s m args below meth c cells slots Q ω hΨ ls H locs hl hP hS
  obtain ⟨hx, hb, hown, hts, hnw, hK, hI, hfr, hlo, hce, hsl⟩ := G p l e R s m args below meth c cells slots Q ω hΨ
  refine lv_lconst hx hb hd hv ?_
  exact k p l e R s m args below meth c cells slots Q ω hΨ ls H locs hl hP hS
theorem jr_ldc {n : Int} {index : Nat} (G : jG Ψ B own d) (hd : decode B pc = .ok (.ldc index, 2)) (hp : pc + 2 = pc') (hw : Cond.constant own index (jI n) ∈ jTB) (k : jV Ψ pc' lv (.int (jI n) :: st) σ) : jV Ψ pc lv (st) σ := by
  subst hp
  intro p l e R s m args below meth c cells slots Q ω hΨ ls H locs hl hP hS
  obtain ⟨hx, hb, hown, hts, hnw, hK, hI, hfr, hlo, hce, hsl⟩ := G p l e R s m args below meth c cells slots Q ω hΨ
  refine lv_ldc hx hb hown (hts _ hw) hd ?_
  exact k p l e R s m args below meth c cells slots Q ω hΨ ls H locs hl hP hS
theorem jr_ldc2 {n : Int} {index : Nat} (G : jG Ψ B own d) (hd : decode B pc = .ok (.ldc2_w index, 3)) (hp : pc + 3 = pc') (hw : Cond.constantLong own index (jL n) ∈ jTB) (k : jV Ψ pc' lv (.long (jL n) :: st) σ) : jV Ψ pc lv (st) σ := by
  subst hp
  intro p l e R s m args below meth c cells slots Q ω hΨ ls H locs hl hP hS
  obtain ⟨hx, hb, hown, hts, hnw, hK, hI, hfr, hlo, hce, hsl⟩ := G p l e R s m args below meth c cells slots Q ω hΨ
  refine lv_ldc2 hx hb hown (hts _ hw) hd ?_
  exact k p l e R s m args below meth c cells slots Q ω hΨ ls H locs hl hP hS
theorem jr_iload_n {n : Fin 4} {x : Int32} (G : jG Ψ B own d) (hd : decode B pc = .ok (.iload_n n, 1)) (hp : pc + 1 = pc') (hv : lv[(n : Nat)]? = some (some (.int x))) (k : jV Ψ pc' lv (.int x :: st) σ) : jV Ψ pc lv (st) σ := by
  subst hp
  intro p l e R s m args below meth c cells slots Q ω hΨ ls H locs hl hP hS
  obtain ⟨hx, hb, hown, hts, hnw, hK, hI, hfr, hlo, hce, hsl⟩ := G p l e R s m args below meth c cells slots Q ω hΨ
  refine lv_iload_n hx hb hd rfl (hl.2.2.2 _ _ hv) ?_
  exact k p l e R s m args below meth c cells slots Q ω hΨ ls H locs hl hP hS
theorem jr_iload {n : Nat} {x : Int32} (G : jG Ψ B own d) (hd : decode B pc = .ok (.iload n, 2)) (hp : pc + 2 = pc') (hv : lv[n]? = some (some (.int x))) (k : jV Ψ pc' lv (.int x :: st) σ) : jV Ψ pc lv (st) σ := by
  subst hp
  intro p l e R s m args below meth c cells slots Q ω hΨ ls H locs hl hP hS
  obtain ⟨hx, hb, hown, hts, hnw, hK, hI, hfr, hlo, hce, hsl⟩ := G p l e R s m args below meth c cells slots Q ω hΨ
  refine lv_iload hx hb hd (hl.2.2.2 _ _ hv) ?_
  exact k p l e R s m args below meth c cells slots Q ω hΨ ls H locs hl hP hS
theorem jr_istore_n {n : Fin 4} {x : Int32} {lv' : List (Option Value)} (G : jG Ψ B own d) (hd : decode B pc = .ok (.istore_n n, 1)) (hp : pc + 1 = pc') (hv : js1 lv (n : Nat) (.int x) = lv') (hi : (n : Nat) < lv.length) (k : jV Ψ pc' lv' (st) σ) : jV Ψ pc lv (.int x :: st) σ := by
  subst hp
  intro p l e R s m args below meth c cells slots Q ω hΨ ls H locs hl hP hS
  obtain ⟨hx, hb, hown, hts, hnw, hK, hI, hfr, hlo, hce, hsl⟩ := G p l e R s m args below meth c cells slots Q ω hΨ
  have hn : lv.length = c.maxLocals := hl.2.1
  refine lv_istore_n hx hb hd rfl (jLV_has hl) (by omega) rfl (fun ls' hl' => ?_)
  exact k p l e R s m args below meth c cells slots Q ω hΨ ls' H locs (by rw [← hv]; exact jLV_set1 (v := .int x) hn (by omega) hl') hP hS
theorem jr_istore {n : Nat} {x : Int32} {lv' : List (Option Value)} (G : jG Ψ B own d) (hd : decode B pc = .ok (.istore n, 2)) (hp : pc + 2 = pc') (hv : js1 lv n (.int x) = lv') (hi : n < lv.length) (k : jV Ψ pc' lv' (st) σ) : jV Ψ pc lv (.int x :: st) σ := by
  subst hp
  intro p l e R s m args below meth c cells slots Q ω hΨ ls H locs hl hP hS
  obtain ⟨hx, hb, hown, hts, hnw, hK, hI, hfr, hlo, hce, hsl⟩ := G p l e R s m args below meth c cells slots Q ω hΨ
  have hn : lv.length = c.maxLocals := hl.2.1
  refine lv_istore hx hb hd (jLV_has hl) (by omega) rfl (fun ls' hl' => ?_)
  exact k p l e R s m args below meth c cells slots Q ω hΨ ls' H locs (by rw [← hv]; exact jLV_set1 (v := .int x) hn (by omega) hl') hP hS
theorem jr_lload_n {n : Fin 4} {x : Int64} (G : jG Ψ B own d) (hd : decode B pc = .ok (.lload_n n, 1)) (hp : pc + 1 = pc') (hv : lv[(n : Nat)]? = some (some (.long x))) (k : jV Ψ pc' lv (.long x :: st) σ) : jV Ψ pc lv (st) σ := by
  subst hp
  intro p l e R s m args below meth c cells slots Q ω hΨ ls H locs hl hP hS
  obtain ⟨hx, hb, hown, hts, hnw, hK, hI, hfr, hlo, hce, hsl⟩ := G p l e R s m args below meth c cells slots Q ω hΨ
  refine lv_lload_n hx hb hd rfl (hl.2.2.2 _ _ hv) ?_
  exact k p l e R s m args below meth c cells slots Q ω hΨ ls H locs hl hP hS
theorem jr_lload {n : Nat} {x : Int64} (G : jG Ψ B own d) (hd : decode B pc = .ok (.lload n, 2)) (hp : pc + 2 = pc') (hv : lv[n]? = some (some (.long x))) (k : jV Ψ pc' lv (.long x :: st) σ) : jV Ψ pc lv (st) σ := by
  subst hp
  intro p l e R s m args below meth c cells slots Q ω hΨ ls H locs hl hP hS
  obtain ⟨hx, hb, hown, hts, hnw, hK, hI, hfr, hlo, hce, hsl⟩ := G p l e R s m args below meth c cells slots Q ω hΨ
  refine lv_lload hx hb hd (hl.2.2.2 _ _ hv) ?_
  exact k p l e R s m args below meth c cells slots Q ω hΨ ls H locs hl hP hS
theorem jr_lstore_n {n : Fin 4} {x : Int64} {lv' : List (Option Value)} (G : jG Ψ B own d) (hd : decode B pc = .ok (.lstore_n n, 1)) (hp : pc + 1 = pc') (hv : js2 lv (n : Nat) (.long x) = lv') (hi : (n : Nat) + 1 < lv.length) (k : jV Ψ pc' lv' (st) σ) : jV Ψ pc lv (.long x :: st) σ := by
  subst hp
  intro p l e R s m args below meth c cells slots Q ω hΨ ls H locs hl hP hS
  obtain ⟨hx, hb, hown, hts, hnw, hK, hI, hfr, hlo, hce, hsl⟩ := G p l e R s m args below meth c cells slots Q ω hΨ
  have hn : lv.length = c.maxLocals := hl.2.1
  refine lv_lstore_n hx hb hd rfl (jLV_has hl) (by omega) rfl (fun ls' hl' => ?_)
  exact k p l e R s m args below meth c cells slots Q ω hΨ ls' H locs (by rw [← hv]; exact jLV_set2 (v := .long x) hn (by omega) hl') hP hS
theorem jr_lstore {n : Nat} {x : Int64} {lv' : List (Option Value)} (G : jG Ψ B own d) (hd : decode B pc = .ok (.lstore n, 2)) (hp : pc + 2 = pc') (hv : js2 lv n (.long x) = lv') (hi : n + 1 < lv.length) (k : jV Ψ pc' lv' (st) σ) : jV Ψ pc lv (.long x :: st) σ := by
  subst hp
  intro p l e R s m args below meth c cells slots Q ω hΨ ls H locs hl hP hS
  obtain ⟨hx, hb, hown, hts, hnw, hK, hI, hfr, hlo, hce, hsl⟩ := G p l e R s m args below meth c cells slots Q ω hΨ
  have hn : lv.length = c.maxLocals := hl.2.1
  refine lv_lstore hx hb hd (jLV_has hl) (by omega) rfl (fun ls' hl' => ?_)
  exact k p l e R s m args below meth c cells slots Q ω hΨ ls' H locs (by rw [← hv]; exact jLV_set2 (v := .long x) hn (by omega) hl') hP hS
theorem jr_aload_n {n : Fin 4} {x : Nat} (G : jG Ψ B own d) (hd : decode B pc = .ok (.aload_n n, 1)) (hp : pc + 1 = pc') (hv : lv[(n : Nat)]? = some (some (.ref x))) (k : jV Ψ pc' lv (.ref x :: st) σ) : jV Ψ pc lv (st) σ := by
  subst hp
  intro p l e R s m args below meth c cells slots Q ω hΨ ls H locs hl hP hS
  obtain ⟨hx, hb, hown, hts, hnw, hK, hI, hfr, hlo, hce, hsl⟩ := G p l e R s m args below meth c cells slots Q ω hΨ
  refine lv_aload_n hx hb hd rfl (hl.2.2.2 _ _ hv) ?_
  exact k p l e R s m args below meth c cells slots Q ω hΨ ls H locs hl hP hS
theorem jr_aload {n : Nat} {x : Nat} (G : jG Ψ B own d) (hd : decode B pc = .ok (.aload n, 2)) (hp : pc + 2 = pc') (hv : lv[n]? = some (some (.ref x))) (k : jV Ψ pc' lv (.ref x :: st) σ) : jV Ψ pc lv (st) σ := by
  subst hp
  intro p l e R s m args below meth c cells slots Q ω hΨ ls H locs hl hP hS
  obtain ⟨hx, hb, hown, hts, hnw, hK, hI, hfr, hlo, hce, hsl⟩ := G p l e R s m args below meth c cells slots Q ω hΨ
  refine lv_aload hx hb hd (hl.2.2.2 _ _ hv) ?_
  exact k p l e R s m args below meth c cells slots Q ω hΨ ls H locs hl hP hS
theorem jr_astore_n {n : Fin 4} {x : Nat} {lv' : List (Option Value)} (G : jG Ψ B own d) (hd : decode B pc = .ok (.astore_n n, 1)) (hp : pc + 1 = pc') (hv : js1 lv (n : Nat) (.ref x) = lv') (hi : (n : Nat) < lv.length) (k : jV Ψ pc' lv' (st) σ) : jV Ψ pc lv (.ref x :: st) σ := by
  subst hp
  intro p l e R s m args below meth c cells slots Q ω hΨ ls H locs hl hP hS
  obtain ⟨hx, hb, hown, hts, hnw, hK, hI, hfr, hlo, hce, hsl⟩ := G p l e R s m args below meth c cells slots Q ω hΨ
  have hn : lv.length = c.maxLocals := hl.2.1
  refine lv_astore_n hx hb hd rfl (jLV_has hl) (by omega) rfl (fun ls' hl' => ?_)
  exact k p l e R s m args below meth c cells slots Q ω hΨ ls' H locs (by rw [← hv]; exact jLV_set1 (v := .ref x) hn (by omega) hl') hP hS
theorem jr_astore {n : Nat} {x : Nat} {lv' : List (Option Value)} (G : jG Ψ B own d) (hd : decode B pc = .ok (.astore n, 2)) (hp : pc + 2 = pc') (hv : js1 lv n (.ref x) = lv') (hi : n < lv.length) (k : jV Ψ pc' lv' (st) σ) : jV Ψ pc lv (.ref x :: st) σ := by
  subst hp
  intro p l e R s m args below meth c cells slots Q ω hΨ ls H locs hl hP hS
  obtain ⟨hx, hb, hown, hts, hnw, hK, hI, hfr, hlo, hce, hsl⟩ := G p l e R s m args below meth c cells slots Q ω hΨ
  have hn : lv.length = c.maxLocals := hl.2.1
  refine lv_astore hx hb hd (jLV_has hl) (by omega) rfl (fun ls' hl' => ?_)
  exact k p l e R s m args below meth c cells slots Q ω hΨ ls' H locs (by rw [← hv]; exact jLV_set1 (v := .ref x) hn (by omega) hl') hP hS
theorem jr_iinc {i : Nat} {n x : Int} {lv' : List (Option Value)} (G : jG Ψ B own d) (hd : decode B pc = .ok (.iinc i n, 3)) (hp : pc + 3 = pc') (hg : lv[i]? = some (some (.int (jI x)))) (hv : js1 lv i (.int (jI (x + n))) = lv') (k : jV Ψ pc' lv' (st) σ) : jV Ψ pc lv (st) σ := by
  subst hp
  intro p l e R s m args below meth c cells slots Q ω hΨ ls H locs hl hP hS
  obtain ⟨hx, hb, hown, hts, hnw, hK, hI, hfr, hlo, hce, hsl⟩ := G p l e R s m args below meth c cells slots Q ω hΨ
  have hn : lv.length = c.maxLocals := hl.2.1
  have hi : i < lv.length := (List.getElem?_eq_some_iff.mp hg).1
  obtain ⟨q, hq⟩ := List.getElem?_of_mem (jpr_in (ω := ω) hg)
  refine lv_iinc (v := jI (x + n)) hx hb hd (jLV_has hl) (k := q) hq (by rw [jI_add]; rfl) (by omega) rfl (fun ls' hl' => ?_)
  exact k p l e R s m args below meth c cells slots Q ω hΨ ls' H locs (by rw [← hv]; exact jLV_set1 (v := .int (jI (x + n))) hn (by omega) hl') hP hS
theorem jr_iadd {x y : Int} (G : jG Ψ B own d) (hd : decode B pc = .ok (.iadd, 1)) (hp : pc + 1 = pc')  (k : jV Ψ pc' lv (.int (jI (x + y)) :: st) σ) : jV Ψ pc lv (.int (jI y) :: .int (jI x) :: st) σ := by
  subst hp
  intro p l e R s m args below meth c cells slots Q ω hΨ ls H locs hl hP hS
  obtain ⟨hx, hb, hown, hts, hnw, hK, hI, hfr, hlo, hce, hsl⟩ := G p l e R s m args below meth c cells slots Q ω hΨ
  refine lv_iadd hx hb hd ?_
  rw [jI_add] at k
  exact k p l e R s m args below meth c cells slots Q ω hΨ ls H locs hl hP hS
theorem jr_isub {x y : Int} (G : jG Ψ B own d) (hd : decode B pc = .ok (.isub, 1)) (hp : pc + 1 = pc')  (k : jV Ψ pc' lv (.int (jI (x - y)) :: st) σ) : jV Ψ pc lv (.int (jI y) :: .int (jI x) :: st) σ := by
  subst hp
  intro p l e R s m args below meth c cells slots Q ω hΨ ls H locs hl hP hS
  obtain ⟨hx, hb, hown, hts, hnw, hK, hI, hfr, hlo, hce, hsl⟩ := G p l e R s m args below meth c cells slots Q ω hΨ
  refine lv_isub hx hb hd ?_
  rw [jI_sub] at k
  exact k p l e R s m args below meth c cells slots Q ω hΨ ls H locs hl hP hS
theorem jr_imul {x y : Int} (G : jG Ψ B own d) (hd : decode B pc = .ok (.imul, 1)) (hp : pc + 1 = pc')  (k : jV Ψ pc' lv (.int (jI (x * y)) :: st) σ) : jV Ψ pc lv (.int (jI y) :: .int (jI x) :: st) σ := by
  subst hp
  intro p l e R s m args below meth c cells slots Q ω hΨ ls H locs hl hP hS
  obtain ⟨hx, hb, hown, hts, hnw, hK, hI, hfr, hlo, hce, hsl⟩ := G p l e R s m args below meth c cells slots Q ω hΨ
  refine lv_imul hx hb hd ?_
  rw [jI_mul] at k
  exact k p l e R s m args below meth c cells slots Q ω hΨ ls H locs hl hP hS
theorem jr_ineg {x : Int} (G : jG Ψ B own d) (hd : decode B pc = .ok (.ineg, 1)) (hp : pc + 1 = pc')  (k : jV Ψ pc' lv (.int (jI (-x)) :: st) σ) : jV Ψ pc lv (.int (jI x) :: st) σ := by
  subst hp
  intro p l e R s m args below meth c cells slots Q ω hΨ ls H locs hl hP hS
  obtain ⟨hx, hb, hown, hts, hnw, hK, hI, hfr, hlo, hce, hsl⟩ := G p l e R s m args below meth c cells slots Q ω hΨ
  refine lv_ineg hx hb hd ?_
  rw [jI_neg] at k
  exact k p l e R s m args below meth c cells slots Q ω hΨ ls H locs hl hP hS
theorem jr_ladd {x y : Int} (G : jG Ψ B own d) (hd : decode B pc = .ok (.ladd, 1)) (hp : pc + 1 = pc')  (k : jV Ψ pc' lv (.long (jL (x + y)) :: st) σ) : jV Ψ pc lv (.long (jL y) :: .long (jL x) :: st) σ := by
  subst hp
  intro p l e R s m args below meth c cells slots Q ω hΨ ls H locs hl hP hS
  obtain ⟨hx, hb, hown, hts, hnw, hK, hI, hfr, hlo, hce, hsl⟩ := G p l e R s m args below meth c cells slots Q ω hΨ
  refine lv_ladd hx hb hd ?_
  rw [jL_add] at k
  exact k p l e R s m args below meth c cells slots Q ω hΨ ls H locs hl hP hS
theorem jr_lsub {x y : Int} (G : jG Ψ B own d) (hd : decode B pc = .ok (.lsub, 1)) (hp : pc + 1 = pc')  (k : jV Ψ pc' lv (.long (jL (x - y)) :: st) σ) : jV Ψ pc lv (.long (jL y) :: .long (jL x) :: st) σ := by
  subst hp
  intro p l e R s m args below meth c cells slots Q ω hΨ ls H locs hl hP hS
  obtain ⟨hx, hb, hown, hts, hnw, hK, hI, hfr, hlo, hce, hsl⟩ := G p l e R s m args below meth c cells slots Q ω hΨ
  refine lv_lsub hx hb hd ?_
  rw [jL_sub] at k
  exact k p l e R s m args below meth c cells slots Q ω hΨ ls H locs hl hP hS
theorem jr_iand {x y : Int} (z : Int) (G : jG Ψ B own d) (hd : decode B pc = .ok (.iand, 1)) (hp : pc + 1 = pc') (hz : jI x &&& jI y = jI z) (k : jV Ψ pc' lv (.int (jI z) :: st) σ) : jV Ψ pc lv (.int (jI y) :: .int (jI x) :: st) σ := by
  subst hp
  intro p l e R s m args below meth c cells slots Q ω hΨ ls H locs hl hP hS
  obtain ⟨hx, hb, hown, hts, hnw, hK, hI, hfr, hlo, hce, hsl⟩ := G p l e R s m args below meth c cells slots Q ω hΨ
  refine lv_iand hx hb hd ?_
  rw [← hz] at k
  exact k p l e R s m args below meth c cells slots Q ω hΨ ls H locs hl hP hS
theorem jr_ior {x y : Int} (z : Int) (G : jG Ψ B own d) (hd : decode B pc = .ok (.ior, 1)) (hp : pc + 1 = pc') (hz : jI x ||| jI y = jI z) (k : jV Ψ pc' lv (.int (jI z) :: st) σ) : jV Ψ pc lv (.int (jI y) :: .int (jI x) :: st) σ := by
  subst hp
  intro p l e R s m args below meth c cells slots Q ω hΨ ls H locs hl hP hS
  obtain ⟨hx, hb, hown, hts, hnw, hK, hI, hfr, hlo, hce, hsl⟩ := G p l e R s m args below meth c cells slots Q ω hΨ
  refine lv_ior hx hb hd ?_
  rw [← hz] at k
  exact k p l e R s m args below meth c cells slots Q ω hΨ ls H locs hl hP hS
theorem jr_ixor {x y : Int} (z : Int) (G : jG Ψ B own d) (hd : decode B pc = .ok (.ixor, 1)) (hp : pc + 1 = pc') (hz : jI x ^^^ jI y = jI z) (k : jV Ψ pc' lv (.int (jI z) :: st) σ) : jV Ψ pc lv (.int (jI y) :: .int (jI x) :: st) σ := by
  subst hp
  intro p l e R s m args below meth c cells slots Q ω hΨ ls H locs hl hP hS
  obtain ⟨hx, hb, hown, hts, hnw, hK, hI, hfr, hlo, hce, hsl⟩ := G p l e R s m args below meth c cells slots Q ω hΨ
  refine lv_ixor hx hb hd ?_
  rw [← hz] at k
  exact k p l e R s m args below meth c cells slots Q ω hΨ ls H locs hl hP hS
theorem jr_ishl {x y : Int} (z : Int) (G : jG Ψ B own d) (hd : decode B pc = .ok (.ishl, 1)) (hp : pc + 1 = pc') (hz : jI x <<< (jI y &&& 31) = jI z) (k : jV Ψ pc' lv (.int (jI z) :: st) σ) : jV Ψ pc lv (.int (jI y) :: .int (jI x) :: st) σ := by
  subst hp
  intro p l e R s m args below meth c cells slots Q ω hΨ ls H locs hl hP hS
  obtain ⟨hx, hb, hown, hts, hnw, hK, hI, hfr, hlo, hce, hsl⟩ := G p l e R s m args below meth c cells slots Q ω hΨ
  refine lv_ishl hx hb hd ?_
  rw [← hz] at k
  exact k p l e R s m args below meth c cells slots Q ω hΨ ls H locs hl hP hS
theorem jr_ishr {x y : Int} (z : Int) (G : jG Ψ B own d) (hd : decode B pc = .ok (.ishr, 1)) (hp : pc + 1 = pc') (hz : jI x >>> (jI y &&& 31) = jI z) (k : jV Ψ pc' lv (.int (jI z) :: st) σ) : jV Ψ pc lv (.int (jI y) :: .int (jI x) :: st) σ := by
  subst hp
  intro p l e R s m args below meth c cells slots Q ω hΨ ls H locs hl hP hS
  obtain ⟨hx, hb, hown, hts, hnw, hK, hI, hfr, hlo, hce, hsl⟩ := G p l e R s m args below meth c cells slots Q ω hΨ
  refine lv_ishr hx hb hd ?_
  rw [← hz] at k
  exact k p l e R s m args below meth c cells slots Q ω hΨ ls H locs hl hP hS
theorem jr_land {x y : Int} (z : Int) (G : jG Ψ B own d) (hd : decode B pc = .ok (.land, 1)) (hp : pc + 1 = pc') (hz : jL x &&& jL y = jL z) (k : jV Ψ pc' lv (.long (jL z) :: st) σ) : jV Ψ pc lv (.long (jL y) :: .long (jL x) :: st) σ := by
  subst hp
  intro p l e R s m args below meth c cells slots Q ω hΨ ls H locs hl hP hS
  obtain ⟨hx, hb, hown, hts, hnw, hK, hI, hfr, hlo, hce, hsl⟩ := G p l e R s m args below meth c cells slots Q ω hΨ
  refine lv_land hx hb hd ?_
  rw [← hz] at k
  exact k p l e R s m args below meth c cells slots Q ω hΨ ls H locs hl hP hS
theorem jr_lor {x y : Int} (z : Int) (G : jG Ψ B own d) (hd : decode B pc = .ok (.lor, 1)) (hp : pc + 1 = pc') (hz : jL x ||| jL y = jL z) (k : jV Ψ pc' lv (.long (jL z) :: st) σ) : jV Ψ pc lv (.long (jL y) :: .long (jL x) :: st) σ := by
  subst hp
  intro p l e R s m args below meth c cells slots Q ω hΨ ls H locs hl hP hS
  obtain ⟨hx, hb, hown, hts, hnw, hK, hI, hfr, hlo, hce, hsl⟩ := G p l e R s m args below meth c cells slots Q ω hΨ
  refine lv_lor hx hb hd ?_
  rw [← hz] at k
  exact k p l e R s m args below meth c cells slots Q ω hΨ ls H locs hl hP hS
theorem jr_lxor {x y : Int} (z : Int) (G : jG Ψ B own d) (hd : decode B pc = .ok (.lxor, 1)) (hp : pc + 1 = pc') (hz : jL x ^^^ jL y = jL z) (k : jV Ψ pc' lv (.long (jL z) :: st) σ) : jV Ψ pc lv (.long (jL y) :: .long (jL x) :: st) σ := by
  subst hp
  intro p l e R s m args below meth c cells slots Q ω hΨ ls H locs hl hP hS
  obtain ⟨hx, hb, hown, hts, hnw, hK, hI, hfr, hlo, hce, hsl⟩ := G p l e R s m args below meth c cells slots Q ω hΨ
  refine lv_lxor hx hb hd ?_
  rw [← hz] at k
  exact k p l e R s m args below meth c cells slots Q ω hΨ ls H locs hl hP hS
theorem jr_lushr {x y : Int} (z : Int) (G : jG Ψ B own d) (hd : decode B pc = .ok (.lushr, 1)) (hp : pc + 1 = pc') (hz : ((jL x).toUInt64 >>> ((jI y).toInt64.toUInt64 &&& Int64.toUInt64 63)).toInt64 = jL z) (k : jV Ψ pc' lv (.long (jL z) :: st) σ) : jV Ψ pc lv (.int (jI y) :: .long (jL x) :: st) σ := by
  subst hp
  intro p l e R s m args below meth c cells slots Q ω hΨ ls H locs hl hP hS
  obtain ⟨hx, hb, hown, hts, hnw, hK, hI, hfr, hlo, hce, hsl⟩ := G p l e R s m args below meth c cells slots Q ω hΨ
  refine lv_lushr hx hb hd hz ?_
  exact k p l e R s m args below meth c cells slots Q ω hΨ ls H locs hl hP hS
theorem jr_lshl {x y : Int} (z : Int) (G : jG Ψ B own d) (hd : decode B pc = .ok (.lshl, 1)) (hp : pc + 1 = pc') (hz : jL x <<< ((jI y).toInt64 &&& 63) = jL z) (k : jV Ψ pc' lv (.long (jL z) :: st) σ) : jV Ψ pc lv (.int (jI y) :: .long (jL x) :: st) σ := by
  subst hp
  intro p l e R s m args below meth c cells slots Q ω hΨ ls H locs hl hP hS
  obtain ⟨hx, hb, hown, hts, hnw, hK, hI, hfr, hlo, hce, hsl⟩ := G p l e R s m args below meth c cells slots Q ω hΨ
  refine lv_lshl hx hb hd hz ?_
  exact k p l e R s m args below meth c cells slots Q ω hΨ ls H locs hl hP hS
theorem jr_lshr {x y : Int} (z : Int) (G : jG Ψ B own d) (hd : decode B pc = .ok (.lshr, 1)) (hp : pc + 1 = pc') (hz : jL x >>> ((jI y).toInt64 &&& 63) = jL z) (k : jV Ψ pc' lv (.long (jL z) :: st) σ) : jV Ψ pc lv (.int (jI y) :: .long (jL x) :: st) σ := by
  subst hp
  intro p l e R s m args below meth c cells slots Q ω hΨ ls H locs hl hP hS
  obtain ⟨hx, hb, hown, hts, hnw, hK, hI, hfr, hlo, hce, hsl⟩ := G p l e R s m args below meth c cells slots Q ω hΨ
  refine lv_lshr hx hb hd hz ?_
  exact k p l e R s m args below meth c cells slots Q ω hΨ ls H locs hl hP hS
theorem jr_l2i {x : Int} (z : Int) (G : jG Ψ B own d) (hd : decode B pc = .ok (.l2i, 1)) (hp : pc + 1 = pc') (hz : (jL x).toInt32 = jI z) (k : jV Ψ pc' lv (.int (jI z) :: st) σ) : jV Ψ pc lv (.long (jL x) :: st) σ := by
  subst hp
  intro p l e R s m args below meth c cells slots Q ω hΨ ls H locs hl hP hS
  obtain ⟨hx, hb, hown, hts, hnw, hK, hI, hfr, hlo, hce, hsl⟩ := G p l e R s m args below meth c cells slots Q ω hΨ
  refine lv_l2i hx hb hd hz ?_
  exact k p l e R s m args below meth c cells slots Q ω hΨ ls H locs hl hP hS
theorem jr_idiv {x y : Int} (G : jG Ψ B own d) (hd : decode B pc = .ok (.idiv, 1)) (hp : pc + 1 = pc') (hx0 : 0 ≤ x ∧ x ≤ 2147483647) (hy0 : 0 < y ∧ y ≤ 2147483647) (k : jV Ψ pc' lv (.int (jI (x / y)) :: st) σ) : jV Ψ pc lv (.int (jI y) :: .int (jI x) :: st) σ := by
  subst hp
  intro p l e R s m args below meth c cells slots Q ω hΨ ls H locs hl hP hS
  obtain ⟨hx, hb, hown, hts, hnw, hK, hI, hfr, hlo, hce, hsl⟩ := G p l e R s m args below meth c cells slots Q ω hΨ
  obtain ⟨a, rfl⟩ := Int.eq_ofNat_of_zero_le hx0.1
  obtain ⟨b, rfl⟩ := Int.eq_ofNat_of_zero_le (Int.le_of_lt hy0.1)
  refine lv_idiv hx hb hd (fun q => ?_) ?_
  · have := (jI_eq (x := (b : Int)) (y := 0) ⟨by omega, by omega⟩ ⟨by omega, by omega⟩).mp q
    omega
  have ee : jI (a : Int) / jI (b : Int) = jI ((a : Int) / (b : Int)) := pk_div (by omega) (by omega) (by omega)
  rw [ee]
  exact k p l e R s m args below meth c cells slots Q ω hΨ ls H locs hl hP hS
theorem jr_irem {x y : Int} (G : jG Ψ B own d) (hd : decode B pc = .ok (.irem, 1)) (hp : pc + 1 = pc') (hx0 : 0 ≤ x ∧ x ≤ 2147483647) (hy0 : 0 < y ∧ y ≤ 2147483647) (k : jV Ψ pc' lv (.int (jI (x % y)) :: st) σ) : jV Ψ pc lv (.int (jI y) :: .int (jI x) :: st) σ := by
  subst hp
  intro p l e R s m args below meth c cells slots Q ω hΨ ls H locs hl hP hS
  obtain ⟨hx, hb, hown, hts, hnw, hK, hI, hfr, hlo, hce, hsl⟩ := G p l e R s m args below meth c cells slots Q ω hΨ
  obtain ⟨a, rfl⟩ := Int.eq_ofNat_of_zero_le hx0.1
  obtain ⟨b, rfl⟩ := Int.eq_ofNat_of_zero_le (Int.le_of_lt hy0.1)
  refine lv_irem hx hb hd (fun q => ?_) ?_
  · have := (jI_eq (x := (b : Int)) (y := 0) ⟨by omega, by omega⟩ ⟨by omega, by omega⟩).mp q
    omega
  have ee : jI (a : Int) - jI (a : Int) / jI (b : Int) * jI (b : Int) = jI ((a : Int) % (b : Int)) := pk_rem (by omega) (by omega) (by omega)
  rw [ee]
  exact k p l e R s m args below meth c cells slots Q ω hΨ ls H locs hl hP hS
def jcmp (x y : Int) : Int := if y < x then 1 else if x = y then 0 else -1
theorem jcmp_is {x y : Int} (hx : jR8 x) (hy : jR8 y) : lg_cmp (jL x) (jL y) = jI (jcmp x y) := by
  unfold lg_cmp jcmp
  simp only [gt_iff_lt, Int64.lt_iff_toInt_lt, ← Int64.toInt_inj, jL_to hx, jL_to hy]
  split
  · rfl
  · split <;> rfl
theorem jr_lcmp {x y : Int} (G : jG Ψ B own d) (hd : decode B pc = .ok (.lcmp, 1)) (hp : pc + 1 = pc') (hx0 : jR8 x) (hy0 : jR8 y) (k : jV Ψ pc' lv (.int (jI (jcmp x y)) :: st) σ) : jV Ψ pc lv (.long (jL y) :: .long (jL x) :: st) σ := by
  subst hp
  intro p l e R s m args below meth c cells slots Q ω hΨ ls H locs hl hP hS
  obtain ⟨hx, hb, hown, hts, hnw, hK, hI, hfr, hlo, hce, hsl⟩ := G p l e R s m args below meth c cells slots Q ω hΨ
  refine W.lcmp hx hb hd ?_
  rw [jcmp_is hx0 hy0]
  exact k p l e R s m args below meth c cells slots Q ω hΨ ls H locs hl hP hS
theorem jr_dup {v : Value} (G : jG Ψ B own d) (hd : decode B pc = .ok (.dup, 1)) (hp : pc + 1 = pc') (hv : v.category = 1) (k : jV Ψ pc' lv (v :: v :: st) σ) : jV Ψ pc lv (v :: st) σ := by
  subst hp
  intro p l e R s m args below meth c cells slots Q ω hΨ ls H locs hl hP hS
  obtain ⟨hx, hb, hown, hts, hnw, hK, hI, hfr, hlo, hce, hsl⟩ := G p l e R s m args below meth c cells slots Q ω hΨ
  refine lv_dup hx hb hd (by rw [jco_cat]; exact hv) ?_
  exact k p l e R s m args below meth c cells slots Q ω hΨ ls H locs hl hP hS
theorem jr_pop {v : Value} (G : jG Ψ B own d) (hd : decode B pc = .ok (.pop, 1)) (hp : pc + 1 = pc') (hv : v.category = 1) (k : jV Ψ pc' lv (st) σ) : jV Ψ pc lv (v :: st) σ := by
  subst hp
  intro p l e R s m args below meth c cells slots Q ω hΨ ls H locs hl hP hS
  obtain ⟨hx, hb, hown, hts, hnw, hK, hI, hfr, hlo, hce, hsl⟩ := G p l e R s m args below meth c cells slots Q ω hΨ
  refine lv_pop hx hb hd (by rw [jco_cat]; exact hv) ?_
  exact k p l e R s m args below meth c cells slots Q ω hΨ ls H locs hl hP hS
theorem jr_dup2 {v w : Value} (G : jG Ψ B own d) (hd : decode B pc = .ok (.dup2, 1)) (hp : pc + 1 = pc') (hv : v.category = 1) (hw : w.category = 1) (k : jV Ψ pc' lv (v :: w :: v :: w :: st) σ) : jV Ψ pc lv (v :: w :: st) σ := by
  subst hp
  intro p l e R s m args below meth c cells slots Q ω hΨ ls H locs hl hP hS
  obtain ⟨hx, hb, hown, hts, hnw, hK, hI, hfr, hlo, hce, hsl⟩ := G p l e R s m args below meth c cells slots Q ω hΨ
  refine lv_dup2_11 hx hb hd (by rw [jco_cat]; exact hv) (by rw [jco_cat]; exact hw) ?_
  exact k p l e R s m args below meth c cells slots Q ω hΨ ls H locs hl hP hS
theorem jr_icmp_eq {x y : Int} {off : Int} {tgt : Nat} (G : jG Ψ B own d) (hd : decode B pc = .ok (.if_icmp .eq off, 3)) (ht : (pc : Int) + off = (tgt : Int)) (hp : pc + 3 = pc') (hx0 : jR x) (hy0 : jR y) (kt : x = y → jV Ψ tgt lv st σ) (kf : ¬ x = y → jV Ψ pc' lv st σ) : jV Ψ pc lv (.int (jI y) :: .int (jI x) :: st) σ := by
  subst hp
  intro p l e R s m args below meth c cells slots Q ω hΨ ls H locs hl hP hS
  obtain ⟨hx, hb, hown, hts, hnw, hK, hI, hfr, hlo, hce, hsl⟩ := G p l e R s m args below meth c cells slots Q ω hΨ
  refine lv_icmp_eq hx hb hd ht (fun q0 => ?_) (fun q0 => ?_)
  · exact kt ((jI_eq hx0 hy0).mp q0) p l e R s m args below meth c cells slots Q ω hΨ ls H locs hl hP hS
  · exact kf (fun q => q0 ((jI_eq hx0 hy0).mpr q)) p l e R s m args below meth c cells slots Q ω hΨ ls H locs hl hP hS
theorem jr_if_eq {x : Int} {off : Int} {tgt : Nat} (G : jG Ψ B own d) (hd : decode B pc = .ok (.ifCond .eq off, 3)) (ht : (pc : Int) + off = (tgt : Int)) (hp : pc + 3 = pc') (hx0 : jR x) (kt : x = 0 → jV Ψ tgt lv st σ) (kf : ¬ x = 0 → jV Ψ pc' lv st σ) : jV Ψ pc lv (.int (jI x) :: st) σ := by
  subst hp
  intro p l e R s m args below meth c cells slots Q ω hΨ ls H locs hl hP hS
  obtain ⟨hx, hb, hown, hts, hnw, hK, hI, hfr, hlo, hce, hsl⟩ := G p l e R s m args below meth c cells slots Q ω hΨ
  refine lv_if_eq hx hb hd ht (fun q0 => ?_) (fun q0 => ?_)
  · exact kt ((jI_eq (x := x) (y := 0) hx0 (⟨by omega, by omega⟩ : jR 0)).mp q0) p l e R s m args below meth c cells slots Q ω hΨ ls H locs hl hP hS
  · exact kf (fun q => q0 ((jI_eq (x := x) (y := 0) hx0 (⟨by omega, by omega⟩ : jR 0)).mpr q)) p l e R s m args below meth c cells slots Q ω hΨ ls H locs hl hP hS
theorem jr_icmp_ne {x y : Int} {off : Int} {tgt : Nat} (G : jG Ψ B own d) (hd : decode B pc = .ok (.if_icmp .ne off, 3)) (ht : (pc : Int) + off = (tgt : Int)) (hp : pc + 3 = pc') (hx0 : jR x) (hy0 : jR y) (kt : ¬ x = y → jV Ψ tgt lv st σ) (kf : x = y → jV Ψ pc' lv st σ) : jV Ψ pc lv (.int (jI y) :: .int (jI x) :: st) σ := by
  subst hp
  intro p l e R s m args below meth c cells slots Q ω hΨ ls H locs hl hP hS
  obtain ⟨hx, hb, hown, hts, hnw, hK, hI, hfr, hlo, hce, hsl⟩ := G p l e R s m args below meth c cells slots Q ω hΨ
  refine lv_icmp_ne hx hb hd ht (fun q0 => ?_) (fun q0 => ?_)
  · exact kt (fun q => q0 ((jI_eq hx0 hy0).mpr q)) p l e R s m args below meth c cells slots Q ω hΨ ls H locs hl hP hS
  · exact kf ((jI_eq hx0 hy0).mp q0) p l e R s m args below meth c cells slots Q ω hΨ ls H locs hl hP hS
theorem jr_if_ne {x : Int} {off : Int} {tgt : Nat} (G : jG Ψ B own d) (hd : decode B pc = .ok (.ifCond .ne off, 3)) (ht : (pc : Int) + off = (tgt : Int)) (hp : pc + 3 = pc') (hx0 : jR x) (kt : ¬ x = 0 → jV Ψ tgt lv st σ) (kf : x = 0 → jV Ψ pc' lv st σ) : jV Ψ pc lv (.int (jI x) :: st) σ := by
  subst hp
  intro p l e R s m args below meth c cells slots Q ω hΨ ls H locs hl hP hS
  obtain ⟨hx, hb, hown, hts, hnw, hK, hI, hfr, hlo, hce, hsl⟩ := G p l e R s m args below meth c cells slots Q ω hΨ
  refine lv_if_ne hx hb hd ht (fun q0 => ?_) (fun q0 => ?_)
  · exact kt (fun q => q0 ((jI_eq (x := x) (y := 0) hx0 (⟨by omega, by omega⟩ : jR 0)).mpr q)) p l e R s m args below meth c cells slots Q ω hΨ ls H locs hl hP hS
  · exact kf ((jI_eq (x := x) (y := 0) hx0 (⟨by omega, by omega⟩ : jR 0)).mp q0) p l e R s m args below meth c cells slots Q ω hΨ ls H locs hl hP hS
theorem jr_icmp_lt {x y : Int} {off : Int} {tgt : Nat} (G : jG Ψ B own d) (hd : decode B pc = .ok (.if_icmp .lt off, 3)) (ht : (pc : Int) + off = (tgt : Int)) (hp : pc + 3 = pc') (hx0 : jR x) (hy0 : jR y) (kt : x < y → jV Ψ tgt lv st σ) (kf : ¬ x < y → jV Ψ pc' lv st σ) : jV Ψ pc lv (.int (jI y) :: .int (jI x) :: st) σ := by
  subst hp
  intro p l e R s m args below meth c cells slots Q ω hΨ ls H locs hl hP hS
  obtain ⟨hx, hb, hown, hts, hnw, hK, hI, hfr, hlo, hce, hsl⟩ := G p l e R s m args below meth c cells slots Q ω hΨ
  refine lv_icmp_lt hx hb hd ht (fun q0 => ?_) (fun q0 => ?_)
  · exact kt ((jI_lt hx0 hy0).mp q0) p l e R s m args below meth c cells slots Q ω hΨ ls H locs hl hP hS
  · exact kf (fun q => q0 ((jI_lt hx0 hy0).mpr q)) p l e R s m args below meth c cells slots Q ω hΨ ls H locs hl hP hS
theorem jr_if_lt {x : Int} {off : Int} {tgt : Nat} (G : jG Ψ B own d) (hd : decode B pc = .ok (.ifCond .lt off, 3)) (ht : (pc : Int) + off = (tgt : Int)) (hp : pc + 3 = pc') (hx0 : jR x) (kt : x < 0 → jV Ψ tgt lv st σ) (kf : ¬ x < 0 → jV Ψ pc' lv st σ) : jV Ψ pc lv (.int (jI x) :: st) σ := by
  subst hp
  intro p l e R s m args below meth c cells slots Q ω hΨ ls H locs hl hP hS
  obtain ⟨hx, hb, hown, hts, hnw, hK, hI, hfr, hlo, hce, hsl⟩ := G p l e R s m args below meth c cells slots Q ω hΨ
  refine lv_if_lt hx hb hd ht (fun q0 => ?_) (fun q0 => ?_)
  · exact kt ((jI_lt (x := x) (y := 0) hx0 (⟨by omega, by omega⟩ : jR 0)).mp q0) p l e R s m args below meth c cells slots Q ω hΨ ls H locs hl hP hS
  · exact kf (fun q => q0 ((jI_lt (x := x) (y := 0) hx0 (⟨by omega, by omega⟩ : jR 0)).mpr q)) p l e R s m args below meth c cells slots Q ω hΨ ls H locs hl hP hS
theorem jr_icmp_le {x y : Int} {off : Int} {tgt : Nat} (G : jG Ψ B own d) (hd : decode B pc = .ok (.if_icmp .le off, 3)) (ht : (pc : Int) + off = (tgt : Int)) (hp : pc + 3 = pc') (hx0 : jR x) (hy0 : jR y) (kt : x ≤ y → jV Ψ tgt lv st σ) (kf : ¬ x ≤ y → jV Ψ pc' lv st σ) : jV Ψ pc lv (.int (jI y) :: .int (jI x) :: st) σ := by
  subst hp
  intro p l e R s m args below meth c cells slots Q ω hΨ ls H locs hl hP hS
  obtain ⟨hx, hb, hown, hts, hnw, hK, hI, hfr, hlo, hce, hsl⟩ := G p l e R s m args below meth c cells slots Q ω hΨ
  refine lv_icmp_le hx hb hd ht (fun q0 => ?_) (fun q0 => ?_)
  · exact kt ((jI_le hx0 hy0).mp q0) p l e R s m args below meth c cells slots Q ω hΨ ls H locs hl hP hS
  · exact kf (fun q => q0 ((jI_le hx0 hy0).mpr q)) p l e R s m args below meth c cells slots Q ω hΨ ls H locs hl hP hS
theorem jr_if_le {x : Int} {off : Int} {tgt : Nat} (G : jG Ψ B own d) (hd : decode B pc = .ok (.ifCond .le off, 3)) (ht : (pc : Int) + off = (tgt : Int)) (hp : pc + 3 = pc') (hx0 : jR x) (kt : x ≤ 0 → jV Ψ tgt lv st σ) (kf : ¬ x ≤ 0 → jV Ψ pc' lv st σ) : jV Ψ pc lv (.int (jI x) :: st) σ := by
  subst hp
  intro p l e R s m args below meth c cells slots Q ω hΨ ls H locs hl hP hS
  obtain ⟨hx, hb, hown, hts, hnw, hK, hI, hfr, hlo, hce, hsl⟩ := G p l e R s m args below meth c cells slots Q ω hΨ
  refine lv_if_le hx hb hd ht (fun q0 => ?_) (fun q0 => ?_)
  · exact kt ((jI_le (x := x) (y := 0) hx0 (⟨by omega, by omega⟩ : jR 0)).mp q0) p l e R s m args below meth c cells slots Q ω hΨ ls H locs hl hP hS
  · exact kf (fun q => q0 ((jI_le (x := x) (y := 0) hx0 (⟨by omega, by omega⟩ : jR 0)).mpr q)) p l e R s m args below meth c cells slots Q ω hΨ ls H locs hl hP hS
theorem jr_icmp_gt {x y : Int} {off : Int} {tgt : Nat} (G : jG Ψ B own d) (hd : decode B pc = .ok (.if_icmp .gt off, 3)) (ht : (pc : Int) + off = (tgt : Int)) (hp : pc + 3 = pc') (hx0 : jR x) (hy0 : jR y) (kt : y < x → jV Ψ tgt lv st σ) (kf : ¬ y < x → jV Ψ pc' lv st σ) : jV Ψ pc lv (.int (jI y) :: .int (jI x) :: st) σ := by
  subst hp
  intro p l e R s m args below meth c cells slots Q ω hΨ ls H locs hl hP hS
  obtain ⟨hx, hb, hown, hts, hnw, hK, hI, hfr, hlo, hce, hsl⟩ := G p l e R s m args below meth c cells slots Q ω hΨ
  refine lv_icmp_gt hx hb hd ht (fun q0 => ?_) (fun q0 => ?_)
  · exact kt ((jI_lt hy0 hx0).mp q0) p l e R s m args below meth c cells slots Q ω hΨ ls H locs hl hP hS
  · exact kf (fun q => q0 ((jI_lt hy0 hx0).mpr q)) p l e R s m args below meth c cells slots Q ω hΨ ls H locs hl hP hS
theorem jr_if_gt {x : Int} {off : Int} {tgt : Nat} (G : jG Ψ B own d) (hd : decode B pc = .ok (.ifCond .gt off, 3)) (ht : (pc : Int) + off = (tgt : Int)) (hp : pc + 3 = pc') (hx0 : jR x) (kt : 0 < x → jV Ψ tgt lv st σ) (kf : ¬ 0 < x → jV Ψ pc' lv st σ) : jV Ψ pc lv (.int (jI x) :: st) σ := by
  subst hp
  intro p l e R s m args below meth c cells slots Q ω hΨ ls H locs hl hP hS
  obtain ⟨hx, hb, hown, hts, hnw, hK, hI, hfr, hlo, hce, hsl⟩ := G p l e R s m args below meth c cells slots Q ω hΨ
  refine lv_if_gt hx hb hd ht (fun q0 => ?_) (fun q0 => ?_)
  · exact kt ((jI_lt (x := 0) (y := x) (⟨by omega, by omega⟩ : jR 0) hx0).mp q0) p l e R s m args below meth c cells slots Q ω hΨ ls H locs hl hP hS
  · exact kf (fun q => q0 ((jI_lt (x := 0) (y := x) (⟨by omega, by omega⟩ : jR 0) hx0).mpr q)) p l e R s m args below meth c cells slots Q ω hΨ ls H locs hl hP hS
theorem jr_icmp_ge {x y : Int} {off : Int} {tgt : Nat} (G : jG Ψ B own d) (hd : decode B pc = .ok (.if_icmp .ge off, 3)) (ht : (pc : Int) + off = (tgt : Int)) (hp : pc + 3 = pc') (hx0 : jR x) (hy0 : jR y) (kt : y ≤ x → jV Ψ tgt lv st σ) (kf : ¬ y ≤ x → jV Ψ pc' lv st σ) : jV Ψ pc lv (.int (jI y) :: .int (jI x) :: st) σ := by
  subst hp
  intro p l e R s m args below meth c cells slots Q ω hΨ ls H locs hl hP hS
  obtain ⟨hx, hb, hown, hts, hnw, hK, hI, hfr, hlo, hce, hsl⟩ := G p l e R s m args below meth c cells slots Q ω hΨ
  refine lv_icmp_ge hx hb hd ht (fun q0 => ?_) (fun q0 => ?_)
  · exact kt ((jI_le hy0 hx0).mp q0) p l e R s m args below meth c cells slots Q ω hΨ ls H locs hl hP hS
  · exact kf (fun q => q0 ((jI_le hy0 hx0).mpr q)) p l e R s m args below meth c cells slots Q ω hΨ ls H locs hl hP hS
theorem jr_if_ge {x : Int} {off : Int} {tgt : Nat} (G : jG Ψ B own d) (hd : decode B pc = .ok (.ifCond .ge off, 3)) (ht : (pc : Int) + off = (tgt : Int)) (hp : pc + 3 = pc') (hx0 : jR x) (kt : 0 ≤ x → jV Ψ tgt lv st σ) (kf : ¬ 0 ≤ x → jV Ψ pc' lv st σ) : jV Ψ pc lv (.int (jI x) :: st) σ := by
  subst hp
  intro p l e R s m args below meth c cells slots Q ω hΨ ls H locs hl hP hS
  obtain ⟨hx, hb, hown, hts, hnw, hK, hI, hfr, hlo, hce, hsl⟩ := G p l e R s m args below meth c cells slots Q ω hΨ
  refine lv_if_ge hx hb hd ht (fun q0 => ?_) (fun q0 => ?_)
  · exact kt ((jI_le (x := 0) (y := x) (⟨by omega, by omega⟩ : jR 0) hx0).mp q0) p l e R s m args below meth c cells slots Q ω hΨ ls H locs hl hP hS
  · exact kf (fun q => q0 ((jI_le (x := 0) (y := x) (⟨by omega, by omega⟩ : jR 0) hx0).mpr q)) p l e R s m args below meth c cells slots Q ω hΨ ls H locs hl hP hS
theorem jr_goto {off : Int} {tgt : Nat} (G : jG Ψ B own d) (hd : decode B pc = .ok (.goto off, 3)) (ht : (pc : Int) + off = (tgt : Int)) (k : jV Ψ tgt lv st σ) : jV Ψ pc lv st σ := by
  intro p l e R s m args below meth c cells slots Q ω hΨ ls H locs hl hP hS
  obtain ⟨hx, hb, hown, hts, hnw, hK, hI, hfr, hlo, hce, hsl⟩ := G p l e R s m args below meth c cells slots Q ω hΨ
  refine lv_goto hx hb hd ht ?_
  exact k p l e R s m args below meth c cells slots Q ω hΨ ls H locs hl hP hS
theorem jr_tabIn {dflt lo hi : Int} {offs : Array Int} {len : Nat} {x : Int} {off : Int} {tgt : Nat} (G : jG Ψ B own d) (hd : decode B pc = .ok (.tableswitch dflt lo hi offs, len)) (hx0 : jR x) (h1 : lo ≤ x) (h2 : x ≤ hi) (ho : offs[(x - lo).toNat]? = some off) (ht : (pc : Int) + off = (tgt : Int)) (k : jV Ψ tgt lv st σ) : jV Ψ pc lv (.int (jI x) :: st) σ := by
  intro p l e R s m args below meth c cells slots Q ω hΨ ls H locs hl hP hS
  obtain ⟨hx, hb, hown, hts, hnw, hK, hI, hfr, hlo, hce, hsl⟩ := G p l e R s m args below meth c cells slots Q ω hΨ
  refine lv_tableIn hx hb hd (x := jI x) (by rw [jI_to hx0]; omega) (by rw [jI_to hx0]; omega) (by rw [jI_to hx0]; exact ho) ht ?_
  exact k p l e R s m args below meth c cells slots Q ω hΨ ls H locs hl hP hS
theorem jr_tabOut {dflt lo hi : Int} {offs : Array Int} {len : Nat} {x : Int} {tgt : Nat} (G : jG Ψ B own d) (hd : decode B pc = .ok (.tableswitch dflt lo hi offs, len)) (hx0 : jR x) (h1 : x < lo ∨ hi < x) (ht : (pc : Int) + dflt = (tgt : Int)) (k : jV Ψ tgt lv st σ) : jV Ψ pc lv (.int (jI x) :: st) σ := by
  intro p l e R s m args below meth c cells slots Q ω hΨ ls H locs hl hP hS
  obtain ⟨hx, hb, hown, hts, hnw, hK, hI, hfr, hlo, hce, hsl⟩ := G p l e R s m args below meth c cells slots Q ω hΨ
  refine lv_tableOut hx hb hd (x := jI x) (by rw [jI_to hx0]; exact h1) ht ?_
  exact k p l e R s m args below meth c cells slots Q ω hΨ ls H locs hl hP hS
end jRows
