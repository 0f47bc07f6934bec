/-! ===== bonds as a list, and as a table ===== -/
/-- the bond k is of u and v -/
abbrev smP (ba bb : Nat → Nat) (k u v : Nat) : Prop := (ba k = u ∧ bb k = v) ∨ (ba k = v ∧ bb k = u)
def bdL (ba bb : Nat → Nat) (bm : Nat → Int) : Nat → Nat → Nat → Int
  | 0, _, _ => 0
  | m + 1, u, v => if (ba m = u ∧ bb m = v) ∨ (ba m = v ∧ bb m = u) then 2 - bm m else bdL ba bb bm m u v
def BL (n m : Nat) (ba bb : Nat → Nat) (bm : Nat → Int) : Prop := m ≤ 60 ∧ (∀ k, k < m → ba k < n ∧ bb k < n ∧ ba k ≠ bb k ∧ (bm k = 0 ∨ bm k = 1)) ∧ ∀ j k, j < k → k < m → ¬ ((ba j = ba k ∧ bb j = bb k) ∨ (ba j = bb k ∧ bb j = ba k))
section jBl
variable {n m : Nat} {ba bb : Nat → Nat} {bm : Nat → Int}
theorem BL.pre (h : BL n m ba bb bm) {i : Nat} (hi : i ≤ m) : BL n i ba bb bm := ⟨by have := h.1; omega, fun k hk => h.2.1 k (by omega), fun j k h1 h2 => h.2.2 j k h1 (by omega)⟩
theorem bdL_none : ∀ {m u v : Nat}, (∀ k, k < m → ¬ smP ba bb k u v) → bdL ba bb bm m u v = 0 := by
  intro m
  induction m with
  | zero => intro u v _; rfl
  | succ m ih =>
    intro u v h
    simp only [bdL]
    rw [if_neg (h m (by omega))]
    exact ih (fun k hk => h k (by omega))
theorem bdL_at (h : BL n m ba bb bm) {k u v : Nat} (hk : k < m) (hs : smP ba bb k u v) : bdL ba bb bm m u v = 2 - bm k := by
  induction m with
  | zero => omega
  | succ m ih =>
    simp only [bdL]
    by_cases e : k = m
    · subst e
      rw [if_pos hs]
    · have : ¬ ((ba m = u ∧ bb m = v) ∨ (ba m = v ∧ bb m = u)) := by
        intro q
        refine h.2.2 k m (by omega) (by omega) ?_
        unfold smP at hs
        omega
      rw [if_neg this]
      exact ih (h.pre (by omega)) (by omega)
theorem bdL_cases (h : BL n m ba bb bm) (u v : Nat) : (bdL ba bb bm m u v = 0 ∧ ∀ k, k < m → ¬ smP ba bb k u v) ∨ ∃ k, k < m ∧ smP ba bb k u v ∧ bdL ba bb bm m u v = 2 - bm k := by
  by_cases e : ∃ k, k < m ∧ smP ba bb k u v
  · obtain ⟨k, h1, h2⟩ := e
    exact Or.inr ⟨k, h1, h2, bdL_at h h1 h2⟩
  · have : ∀ k, k < m → ¬ smP ba bb k u v := fun k hk q => e ⟨k, hk, q⟩
    exact Or.inl ⟨bdL_none this, this⟩
theorem bdL_ok (h : BL n m ba bb bm) : bdOk n (bdL ba bb bm m) m := by
  refine ⟨fun u v => ?_, fun u v => ?_, fun u => ?_, fun u v q => ?_, h.1⟩
  · rcases bdL_cases h u v with ⟨e, -⟩ | ⟨k, h1, h2, e⟩
    · exact Or.inl e
    · have := (h.2.1 k h1).2.2.2
      omega
  · rcases bdL_cases h u v with ⟨e, q⟩ | ⟨k, h1, h2, e⟩
    · rw [e, bdL_none (fun k hk z => q k hk (by unfold smP at z ⊢; omega))]
    · rw [e, bdL_at h h1 (by unfold smP at h2 ⊢; omega)]
  · refine bdL_none (fun k hk z => ?_)
    have := h.2.1 k hk
    unfold smP at z
    omega
  · rcases bdL_cases h u v with ⟨e, -⟩ | ⟨k, h1, h2, e⟩
    · exact absurd e q
    · have := h.2.1 k h1
      unfold smP at h2
      omega
/-- a table that says of each two what the list says -/
theorem bdL_eq {f : Nat → Nat → Int} (h : BL n m ba bb bm) (hf : ∀ u v, (∃ k, k < m ∧ smP ba bb k u v ∧ f u v = 2 - bm k) ∨ ((∀ k, k < m → ¬ smP ba bb k u v) ∧ f u v = 0)) : bdL ba bb bm m = f := by
  funext u v
  rcases hf u v with ⟨k, h1, h2, e⟩ | ⟨q, e⟩
  · rw [e, bdL_at h h1 h2]
  · rw [e, bdL_none q]
/-- a new bond -/
theorem BL_new (h : BL n m ba bb bm) {a b : Nat} {x : Int} (ha : a < n) (hb : b < n) (hab : a ≠ b) (hx : x = 0 ∨ x = 1) (hm : m < 60) (h0 : bdL ba bb bm m a b = 0) : BL n (m + 1) (jset ba m a) (jset bb m b) (jset bm m x) ∧ bdL (jset ba m a) (jset bb m b) (jset bm m x) (m + 1) = bdS (bdL ba bb bm m) a b (2 - x) := by
  have hno : ∀ k, k < m → ¬ smP ba bb k a b := by
    rcases bdL_cases h a b with ⟨-, q⟩ | ⟨k, h1, h2, e⟩
    · exact q
    · have := (h.2.1 k h1).2.2.2
      omega
  have hBL : BL n (m + 1) (jset ba m a) (jset bb m b) (jset bm m x) := by
    refine ⟨by omega, fun k hk => ?_, fun j k hj hk => ?_⟩
    · by_cases e : k = m
      · subst e
        rw [jset_at, jset_at, jset_at]
        exact ⟨ha, hb, hab, hx⟩
      · rw [jset_ne e, jset_ne e, jset_ne e]
        exact h.2.1 k (by omega)
    · by_cases e : k = m
      · subst e
        rw [jset_at, jset_at, jset_ne (by omega), jset_ne (by omega)]
        have := hno j hj
        unfold smP at this
        omega
      · rw [jset_ne e, jset_ne e, jset_ne (by omega), jset_ne (by omega)]
        exact h.2.2 j k hj (by omega)
  refine ⟨hBL, bdL_eq hBL (fun u v => ?_)⟩
  unfold bdS
  by_cases e : (u = a ∧ v = b) ∨ (u = b ∧ v = a)
  · rw [if_pos e]
    refine Or.inl ⟨m, by omega, ?_, by rw [jset_at]⟩
    unfold smP
    rw [jset_at, jset_at]
    omega
  · rw [if_neg e]
    rcases bdL_cases h u v with ⟨e2, q⟩ | ⟨k, h1, h2, e2⟩
    · refine Or.inr ⟨fun k hk z => ?_, e2⟩
      unfold smP at z
      by_cases ek : k = m
      · subst ek
        rw [jset_at, jset_at] at z
        omega
      · rw [jset_ne ek, jset_ne ek] at z
        exact q k (by omega) z
    · refine Or.inl ⟨k, by omega, ?_, by rw [jset_ne (by omega)]; exact e2⟩
      unfold smP at h2 ⊢
      rw [jset_ne (by omega), jset_ne (by omega)]
      exact h2
/-- a bond in place of one of these two -/
theorem BL_put (h : BL n m ba bb bm) {a b k : Nat} {x : Int} (hk : k < m) (hs : smP ba bb k a b) (hx : x = 0 ∨ x = 1) : BL n m (jset ba k a) (jset bb k b) (jset bm k x) ∧ bdL (jset ba k a) (jset bb k b) (jset bm k x) m = bdS (bdL ba bb bm m) a b (2 - x) := by
  have hk1 := h.2.1 k hk
  have hss := hs
  unfold smP at hs
  have hsm : ∀ j u v, j < m → (smP (jset ba k a) (jset bb k b) j u v ↔ smP ba bb j u v) := by
    intro j u v hj
    unfold smP
    by_cases e : j = k
    · subst e
      rw [jset_at, jset_at]
      omega
    · rw [jset_ne e, jset_ne e]
  have hBL : BL n m (jset ba k a) (jset bb k b) (jset bm k x) := by
    refine ⟨h.1, fun j hj => ?_, fun i j hi hj => ?_⟩
    · by_cases e : j = k
      · subst e
        rw [jset_at, jset_at, jset_at]
        omega
      · rw [jset_ne e, jset_ne e, jset_ne e]
        exact h.2.1 j hj
    · have := h.2.2 i j hi hj
      by_cases e : j = k
      · subst e
        rw [jset_at, jset_at, jset_ne (by omega), jset_ne (by omega)]
        omega
      · rw [jset_ne e, jset_ne e]
        by_cases e2 : i = k
        · subst e2
          rw [jset_at, jset_at]
          omega
        · rw [jset_ne e2, jset_ne e2]
          exact this
  refine ⟨hBL, bdL_eq hBL (fun u v => ?_)⟩
  unfold bdS
  by_cases e : (u = a ∧ v = b) ∨ (u = b ∧ v = a)
  · rw [if_pos e]
    refine Or.inl ⟨k, hk, ?_, by rw [jset_at]⟩
    unfold smP
    rw [jset_at, jset_at]
    omega
  · rw [if_neg e]
    rcases bdL_cases h u v with ⟨e2, q⟩ | ⟨j, h1, h2, e2⟩
    · exact Or.inr ⟨fun j hj z => q j hj ((hsm j u v hj).mp z), e2⟩
    · refine Or.inl ⟨j, h1, (hsm j u v h1).mpr h2, ?_⟩
      have : j ≠ k := by
        intro ej
        subst ej
        unfold smP at h2
        omega
      rw [jset_ne this]
      exact e2
/-- a bond goes: the last one takes its place -/
theorem BL_free (h : BL n m ba bb bm) {a b k : Nat} (hk : k < m) (hs : smP ba bb k a b) : BL n (m - 1) (jset ba k (ba (m - 1))) (jset bb k (bb (m - 1))) (jset bm k (bm (m - 1))) ∧ bdL (jset ba k (ba (m - 1))) (jset bb k (bb (m - 1))) (jset bm k (bm (m - 1))) (m - 1) = bdS (bdL ba bb bm m) a b 0 := by
  have hk1 := h.2.1 k hk
  have hBL : BL n (m - 1) (jset ba k (ba (m - 1))) (jset bb k (bb (m - 1))) (jset bm k (bm (m - 1))) := by
    refine ⟨by have := h.1; omega, fun j hj => ?_, fun i j hi hj => ?_⟩
    · by_cases e : j = k
      · subst e
        rw [jset_at, jset_at, jset_at]
        exact h.2.1 (m - 1) (by omega)
      · rw [jset_ne e, jset_ne e, jset_ne e]
        exact h.2.1 j (by omega)
    · by_cases e : j = k
      · subst e
        rw [jset_at, jset_at, jset_ne (by omega), jset_ne (by omega)]
        exact h.2.2 i (m - 1) (by omega) (by omega)
      · rw [jset_ne e, jset_ne e]
        by_cases e2 : i = k
        · subst e2
          rw [jset_at, jset_at]
          have := h.2.2 j (m - 1) (by omega) (by omega)
          omega
        · rw [jset_ne e2, jset_ne e2]
          exact h.2.2 i j hi (by omega)
  refine ⟨hBL, bdL_eq hBL (fun u v => ?_)⟩
  unfold bdS
  by_cases e : (u = a ∧ v = b) ∨ (u = b ∧ v = a)
  · rw [if_pos e]
    refine Or.inr ⟨fun j hj z => ?_, rfl⟩
    unfold smP at z hs
    by_cases ej : j = k
    · subst ej
      rw [jset_at, jset_at] at z
      have := h.2.2 j (m - 1) (by omega) (by omega)
      omega
    · rw [jset_ne ej, jset_ne ej] at z
      rcases Nat.lt_or_ge j k with q | q
      · have := h.2.2 j k q hk
        omega
      · have := h.2.2 k j (by omega) (by omega)
        omega
  · rw [if_neg e]
    rcases bdL_cases h u v with ⟨e2, q⟩ | ⟨j, h1, h2, e2⟩
    · refine Or.inr ⟨fun j hj z => ?_, e2⟩
      unfold smP at z
      by_cases ej : j = k
      · subst ej
        rw [jset_at, jset_at] at z
        exact q (m - 1) (by omega) z
      · rw [jset_ne ej, jset_ne ej] at z
        exact q j (by omega) z
    · have hjk : j ≠ k := by
        intro ej
        subst ej
        unfold smP at h2 hs
        omega
      by_cases ej : j = m - 1
      · subst ej
        refine Or.inl ⟨k, by omega, ?_, by rw [jset_at]; exact e2⟩
        unfold smP at h2 ⊢
        rw [jset_at, jset_at]
        exact h2
      · refine Or.inl ⟨j, by omega, ?_, by rw [jset_ne hjk]; exact e2⟩
        unfold smP at h2 ⊢
        rw [jset_ne hjk, jset_ne hjk]
        exact h2
theorem BL_two (h : BL n m ba bb bm) {a b : Nat} (h0 : bdL ba bb bm m a b ≠ 0) (h1 : ∃ u v, bdS (bdL ba bb bm m) a b 0 u v ≠ 0) : 2 ≤ m := by
  obtain ⟨u, v, q⟩ := h1
  unfold bdS at q
  split at q
  · exact absurd rfl q
  next hne =>
    rcases bdL_cases h a b with ⟨e, -⟩ | ⟨k, k1, k2, -⟩
    · exact absurd e h0
    · rcases bdL_cases h u v with ⟨e, -⟩ | ⟨j, j1, j2, -⟩
      · exact absurd e q
      · have : j ≠ k := by
          intro e
          subst e
          unfold smP at k2 j2
          omega
        omega
/-- the bond k, of the kind t, of u and another one for which c holds -/
def tcF (ba bb : Nat → Nat) (bm : Nat → Int) (k u : Nat) (t : Int) (c : Nat → Bool) : Nat := if (ba k = u ∧ 2 - bm k = t ∧ c (bb k) = true) ∨ (bb k = u ∧ 2 - bm k = t ∧ c (ba k) = true) then 1 else 0
theorem jn_bdK (h : BL n (m + 1) ba bb bm) {u o : Nat} {t : Int} (ht : t ≠ 0) (c : Nat → Bool) (ho : smP ba bb m u o) (ho4 : o < 40) : jn (fun v => decide (bdL ba bb bm (m + 1) u v = t) && c v) 40 = jn (fun v => decide (bdL ba bb bm m u v = t) && c v) 40 + (if 2 - bm m = t ∧ c o = true then 1 else 0) := by
  have h0 : bdL ba bb bm m u o = 0 := bdL_none (fun k hk z => h.2.2 k m hk (by omega) (by omega))
  have h1 : bdL ba bb bm (m + 1) u o = 2 - bm m := if_pos ho
  have h2 : ∀ v, v ≠ o → bdL ba bb bm (m + 1) u v = bdL ba bb bm m u v := fun v hv => if_neg (by omega)
  have ht2 : ¬ (0 : Int) = t := fun q => ht q.symm
  generalize bdL ba bb bm (m + 1) u = f1 at *
  generalize bdL ba bb bm m u = f0 at *
  by_cases e : 2 - bm m = t ∧ c o = true
  · rw [if_pos e]
    refine jn_plus (m := o) ho4 ?_ ?_ (fun i _ hi => ?_)
    · show (decide (f0 o = t) && c o) = false
      rw [h0, decide_eq_false ht2, Bool.false_and]
    · show (decide (f1 o = t) && c o) = true
      rw [h1, e.2, decide_eq_true e.1]
      rfl
    · show (decide (f1 i = t) && c i) = (decide (f0 i = t) && c i)
      rw [h2 i hi]
  · rw [if_neg e, Nat.add_zero]
    refine jn_congr (fun i _ => ?_)
    show (decide (f1 i = t) && c i) = (decide (f0 i = t) && c i)
    by_cases ei : i = o
    · subst ei
      rw [h0, h1, decide_eq_false ht2, Bool.false_and]
      by_cases b1 : 2 - bm m = t
      · have b2 : c i = false := by
          by_cases b3 : c i = true
          · exact absurd ⟨b1, b3⟩ e
          · simpa using b3
        rw [b2, Bool.and_false]
      · rw [decide_eq_false b1, Bool.false_and]
    · rw [h2 i ei]
theorem jn_bdL (h : BL n (m + 1) ba bb bm) (hn : n ≤ 40) {u : Nat} {t : Int} (ht : t ≠ 0) (c : Nat → Bool) : jn (fun v => decide (bdL ba bb bm (m + 1) u v = t) && c v) 40 = jn (fun v => decide (bdL ba bb bm m u v = t) && c v) 40 + tcF ba bb bm m u t c := by
  have hm := h.2.1 m (by omega)
  unfold tcF
  by_cases ea : ba m = u
  · rw [jn_bdK h ht c (o := bb m) (Or.inl ⟨ea, rfl⟩) (by omega)]
    have : (2 - bm m = t ∧ c (bb m) = true) ↔ ((ba m = u ∧ 2 - bm m = t ∧ c (bb m) = true) ∨ (bb m = u ∧ 2 - bm m = t ∧ c (ba m) = true)) := by
      constructor
      · intro q
        exact Or.inl ⟨ea, q⟩
      · rintro (q | q)
        · exact q.2
        · omega
    rw [ite_congr (propext this) (fun _ => rfl) (fun _ => rfl)]
  · by_cases eb : bb m = u
    · rw [jn_bdK h ht c (o := ba m) (Or.inr ⟨rfl, eb⟩) (by omega)]
      have : (2 - bm m = t ∧ c (ba m) = true) ↔ ((ba m = u ∧ 2 - bm m = t ∧ c (bb m) = true) ∨ (bb m = u ∧ 2 - bm m = t ∧ c (ba m) = true)) := by
        constructor
        · intro q
          exact Or.inr ⟨eb, q⟩
        · rintro (q | q)
          · exact absurd q.1 ea
          · exact q.2
      rw [ite_congr (propext this) (fun _ => rfl) (fun _ => rfl)]
    · have e : ∀ i, bdL ba bb bm (m + 1) u i = bdL ba bb bm m u i := fun i => if_neg (by omega)
      simp only [e]
      rw [if_neg (fun q => by omega), Nat.add_zero]
theorem jn_bd0 {u : Nat} {t : Int} (ht : t ≠ 0) (c : Nat → Bool) : jn (fun v => decide (bdL ba bb bm 0 u v = t) && c v) 40 = 0 := jn_zero.mpr (fun v _ => by
  have : ¬ (0 : Int) = t := fun q => ht q.symm
  simp [bdL, this])
/-- breaks, one bond more -/
def bkT (ba bb : Nat → Nat) (bm : Nat → Int) (hp : Nat → Int) (k u : Nat) (h : Int) : Prop := (ba k = u ∧ hp (bb k) ≠ -1 ∧ ((bm k = 1 ∧ hp (bb k) ≠ h) ∨ (bm k = 0 ∧ hp (bb k) = h))) ∨ (bb k = u ∧ hp (ba k) ≠ -1 ∧ ((bm k = 1 ∧ hp (ba k) ≠ h) ∨ (bm k = 0 ∧ hp (ba k) = h)))
theorem bkF_s (h : BL n (m + 1) ba bb bm) (hn : n ≤ 40) {hp : Nat → Int} {u : Nat} {x : Int} (hx : x ≠ -1) : (bkT ba bb bm hp m u x → bkF (bdL ba bb bm (m + 1)) hp u x = bkF (bdL ba bb bm m) hp u x + 1) ∧ (¬ bkT ba bb bm hp m u x → bkF (bdL ba bb bm (m + 1)) hp u x = bkF (bdL ba bb bm m) hp u x) := by
  have hm := h.2.1 m (by omega)
  have e1 := jn_bdL h hn (u := u) (t := 1) (by decide) (fun v => decide (hp v ≠ -1) && !decide (hp v = x))
  have e2 := jn_bdL h hn (u := u) (t := 2) (by decide) (fun v => decide (hp v = x))
  have e3 : bkF (bdL ba bb bm (m + 1)) hp u x = bkF (bdL ba bb bm m) hp u x + (tcF ba bb bm m u 1 (fun v => decide (hp v ≠ -1) && !decide (hp v = x)) + tcF ba bb bm m u 2 (fun v => decide (hp v = x))) := by
    unfold bkF
    have a1 : ∀ b : Nat → Nat → Int, jn (fun v => decide (b u v = 1) && decide (hp v ≠ -1) && !decide (hp v = x)) 40 = jn (fun v => decide (b u v = 1) && (decide (hp v ≠ -1) && !decide (hp v = x))) 40 := fun b => jn_congr (fun v _ => by rw [Bool.and_assoc])
    rw [a1, a1, e1, e2]
    omega
  rw [e3]
  unfold tcF bkT
  simp only [Bool.and_eq_true, decide_eq_true_eq, Bool.not_eq_true', decide_eq_false_iff_not]
  constructor
  · intro q
    rcases hm.2.2.2 with z | z
    · rw [if_neg (by omega), if_pos (by omega)]
    · rw [if_pos (by omega), if_neg (by omega)]
  · intro q
    rw [if_neg (by omega), if_neg (by omega)]
    omega
theorem bkF_0 {hp : Nat → Int} {u : Nat} {x : Int} : bkF (bdL ba bb bm 0) hp u x = 0 := by
  unfold bkF
  rw [jn_bd0 (by decide)]
  rw [show jn (fun v => decide (bdL ba bb bm 0 u v = 1) && decide (hp v ≠ -1) && !decide (hp v = x)) 40 = jn (fun v => decide (bdL ba bb bm 0 u v = 1) && (decide (hp v ≠ -1) && !decide (hp v = x))) 40 from jn_congr (fun v _ => by rw [Bool.and_assoc]), jn_bd0 (by decide)]
end jBl
