/-! ===== the reference: codes of matchings, and the same ways by their order ===== -/
/-- the digit of a code of p digits at the place i -/
def dg (s p c i : Nat) : Nat := c / (s + 1) ^ (p - 1 - i) % (s + 1)
theorem dg_lt (s p c i : Nat) : dg s p c i ≤ s := Nat.le_of_lt_succ (Nat.mod_lt _ (by omega))
theorem dg_last {s p c t : Nat} (ht : t ≤ s) : dg s (p + 1) (c * (s + 1) + t) p = t := by
  unfold dg
  rw [show p + 1 - 1 - p = 0 by omega, Nat.pow_zero, Nat.div_one, Nat.mul_comm, Nat.mul_add_mod, Nat.mod_eq_of_lt (by omega)]
theorem dg_block {s p c k r i : Nat} (hr : r < (s + 1) ^ k) (hi : i < p) : dg s (p + k) (c * (s + 1) ^ k + r) i = dg s p c i := by
  unfold dg
  rw [show p + k - 1 - i = k + (p - 1 - i) by omega, Nat.pow_add, ← Nat.div_div_eq_div_mul]
  have : (c * (s + 1) ^ k + r) / (s + 1) ^ k = c := by
    rw [Nat.mul_comm, Nat.mul_add_div (by omega), Nat.div_eq_of_lt hr, Nat.add_zero]
  rw [this]
theorem dg_pre {s p c t i : Nat} (ht : t ≤ s) (hi : i < p) : dg s (p + 1) (c * (s + 1) + t) i = dg s p c i := by
  have := dg_block (s := s) (p := p) (c := c) (k := 1) (r := t) (i := i) (by rw [Nat.pow_one]; omega) hi
  rw [Nat.pow_one] at this
  exact this
theorem vfo_add {f : Nat → vAcc → vAcc} {a : vAcc} (m l : Nat) : vfo f (m + l) a = vfo (fun i => f (m + i)) l (vfo f m a) := by
  induction l with
  | zero => rfl
  | succ l ih =>
    show f (m + l) (vfo f (m + l) a) = f (m + l) (vfo (fun i => f (m + i)) l (vfo f m a))
    rw [ih]
theorem vfo_block {f : Nat → vAcc → vAcc} {a : vAcc} (L m : Nat) : vfo f (m * L) a = vfo (fun t a => vfo (fun i => f (t * L + i)) L a) m a := by
  induction m with
  | zero => rw [Nat.zero_mul]; rfl
  | succ m ih =>
    rw [Nat.succ_mul, vfo_add, ih]
    rfl
theorem vfo_rel {R : vAcc → vAcc → Prop} {f g : Nat → vAcc → vAcc} {m : Nat} {a b : vAcc} (h0 : R a b) (h : ∀ t, t < m → ∀ a b, R a b → R (f t a) (g t b)) : R (vfo f m a) (vfo g m b) := by
  induction m with
  | zero => exact h0
  | succ m ih => exact h m (by omega) _ _ (ih (fun t ht => h t (by omega)))
def cvS (s d : Nat) : Int := if d = s then -1 else (d : Int)
def smF (s : Nat) (dist : Nat → Nat → Int) (D : Nat → Nat) (g : Nat) : Int := js (fun i => if D i = s then 0 else dist i (D i)) g
def myF (s : Nat) (D : Nat → Nat) (g : Nat) : Nat := jn (fun i => decide (D i ≠ s)) g
abbrev ndD (s : Nat) (D : Nat → Nat) (g : Nat) : Prop := ∀ j, j < g → ∀ i, i < j → D i = D j → D i = s
def mvF (s : Nat) (dist : Nat → Nat → Int) (g code : Nat) (acc : vAcc) : vAcc := if (∀ j, j < g → ∀ i, i < j → dg s g code i = dg s g code j → dg s g code i = s) ∧ myF s (dg s g code) g = min g s ∧ smF s dist (dg s g code) g < acc.1 then (smF s dist (dg s g code) g, fun i => cvS s (dg s g code i)) else acc
def vR (g : Nat) (a b : vAcc) : Prop := a.1 = b.1 ∧ a.1 ≤ 1000000000 ∧ (a.1 = 1000000000 ∨ ∀ i, i < g → a.2 i = b.2 i)
theorem myF_le {s : Nat} {D : Nat → Nat} {g : Nat} : myF s D g ≤ g := jn_le _ _
theorem myF_succ {s : Nat} {D : Nat → Nat} {g : Nat} : myF s D (g + 1) = myF s D g + (if D g ≠ s then 1 else 0) := by
  show jn _ g + (if decide (D g ≠ s) = true then 1 else 0) = jn _ g + _
  congr 1
  exact ite_congr (propext decide_eq_true_iff) (fun _ => rfl) (fun _ => rfl)
theorem myF_congr {s : Nat} {D E : Nat → Nat} {g : Nat} (h : ∀ i, i < g → D i = E i) : myF s D g = myF s E g := jn_congr (fun i hi => by rw [h i hi])
theorem myF_add {s : Nat} {D : Nat → Nat} {g k : Nat} : myF s D (g + k) ≤ myF s D g + k := by
  induction k with
  | zero => exact Nat.le_refl _
  | succ k ih =>
    rw [← Nat.add_assoc, myF_succ]
    split <;> omega
theorem smF_congr {s : Nat} {dist : Nat → Nat → Int} {D E : Nat → Nat} {g : Nat} (h : ∀ i, i < g → D i = E i) : smF s dist D g = smF s dist E g := js_congr (fun i hi => by rw [h i hi])
/-- a bad beginning: all its codes leave all as it was -/
theorem mvF_bad {s : Nat} {dist : Nat → Nat → Int} {p k c r : Nat} {acc : vAcc} (hr : r < (s + 1) ^ k) (h : ¬ ndD s (dg s p c) p ∨ (p + k - s) + myF s (dg s p c) p < p) : mvF s dist (p + k) (c * (s + 1) ^ k + r) acc = acc := by
  unfold mvF
  refine if_neg ?_
  rintro ⟨h1, h2, -⟩
  rcases h with h | h
  · refine h (fun j hj i hi e => ?_)
    have := h1 j (by omega) i hi
    rw [dg_block hr (by omega), dg_block hr hj] at this
    exact this e
  · have e1 := myF_add (s := s) (D := dg s (p + k) (c * (s + 1) ^ k + r)) (g := p) (k := k)
    have e2 : myF s (dg s (p + k) (c * (s + 1) ^ k + r)) p = myF s (dg s p c) p := myF_congr (fun i hi => dg_block hr hi)
    omega
theorem vtF_blk {s g : Nat} {dist : Nat → Nat → Int} : ∀ (k p c spare : Nat) (tk : Nat → Bool) (sum : Int) (asg : Nat → Int) (acc acc' : vAcc), p + k = g → ndD s (dg s p c) p → (∀ t, t < s → (tk t = true ↔ ∃ i, i < p ∧ dg s p c i = t)) → jn tk s = myF s (dg s p c) p → spare + p = (g - s) + myF s (dg s p c) p → sum = smF s dist (dg s p c) p → (∀ i, i < p → asg i = cvS s (dg s p c i)) → vR g acc acc' → vR g (vfo (fun r => mvF s dist g (c * (s + 1) ^ k + r)) ((s + 1) ^ k) acc) (vtF s dist k p spare tk sum asg acc') := by
  intro k
  induction k with
  | zero =>
    intro p c spare tk sum asg acc acc' hp hnd htk hmy hsp hsum hasg hR
    have ep : p = g := by omega
    subst ep
    have hle := jn_le tk s
    have hle2 := myF_le (s := s) (D := dg s p c) (g := p)
    rw [Nat.pow_zero]
    show vR p (mvF s dist p (c * 1 + 0) acc) (if sum < acc'.1 then (sum, asg) else acc')
    rw [Nat.mul_one, Nat.add_zero]
    unfold mvF
    obtain ⟨r1, r2, r3⟩ := hR
    by_cases z : sum < acc'.1
    · rw [if_pos z, if_pos ⟨hnd, by omega, by rw [← hsum, r1]; exact z⟩]
      exact ⟨hsum.symm, by show smF s dist (dg s p c) p ≤ _; omega, Or.inr (fun i hi => (hasg i hi).symm)⟩
    · rw [if_neg z, if_neg (fun q => z (by rw [hsum, ← r1]; exact q.2.2))]
      exact ⟨r1, r2, r3⟩
  | succ k ih =>
    intro p c spare tk sum asg acc acc' hp hnd htk hmy hsp hsum hasg hR
    have e1 : (s + 1) ^ (k + 1) = (s + 1) * (s + 1) ^ k := by rw [Nat.pow_succ, Nat.mul_comm]
    have hcode : ∀ t i, c * (s + 1) ^ (k + 1) + (t * (s + 1) ^ k + i) = (c * (s + 1) + t) * (s + 1) ^ k + i := fun t i => by
      rw [e1, ← Nat.mul_assoc, Nat.add_mul (c * (s + 1)) t, Nat.add_assoc]
    rw [show vfo (fun r => mvF s dist g (c * (s + 1) ^ (k + 1) + r)) ((s + 1) ^ (k + 1)) acc = vfo (fun t a => vfo (fun i => mvF s dist g ((c * (s + 1) + t) * (s + 1) ^ k + i)) ((s + 1) ^ k) a) (s + 1) acc by
      rw [e1, vfo_block]
      simp only [← e1, hcode]]
    have hmyt : ∀ t, t ≤ s → myF s (dg s (p + 1) (c * (s + 1) + t)) (p + 1) = myF s (dg s p c) p + (if t ≠ s then 1 else 0) := fun t ht => by
      rw [myF_succ, dg_last ht, myF_congr (fun i hi => dg_pre ht hi)]
    -- the senses
    have sens : vR g (vfo (fun t a => vfo (fun i => mvF s dist g ((c * (s + 1) + t) * (s + 1) ^ k + i)) ((s + 1) ^ k) a) s acc) (vfo (fun t a => if tk t = true then a else vtF s dist k (p + 1) spare (fun i => tk i || decide (i = t)) (sum + dist p t) (jset asg p (t : Int)) a) s acc') := by
      refine vfo_rel hR (fun t ht a b hab => ?_)
      by_cases z : tk t = true
      · rw [if_pos z]
        rw [show vfo (fun i => mvF s dist g ((c * (s + 1) + t) * (s + 1) ^ k + i)) ((s + 1) ^ k) a = a from vfo_same (fun r hr => by
          rw [show g = p + 1 + k by omega]
          refine mvF_bad hr (Or.inl (fun q => ?_))
          obtain ⟨i, hi, e⟩ := (htk t ht).mp z
          have := q p (by omega) i hi
          rw [dg_last (by omega), dg_pre (by omega) hi] at this
          have := this e
          omega)]
        exact hab
      · rw [if_neg z]
        have hm := hmyt t (by omega)
        rw [if_pos (by omega)] at hm
        have hz : tk t = false := by simpa using z
        have hj := jn_plus (p := tk) (q := fun i => tk i || decide (i = t)) ht hz (by simp) (fun i _ hne => by simp [hne])
        refine ih (p + 1) (c * (s + 1) + t) spare _ _ _ a b (by omega) (fun j hj i hi e => ?_) (fun t' ht' => ?_) (by omega) (by omega) ?_ (fun i hi => ?_) hab
        · by_cases ej : j = p
          · subst ej
            rw [dg_last (by omega), dg_pre (by omega) hi] at e
            exact absurd ((htk t ht).mpr ⟨i, hi, e⟩) z
          · rw [dg_pre (by omega) (by omega), dg_pre (by omega) (by omega)] at e
            rw [dg_pre (by omega) (by omega)]
            exact hnd j (by omega) i hi e
        · rw [Bool.or_eq_true, htk t' ht', decide_eq_true_eq]
          constructor
          · rintro (⟨i, hi, e⟩ | rfl)
            · exact ⟨i, by omega, by rw [dg_pre (by omega) hi]; exact e⟩
            · exact ⟨p, by omega, dg_last (by omega)⟩
          · rintro ⟨i, hi, e⟩
            by_cases ei : i = p
            · subst ei
              rw [dg_last (by omega)] at e
              exact Or.inr e.symm
            · rw [dg_pre (by omega) (by omega)] at e
              exact Or.inl ⟨i, by omega, e⟩
        · show sum + dist p t = smF s dist (dg s (p + 1) (c * (s + 1) + t)) p + (if dg s (p + 1) (c * (s + 1) + t) p = s then 0 else dist p (dg s (p + 1) (c * (s + 1) + t) p))
          rw [dg_last (by omega), if_neg (by omega), smF_congr (fun i hi => dg_pre (by omega) hi), ← hsum]
        · by_cases ei : i = p
          · subst ei
            rw [jset_at, dg_last (by omega)]
            unfold cvS
            rw [if_neg (by omega)]
          · rw [jset_ne ei, dg_pre (by omega) (by omega)]
            exact hasg i (by omega)
    show vR g (vfo (fun i => mvF s dist g ((c * (s + 1) + s) * (s + 1) ^ k + i)) ((s + 1) ^ k) (vfo (fun t a => vfo (fun i => mvF s dist g ((c * (s + 1) + t) * (s + 1) ^ k + i)) ((s + 1) ^ k) a) s acc)) (if 0 < spare then _ else _)
    have hm := hmyt s (Nat.le_refl _)
    rw [if_neg (by omega), Nat.add_zero] at hm
    by_cases z : 0 < spare
    · rw [if_pos z]
      refine ih (p + 1) (c * (s + 1) + s) (spare - 1) tk sum _ _ _ (by omega) (fun j hj i hi e => ?_) (fun t' ht' => ?_) (by omega) (by omega) ?_ (fun i hi => ?_) sens
      · by_cases ej : j = p
        · subst ej
          rw [dg_last (by omega)] at e
          exact e
        · rw [dg_pre (by omega) (by omega), dg_pre (by omega) (by omega)] at e
          rw [dg_pre (by omega) (by omega)]
          exact hnd j (by omega) i hi e
      · rw [htk t' ht']
        constructor
        · rintro ⟨i, hi, e⟩
          exact ⟨i, by omega, by rw [dg_pre (by omega) hi]; exact e⟩
        · rintro ⟨i, hi, e⟩
          by_cases ei : i = p
          · subst ei
            rw [dg_last (by omega)] at e
            omega
          · rw [dg_pre (by omega) (by omega)] at e
            exact ⟨i, by omega, e⟩
      · show sum = smF s dist (dg s (p + 1) (c * (s + 1) + s)) p + (if dg s (p + 1) (c * (s + 1) + s) p = s then 0 else dist p (dg s (p + 1) (c * (s + 1) + s) p))
        rw [dg_last (by omega), if_pos rfl, smF_congr (fun i hi => dg_pre (by omega) hi), ← hsum, Int.add_zero]
      · by_cases ei : i = p
        · subst ei
          rw [jset_at, dg_last (by omega)]
          unfold cvS
          rw [if_pos rfl]
        · rw [jset_ne ei, dg_pre (by omega) (by omega)]
          exact hasg i (by omega)
    · rw [if_neg z]
      rw [vfo_same (f := fun i => mvF s dist g ((c * (s + 1) + s) * (s + 1) ^ k + i)) (fun r hr => by
        rw [show g = p + 1 + k by omega]
        exact mvF_bad hr (Or.inr (by omega)))]
      exact sens
/-- there is always a way -/
theorem vfo_le {f : Nat → vAcc → vAcc} {m : Nat} {a : vAcc} (h : ∀ t a, t < m → (f t a).1 ≤ a.1) : (vfo f m a).1 ≤ a.1 := by
  induction m with
  | zero => exact Int.le_refl _
  | succ m ih => exact Int.le_trans (h m _ (by omega)) (ih (fun t a ht => h t a (by omega)))
theorem vfo_le2 {f : Nat → vAcc → vAcc} {m : Nat} {a : vAcc} {B : Int} (h : ∀ t a, t < m → (f t a).1 ≤ a.1) {t : Nat} (ht : t < m) (hB : ∀ a, (f t a).1 ≤ B) : (vfo f m a).1 ≤ B := by
  induction m with
  | zero => omega
  | succ m ih =>
    by_cases e : t = m
    · subst e
      exact hB _
    · exact Int.le_trans (h m _ (by omega)) (ih (fun t a ht => h t a (by omega)) (by omega))
theorem vtF_dn {s : Nat} {dist : Nat → Nat → Int} : ∀ (k p spare : Nat) (tk : Nat → Bool) (sum : Int) (asg : Nat → Int) (acc : vAcc), (vtF s dist k p spare tk sum asg acc).1 ≤ acc.1 := by
  intro k
  induction k with
  | zero =>
    intro p spare tk sum asg acc
    simp only [vtF]
    split
    · show sum ≤ _
      omega
    · exact Int.le_refl _
  | succ k ih =>
    intro p spare tk sum asg acc
    have hv : (vfo (fun t a => if tk t = true then a else vtF s dist k (p + 1) spare (fun i => tk i || decide (i = t)) (sum + dist p t) (jset asg p (t : Int)) a) s acc).1 ≤ acc.1 := vfo_le (fun t a _ => by
      split
      · exact Int.le_refl _
      · exact ih _ _ _ _ _ _)
    simp only [vtF]
    split
    · exact Int.le_trans (ih _ _ _ _ _ _) hv
    · exact hv
theorem vtF_way {s : Nat} {dist : Nat → Nat → Int} (hd : ∀ p t, dist p t ≤ 180) : ∀ (k p spare : Nat) (tk : Nat → Bool) (sum : Int) (asg : Nat → Int) (acc : vAcc), k + jn tk s ≤ spare + s → (vtF s dist k p spare tk sum asg acc).1 ≤ sum + k * 180 := by
  intro k
  induction k with
  | zero =>
    intro p spare tk sum asg acc _
    simp only [vtF]
    split
    · show sum ≤ _
      omega
    · omega
  | succ k ih =>
    intro p spare tk sum asg acc h
    simp only [vtF]
    by_cases z : 0 < spare
    · rw [if_pos z]
      have := ih (p + 1) (spare - 1) tk sum (jset asg p (-1)) (vfo (fun t a => if tk t = true then a else vtF s dist k (p + 1) spare (fun i => tk i || decide (i = t)) (sum + dist p t) (jset asg p (t : Int)) a) s acc) (by omega)
      omega
    · rw [if_neg z]
      obtain ⟨t, ht, hz⟩ : ∃ t, t < s ∧ tk t = false := Classical.byContradiction (fun q => by
        have : jn tk s = s := by
          clear h ih
          have : ∀ m, m ≤ s → jn tk m = m := by
            intro m
            induction m with
            | zero => intro _; rfl
            | succ m ihm =>
              intro hm
              have : tk m = true := by
                cases e : tk m with
                | true => rfl
                | false => exact absurd ⟨m, by omega, e⟩ q
              simp only [jn]
              rw [ihm (by omega), if_pos this]
          exact this s (Nat.le_refl _)
        omega)
      refine vfo_le2 (t := t) (fun t a _ => ?_) ht (fun a => ?_)
      · split
        · exact Int.le_refl _
        · exact vtF_dn _ _ _ _ _ _ _
      · rw [if_neg (by rw [hz]; decide)]
        have hj := jn_plus (p := tk) (q := fun i => tk i || decide (i = t)) ht hz (by simp) (fun i _ hne => by simp [hne])
        have h1 := ih (p + 1) spare (fun i => tk i || decide (i = t)) (sum + dist p t) (jset asg p (t : Int)) a (by omega)
        have h2 := hd p t
        omega
