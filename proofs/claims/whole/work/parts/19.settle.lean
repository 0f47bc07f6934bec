/-! ===== Bonds.tie; Settling ===== -/
theorem bdS_bdS (bd : Nat → Nat → Int) (a b : Nat) (v w : Int) : bdS (bdS bd a b v) a b w = bdS bd a b w := by
  funext x y
  unfold bdS
  split <;> rfl
set_option maxRecDepth 100000 in
theorem tie_ok {d : Nat} {σ : jMem} {K : Option Value → jMem → Prop} {bd : Nat → Nat → Int} {m : Nat} {a b : Nat} {x : Int} (hB : BI bd m σ) (ha : a < 40) (hb : b < 40) (hab : a ≠ b) (hbd : ∀ u v, bd u v = 0 ∨ bd u v = 1 ∨ bd u v = 2) (hsy : bd b a = bd a b) (hx : x = 0 ∨ x = 1) (hm60 : m ≤ 60) (hm : bd a b ≠ 0 → 1 ≤ m)
    (hK0 : bd a b = 0 → 60 ≤ m → K (some (.int (jI 0))) σ) (hK1 : ¬ (bd a b = 0 ∧ 60 ≤ m) → ∀ σ' : jMem, BI (bdS bd a b (2 - x)) (if bd a b = 0 then m + 1 else m) σ' → (∀ c, c ≠ 7 → c ≠ 8 → c ≠ 9 → σ' c = σ c) → K (some (.int (jI 1))) σ') : jRun (d + 2) mX0_tie [.ref 7, .int (jI (a : Int)), .int (jI (b : Int)), .int (jI x)] σ K := by
  have hba : b ≠ a := fun q => hab q.symm
  refine jenter (lv := [_, _, _, _, _]) rfl rfl (Nat.le_of_ble_eq_true rfl) ?_
  have fin : ∀ (σ1 : jMem) (bd1 : Nat → Nat → Int) (m1 : Nat), BI bd1 m1 σ1 → bd1 a b = 0 → bd1 b a = 0 → (∀ σ' : jMem, BI (bdS bd1 a b (2 - x)) (m1 + 1) σ' → (∀ c, c ≠ 7 → c ≠ 8 → c ≠ 9 → σ' c = σ1 c) → K (some (.int (jI 1))) σ') → jV (jP mX0_tie (d + 2) K) 20 [some (.ref 7), some (.int (jI (a : Int))), some (.int (jI (b : Int))), some (.int (jI x)), none] [] σ1 := by
    intro σ1 bd1 m1 hB1 z1 z2 hK2
    obtain ⟨b1, b2, b3⟩ := hB1
    refine jr_iload_n (pc' := 21) gM dX0_tie_20 rfl rfl ?_
    refine jr_if_eq (tgt := 31) (pc' := 24) gM dX0_tie_21 rfl rfl ⟨by omega, by omega⟩ (fun c21 => ?_) (fun c21 => ?_)
    · subst c21
      refine jr_aload_n (pc' := 32) gM dX0_tie_31 rfl rfl ?_
      refine jr_gfr (pc' := 35) gM dX0_tie_32 rfl fX0_15 rfl rfl ?_
      refine jr_astore (pc' := 37) (lv' := [_, _, _, _, _]) gM dX0_tie_35 rfl rfl (Nat.le_of_ble_eq_true rfl) ?_
      refine jr_aload (pc' := 39) gM dX0_tie_37 rfl rfl ?_
      refine jr_iload_n (pc' := 40) gM dX0_tie_39 rfl rfl ?_
      refine jr_dup2 (pc' := 41) gM dX0_tie_40 rfl rfl rfl ?_
      refine jr_lald (pc' := 42) _ gM dX0_tie_41 rfl rfl rfl (by omega) (by decide) ?_
      rw [b2 a ha]
      refine jr_iload_n (pc' := 43) gM dX0_tie_42 rfl rfl ?_
      refine jr_inn (pc' := 46) (as := [_]) gM dX0_tie_43 rfl kX0_26 rfl rfl (Nat.le_of_ble_eq_true rfl) ?_
      refine bit_ok hb ?_
      dsimp only [Option.toList, List.cons_append, List.nil_append]
      refine jr_lor (pc' := 47) (jk (fun v => decide (bdS bd1 a b 2 a v = 2))) gM dX0_tie_46 rfl ((jk_or _ _).trans (congrArg jL (jk_congr (fun v _ => by unfold bdS; by_cases e : v = b <;> simp [e, hab])))) ?_
      refine jr_last (pc' := 48) _ gM dX0_tie_47 rfl rfl rfl (by omega) (by decide) ?_
      refine jr_aload (pc' := 50) gM dX0_tie_48 rfl rfl ?_
      refine jr_iload_n (pc' := 51) gM dX0_tie_50 rfl rfl ?_
      refine jr_dup2 (pc' := 52) gM dX0_tie_51 rfl rfl rfl ?_
      refine jr_lald (pc' := 53) _ gM dX0_tie_52 rfl rfl rfl (by omega) (by decide) ?_
      rw [jup_ne (Or.inr hba), b2 b hb]
      refine jr_iload_n (pc' := 54) gM dX0_tie_53 rfl rfl ?_
      refine jr_inn (pc' := 57) (as := [_]) gM dX0_tie_54 rfl kX0_26 rfl rfl (Nat.le_of_ble_eq_true rfl) ?_
      refine bit_ok ha ?_
      dsimp only [Option.toList, List.cons_append, List.nil_append]
      refine jr_lor (pc' := 58) (jk (fun v => decide (bdS bd1 a b 2 b v = 2))) gM dX0_tie_57 rfl ((jk_or _ _).trans (congrArg jL (jk_congr (fun v _ => by unfold bdS; by_cases e : v = a <;> simp [e, hba])))) ?_
      refine jr_last (pc' := 59) _ gM dX0_tie_58 rfl rfl rfl (by omega) (by decide) ?_
      refine jr_aload_n (pc' := 60) gM dX0_tie_59 rfl rfl ?_
      refine jr_dup (pc' := 61) gM dX0_tie_60 rfl rfl ?_
      refine jr_gfi (pc' := 64) gM dX0_tie_61 rfl fX0_22 rfl rfl ?_
      refine jr_iconst (pc' := 65) gM dX0_tie_64 rfl ?_
      refine jr_iadd (pc' := 66) gM dX0_tie_65 rfl ?_
      refine jr_pf (pc' := 69) gM dX0_tie_66 rfl fX0_22 rfl rfl ⟨rfl, by decide +kernel⟩ ?_
      refine jr_iconst (pc' := 70) gM dX0_tie_69 rfl ?_
      rw [jup_row (by omega), jup_row (by omega), b3]
      refine jr_zreturn dX0_tie_70 rfl (by first | omega | exact bI_01 _) ?_
      refine hK2 _ ⟨fun u hu => ?_, fun u hu => ?_, ?_⟩ (fun c q1 q2 q3 => ?_)
      · rw [jup_row (by omega), jup_row (by omega), jup_row (by omega), b1 u hu]
        apply jk_congr
        intro v _
        unfold bdS
        by_cases e : (u = a ∧ v = b) ∨ (u = b ∧ v = a)
        · rw [if_pos e]
          have : bd1 u v = 0 := by
            rcases e with ⟨rfl, rfl⟩ | ⟨rfl, rfl⟩
            · exact z1
            · exact z2
          simp [this]
        · rw [if_neg e]
      · rw [jup_row (by omega)]
        by_cases e1 : u = b
        · subst e1
          rw [jup_at]
          rfl
        · rw [jup_ne (Or.inr e1)]
          by_cases e2 : u = a
          · subst e2
            rw [jup_at]
            rfl
          · rw [jup_ne (Or.inr e2), b2 u hu]
            apply jk_congr
            intro v _
            unfold bdS
            rw [if_neg (by omega)]
      · rw [jup_at]
        omega
      · rw [jup_row q1, jup_row q3, jup_row q3]
    · have hx1 : x = 1 := by omega
      subst hx1
      refine jr_aload_n (pc' := 25) gM dX0_tie_24 rfl rfl ?_
      refine jr_gfr (pc' := 28) gM dX0_tie_25 rfl fX0_9 rfl rfl ?_
      refine jr_goto (tgt := 35) gM dX0_tie_28 rfl ?_
      refine jr_astore (pc' := 37) (lv' := [_, _, _, _, _]) gM dX0_tie_35 rfl rfl (Nat.le_of_ble_eq_true rfl) ?_
      refine jr_aload (pc' := 39) gM dX0_tie_37 rfl rfl ?_
      refine jr_iload_n (pc' := 40) gM dX0_tie_39 rfl rfl ?_
      refine jr_dup2 (pc' := 41) gM dX0_tie_40 rfl rfl rfl ?_
      refine jr_lald (pc' := 42) _ gM dX0_tie_41 rfl rfl rfl (by omega) (by decide) ?_
      rw [b1 a ha]
      refine jr_iload_n (pc' := 43) gM dX0_tie_42 rfl rfl ?_
      refine jr_inn (pc' := 46) (as := [_]) gM dX0_tie_43 rfl kX0_26 rfl rfl (Nat.le_of_ble_eq_true rfl) ?_
      refine bit_ok hb ?_
      dsimp only [Option.toList, List.cons_append, List.nil_append]
      refine jr_lor (pc' := 47) (jk (fun v => decide (bdS bd1 a b 1 a v = 1))) gM dX0_tie_46 rfl ((jk_or _ _).trans (congrArg jL (jk_congr (fun v _ => by unfold bdS; by_cases e : v = b <;> simp [e, hab])))) ?_
      refine jr_last (pc' := 48) _ gM dX0_tie_47 rfl rfl rfl (by omega) (by decide) ?_
      refine jr_aload (pc' := 50) gM dX0_tie_48 rfl rfl ?_
      refine jr_iload_n (pc' := 51) gM dX0_tie_50 rfl rfl ?_
      refine jr_dup2 (pc' := 52) gM dX0_tie_51 rfl rfl rfl ?_
      refine jr_lald (pc' := 53) _ gM dX0_tie_52 rfl rfl rfl (by omega) (by decide) ?_
      rw [jup_ne (Or.inr hba), b1 b hb]
      refine jr_iload_n (pc' := 54) gM dX0_tie_53 rfl rfl ?_
      refine jr_inn (pc' := 57) (as := [_]) gM dX0_tie_54 rfl kX0_26 rfl rfl (Nat.le_of_ble_eq_true rfl) ?_
      refine bit_ok ha ?_
      dsimp only [Option.toList, List.cons_append, List.nil_append]
      refine jr_lor (pc' := 58) (jk (fun v => decide (bdS bd1 a b 1 b v = 1))) gM dX0_tie_57 rfl ((jk_or _ _).trans (congrArg jL (jk_congr (fun v _ => by unfold bdS; by_cases e : v = a <;> simp [e, hba])))) ?_
      refine jr_last (pc' := 59) _ gM dX0_tie_58 rfl rfl rfl (by omega) (by decide) ?_
      refine jr_aload_n (pc' := 60) gM dX0_tie_59 rfl rfl ?_
      refine jr_dup (pc' := 61) gM dX0_tie_60 rfl rfl ?_
      refine jr_gfi (pc' := 64) gM dX0_tie_61 rfl fX0_22 rfl rfl ?_
      refine jr_iconst (pc' := 65) gM dX0_tie_64 rfl ?_
      refine jr_iadd (pc' := 66) gM dX0_tie_65 rfl ?_
      refine jr_pf (pc' := 69) gM dX0_tie_66 rfl fX0_22 rfl rfl ⟨rfl, by decide +kernel⟩ ?_
      refine jr_iconst (pc' := 70) gM dX0_tie_69 rfl ?_
      rw [jup_row (by omega), jup_row (by omega), b3]
      refine jr_zreturn dX0_tie_70 rfl (by first | omega | exact bI_01 _) ?_
      refine hK2 _ ⟨fun u hu => ?_, fun u hu => ?_, ?_⟩ (fun c q1 q2 q3 => ?_)
      · rw [jup_row (by omega)]
        by_cases e1 : u = b
        · subst e1
          rw [jup_at]
          rfl
        · rw [jup_ne (Or.inr e1)]
          by_cases e2 : u = a
          · subst e2
            rw [jup_at]
            rfl
          · rw [jup_ne (Or.inr e2), b1 u hu]
            apply jk_congr
            intro v _
            unfold bdS
            rw [if_neg (by omega)]
      · rw [jup_row (by omega), jup_row (by omega), jup_row (by omega), b2 u hu]
        apply jk_congr
        intro v _
        unfold bdS
        by_cases e : (u = a ∧ v = b) ∨ (u = b ∧ v = a)
        · rw [if_pos e]
          have : bd1 u v = 0 := by
            rcases e with ⟨rfl, rfl⟩ | ⟨rfl, rfl⟩
            · exact z1
            · exact z2
          simp [this]
        · rw [if_neg e]
      · rw [jup_at]
        omega
      · rw [jup_row q1, jup_row q2, jup_row q2]
  refine jr_aload_n (pc' := 1) gM dX0_tie_0 rfl rfl ?_
  refine jr_iload_n (pc' := 2) gM dX0_tie_1 rfl rfl ?_
  refine jr_iload_n (pc' := 3) gM dX0_tie_2 rfl rfl ?_
  refine jr_inv (pc' := 6) (as := [_, _]) gM dX0_tie_3 rfl kX0_18 rfl rfl rfl (Nat.le_of_ble_eq_true rfl) ?_
  refine untie_ok hB ha hb hab hbd (fun h0 => ?_) (fun h1 σ1 k1 k2 k3 => ?_) hm
  · dsimp only [Option.toList, List.cons_append, List.nil_append]
    refine jr_if_ne (tgt := 20) (pc' := 9) gM dX0_tie_6 rfl rfl ⟨by omega, by omega⟩ (fun cc => absurd cc (by omega)) (fun _ => ?_)
    refine jr_aload_n (pc' := 10) gM dX0_tie_9 rfl rfl ?_
    refine jr_gfi (pc' := 13) gM dX0_tie_10 rfl fX0_22 rfl rfl ?_
    refine jr_bipush (pc' := 15) gM dX0_tie_13 rfl rfl ?_
    rw [hB.2.2]
    refine jr_icmp_lt (tgt := 20) (pc' := 18) gM dX0_tie_15 rfl rfl ⟨by omega, by omega⟩ ⟨by omega, by omega⟩ (fun c15 => ?_) (fun c15 => ?_)
    · refine fin σ bd m hB h0 (by omega) (fun σ' j1 j2 => hK1 (by omega) σ' ?_ j2)
      rw [if_pos h0]
      exact j1
    · refine jr_iconst (pc' := 19) gM dX0_tie_18 rfl ?_
      refine jr_zreturn dX0_tie_19 rfl (by first | omega | exact bI_01 _) ?_
      exact hK0 h0 (by omega)
  · dsimp only [Option.toList, List.cons_append, List.nil_append]
    refine jr_if_ne (tgt := 20) (pc' := 9) gM dX0_tie_6 rfl rfl ⟨by omega, by omega⟩ (fun _ => ?_) (fun cc => absurd cc (by omega))
    refine fin σ1 _ _ k1 (by unfold bdS; simp) (by unfold bdS; simp) (fun σ' j1 j2 => hK1 (fun q => h1 q.1) σ' ?_ (fun c q1 q2 q3 => by rw [j2 c q1 q2 q3, k3 c q1 q2 q3]))
    rw [if_neg h1]
    rw [bdS_bdS, show m - 1 + 1 = m by have := hm h1; omega] at j1
    exact j1
/-- the first of f i, f (i + 1) .. that is there, of k -/
def frs {α : Type} (f : Nat → Option α) : Nat → Nat → Option α
  | _, 0 => none
  | i, k + 1 => match f i with
    | some x => some x
    | none => frs f (i + 1) k
theorem frs_s {α : Type} {f : Nat → Option α} {i k : Nat} {x : α} (h : f i = some x) : frs f i (k + 1) = some x := by simp [frs, h]
theorem frs_n {α : Type} {f : Nat → Option α} {i k : Nat} (h : f i = none) : frs f i (k + 1) = frs f (i + 1) k := by simp [frs, h]
theorem frs_congr {α : Type} {f g : Nat → Option α} : ∀ (k i : Nat), (∀ j, i ≤ j → j < i + k → f j = g j) → frs f i k = frs g i k := by
  intro k
  induction k with
  | zero => intro i _; rfl
  | succ k ih =>
    intro i h
    simp only [frs]
    rw [h i (by omega) (by omega), ih (i + 1) (fun j h1 h2 => h j (by omega) (by omega))]
/-- how many bonds of u are broken if it lies in the heap h (none is -2) -/
def bkF (bd : Nat → Nat → Int) (hp : Nat → Int) (u : Nat) (h : Int) : Nat := jn (fun v => decide (bd u v = 1) && decide (hp v ≠ -1) && !decide (hp v = h)) 40 + jn (fun v => decide (bd u v = 2) && decide (hp v = h)) 40
theorem bkF_le (bd : Nat → Nat → Int) (hp : Nat → Int) (u : Nat) (h : Int) : bkF bd hp u h ≤ 80 := by
  have q1 := jn_le (fun v => decide (bd u v = 1) && decide (hp v ≠ -1) && !decide (hp v = h)) 40
  have q2 := jn_le (fun v => decide (bd u v = 2) && decide (hp v = h)) 40
  unfold bkF
  omega
def btF (x y : Int) : Prop := x < 0 ∨ (x = 0 ∧ y < 0)
set_option maxRecDepth 100000 in
theorem betters_ok {d : Nat} {σ : jMem} {K : Option Value → jMem → Prop} {x y : Int} (hx : jR x) (hy : jR y) (hK1 : btF x y → K (some (.int (jI 1))) σ) (hK0 : ¬ btF x y → K (some (.int (jI 0))) σ) : jRun d mX5_betters [.int (jI x), .int (jI y)] σ K := by
  unfold btF at hK1 hK0
  refine jenter (lv := [_, _]) rfl rfl (Nat.le_of_ble_eq_true rfl) ?_
  refine jr_iload_n (pc' := 1) gM dX5_betters_0 rfl rfl ?_
  refine jr_if_lt (tgt := 12) (pc' := 4) gM dX5_betters_1 rfl rfl ⟨by omega, by omega⟩ (fun c1 => ?_) (fun c1 => ?_)
  · refine jr_iconst (pc' := 13) gM dX5_betters_12 rfl ?_
    refine jr_goto (tgt := 17) gM dX5_betters_13 rfl ?_
    refine jr_zreturn dX5_betters_17 rfl (by first | omega | exact bI_01 _) ?_
    exact hK1 (by omega)
  · refine jr_iload_n (pc' := 5) gM dX5_betters_4 rfl rfl ?_
    refine jr_if_ne (tgt := 16) (pc' := 8) gM dX5_betters_5 rfl rfl ⟨by omega, by omega⟩ (fun c5 => ?_) (fun c5 => ?_)
    · refine jr_iconst (pc' := 17) gM dX5_betters_16 rfl ?_
      refine jr_zreturn dX5_betters_17 rfl (by first | omega | exact bI_01 _) ?_
      exact hK0 (by omega)
    · refine jr_iload_n (pc' := 9) gM dX5_betters_8 rfl rfl ?_
      refine jr_if_ge (tgt := 16) (pc' := 12) gM dX5_betters_9 rfl rfl ⟨by omega, by omega⟩ (fun c9 => ?_) (fun c9 => ?_)
      · refine jr_iconst (pc' := 17) gM dX5_betters_16 rfl ?_
        refine jr_zreturn dX5_betters_17 rfl (by first | omega | exact bI_01 _) ?_
        exact hK0 (by omega)
      · refine jr_iconst (pc' := 13) gM dX5_betters_12 rfl ?_
        refine jr_goto (tgt := 17) gM dX5_betters_13 rfl ?_
        refine jr_zreturn dX5_betters_17 rfl (by first | omega | exact bI_01 _) ?_
        exact hK1 (by omega)
/-- the cheapest heap of those that break no bond, below i -/
def loF (c : Nat → Int) (hp : Nat → Int) (bk : Nat → Nat) : Nat → Int × Int
  | 0 => (-1, 1000000000)
  | i + 1 => if hp i = (i : Int) ∧ c i < (loF c hp bk i).2 ∧ bk i = 0 then ((i : Int), c i) else loF c hp bk i
theorem loF_spec {c : Nat → Int} {hp : Nat → Int} {bk : Nat → Nat} {i : Nat} (hc : ∀ h, h < i → 0 ≤ c h ∧ c h ≤ 7200) : (loF c hp bk i = (-1, 1000000000) ∧ ∀ h : Nat, h < i → ¬ (hp h = (h : Int) ∧ bk h = 0)) ∨ ∃ k : Nat, k < i ∧ hp k = (k : Int) ∧ bk k = 0 ∧ loF c hp bk i = ((k : Int), c k) := by
  induction i with
  | zero => exact Or.inl ⟨rfl, fun h hh => absurd hh (by omega)⟩
  | succ i ih =>
    have hci := hc i (by omega)
    simp only [loF]
    rcases ih (fun h hh => hc h (by omega)) with ⟨e, h1⟩ | ⟨k, h1, h2, h3, h4⟩
    · by_cases q : hp i = (i : Int) ∧ bk i = 0
      · rw [e, if_pos ⟨q.1, by show c i < 1000000000; omega, q.2⟩]
        exact Or.inr ⟨i, by omega, q.1, q.2, rfl⟩
      · rw [if_neg (fun z => q ⟨z.1, z.2.2⟩)]
        refine Or.inl ⟨e, fun h hh => ?_⟩
        by_cases e2 : h = i
        · subst e2
          exact q
        · exact h1 h (by omega)
    · by_cases q : hp i = (i : Int) ∧ c i < (loF c hp bk i).2 ∧ bk i = 0
      · rw [if_pos q]
        exact Or.inr ⟨i, by omega, q.1, q.2.2, rfl⟩
      · rw [if_neg q]
        exact Or.inr ⟨k, by omega, h2, h3, h4⟩
def loR (n : Nat) (fr : Nat → Nat → Int) (bd : Nat → Nat → Int) (price : Int) (hp : Nat → Int) (u : Nat) : Option (Nat → Int) :=
  if price < (loF (fun h => jbs (fr u) hp n h) hp (fun h => bkF bd hp u h) n).2 ∧ bkF bd hp u (-2) = 0 then some (alF n hp u)
  else if (loF (fun h => jbs (fr u) hp n h) hp (fun h => bkF bd hp u h) n).1 = -1 then none
  else some (inF n hp u (loF (fun h => jbs (fr u) hp n h) hp (fun h => bkF bd hp u h) n).1.toNat)
/-- what Settling rests on -/
def SI (n : Nat) (hp : Nat → Int) (fr : Nat → Nat → Int) (bd : Nat → Nat → Int) (m : Nat) (price : Int) (σ : jMem) : Prop :=
  σ 1 5 = (n : Int) ∧ n ≤ 40 ∧ HV n hp ∧ HI hp σ ∧ BI bd m σ ∧ (∀ a b, a < n → b < n → σ 6 (a * 40 + b) = fr a b) ∧ (∀ a b, a < n → b < n → 0 ≤ fr a b ∧ fr a b ≤ 180) ∧ σ 10 4 = price ∧ 0 ≤ price ∧ price ≤ 200
theorem SI.of {n : Nat} {hp hp' : Nat → Int} {fr bd : Nat → Nat → Int} {m : Nat} {price : Int} {σ σ' : jMem} (h : SI n hp fr bd m price σ) (hV : HV n hp') (hI : HI hp' σ') (he : ∀ c, c ≠ 11 → c ≠ 12 → c ≠ 13 → σ' c = σ c) : SI n hp' fr bd m price σ' := by
  obtain ⟨h1, h2, h3, h4, h5, h6, h7, h8, h9⟩ := h
  refine ⟨by rw [he 1 (by omega) (by omega) (by omega)]; exact h1, h2, hV, hI, h5.of (fun c q1 q2 => he c (by omega) (by omega) (by omega)), fun a b ha hb => by rw [he 6 (by omega) (by omega) (by omega)]; exact h6 a b ha hb, h7, by rw [he 10 (by omega) (by omega) (by omega)]; exact h8, h9⟩
theorem SI.bs {n : Nat} {hp : Nat → Int} {fr bd : Nat → Nat → Int} {m : Nat} {price : Int} {σ : jMem} (h : SI n hp fr bd m price σ) {u : Nat} (hu : u < n) (k : Int) : jbs (fun o => σ 6 (u * 40 + o)) hp n k = jbs (fr u) hp n k := by
  unfold jbs
  apply js_congr
  intro i hi
  show (if hp i = k then σ 6 (u * 40 + i) else 0) = _
  rw [h.2.2.2.2.2.1 u i hu hi]
theorem SI.bsr {n : Nat} {hp : Nat → Int} {fr bd : Nat → Nat → Int} {m : Nat} {price : Int} {σ : jMem} (h : SI n hp fr bd m price σ) {u : Nat} (hu : u < n) (k : Int) : 0 ≤ jbs (fr u) hp n k ∧ jbs (fr u) hp n k ≤ 7200 := by
  have h1 := jbs_le (hp := hp) (h := k) (fun o ho => h.2.2.2.2.2.2.1 u o hu ho)
  have h2 := h.2.1
  omega
theorem jk_none : (0 : Int) = jk (fun _ => false) := (jk_zero.mpr (fun _ _ => rfl)).symm
theorem bkF_own {n : Nat} {bd : Nat → Nat → Int} {hp : Nat → Int} {u : Nat} (hV : HV n hp) : bkF bd hp u (-2) = jn (fun v => decide (bd u v = 1) && decide (hp v ≠ -1) && !false) 40 + jn (fun v => decide (bd u v = 2) && false) 40 := by
  unfold bkF
  congr 1
  · apply jn_congr
    intro v _
    rcases hV.cases v with e | ⟨k, e⟩
    · simp [e]
    · simp [e] <;> omega
  · apply jn_congr
    intro v _
    rcases hV.cases v with e | ⟨k, e⟩
    · simp [e]
    · simp [e] <;> omega
set_option maxRecDepth 100000 in
theorem layOpen_ok {d : Nat} {σ : jMem} {K : Option Value → jMem → Prop} {n : Nat} {hp : Nat → Int} {fr bd : Nat → Nat → Int} {m : Nat} {price : Int} {u : Nat} (hS : SI n hp fr bd m price σ) (hu : u < n)
    (hK0 : loR n fr bd price hp u = none → ∀ σ' : jMem, (∀ c, c ≠ 13 → σ' c = σ c) → K (some (.int (jI 0))) σ')
    (hK1 : ∀ hp', loR n fr bd price hp u = some hp' → HV n hp' → ∀ σ' : jMem, HI hp' σ' → (∀ c, c ≠ 11 → c ≠ 12 → c ≠ 13 → σ' c = σ c) → K (some (.int (jI 1))) σ') : jRun (d + 4) mX5_layOpen [.ref 14, .int (jI (u : Int))] σ K := by
  have hbs := fun k => hS.bs hu k
  have hbr := fun k => hS.bsr hu k
  obtain ⟨s1, s2, s3, s4, s5, s6, s7, s8, s9⟩ := hS
  refine jenter (lv := [_, _, _, _, _, _, _]) rfl rfl (Nat.le_of_ble_eq_true rfl) ?_
  refine jr_aload_n (pc' := 1) gM dX5_layOpen_0 rfl rfl ?_
  refine jr_gfr (pc' := 4) gM dX5_layOpen_1 rfl fX5_19 rfl rfl ?_
  refine jr_inv (pc' := 7) (as := []) gM dX5_layOpen_4 rfl kX5_51 rfl rfl rfl (Nat.le_of_ble_eq_true rfl) ?_
  refine allLaid_ok s1 s2 s3 s4 ?_
  dsimp only [Option.toList, List.cons_append, List.nil_append]
  refine jr_lstore_n (pc' := 8) (lv' := [_, _, _, _, _, _, _]) gM dX5_layOpen_7 rfl rfl (Nat.le_of_ble_eq_true rfl) ?_
  refine jr_aload_n (pc' := 9) gM dX5_layOpen_8 rfl rfl ?_
  refine jr_gfr (pc' := 12) gM dX5_layOpen_9 rfl fX5_19 rfl rfl ?_
  refine jr_iload_n (pc' := 13) gM dX5_layOpen_12 rfl rfl ?_
  refine jr_inn (pc' := 16) (as := [_]) gM dX5_layOpen_13 rfl kX5_55 rfl rfl (Nat.le_of_ble_eq_true rfl) ?_
  refine bit_ok (by omega) ?_
  dsimp only [Option.toList, List.cons_append, List.nil_append]
  refine jr_inv (pc' := 19) (as := [_]) gM dX5_layOpen_16 rfl kX5_59 rfl rfl rfl (Nat.le_of_ble_eq_true rfl) ?_
  refine measure_ok s1 s2 s3 s4 (fun σ1 m1 m2 => ?_)
  dsimp only [Option.toList, List.cons_append, List.nil_append]
  have m3 : ∀ h : Nat, h < 40 → σ1 13 h = jbs (fr u) hp n h := by
    intro h hh
    rw [m2 h hh, js_single (by omega), hbs]
  have o1 : σ1 1 = σ 1 := m1 1 (by omega)
  have o10 : σ1 10 = σ 10 := m1 10 (by omega)
  have hI1 : HI hp σ1 := s4.of (m1 11 (by omega)) (m1 12 (by omega))
  have hB1 : BI bd m σ1 := s5.of (fun c _ _ => m1 c (by omega))
  have hc1 : σ1 1 5 = (n : Int) := by rw [o1]; exact s1
  refine jr_iconst (pc' := 20) gM dX5_layOpen_19 rfl ?_
  refine jr_istore (pc' := 22) (lv' := [_, _, _, _, _, _, _]) gM dX5_layOpen_20 rfl rfl (Nat.le_of_ble_eq_true rfl) ?_
  refine jr_ldc (pc' := 24) gM dX5_layOpen_22 rfl qX5_63 ?_
  refine jr_istore (pc' := 26) (lv' := [_, _, _, _, _, _, _]) gM dX5_layOpen_24 rfl rfl (Nat.le_of_ble_eq_true rfl) ?_
  refine jr_iconst (pc' := 27) gM dX5_layOpen_26 rfl ?_
  refine jr_istore (pc' := 29) (lv' := [_, _, _, _, _, _, _]) gM dX5_layOpen_27 rfl rfl (Nat.le_of_ble_eq_true rfl) ?_
  have lp : ∀ i, i ≤ n → jV (jP mX5_layOpen (d + 4) K) 29 [some (.ref 14), some (.int (jI (u : Int))), some (.long (jL (jk (fun v => decide (hp v ≠ -1))))), none, some (.int (jI (loF (fun h => jbs (fr u) hp n h) hp (fun h => bkF bd hp u h) i).1)), some (.int (jI (loF (fun h => jbs (fr u) hp n h) hp (fun h => bkF bd hp u h) i).2)), some (.int (jI (i : Int)))] [] σ1 := by
    refine jdown n ?_
    intro i hi ih
    have sp := loF_spec (c := fun h => jbs (fr u) hp n h) (hp := hp) (bk := fun h => bkF bd hp u h) (i := i) (fun h _ => hbr h)
    have hr : -1 ≤ (loF (fun h => jbs (fr u) hp n h) hp (fun h => bkF bd hp u h) i).1 ∧ (loF (fun h => jbs (fr u) hp n h) hp (fun h => bkF bd hp u h) i).1 < 40 ∧ 0 ≤ (loF (fun h => jbs (fr u) hp n h) hp (fun h => bkF bd hp u h) i).2 ∧ (loF (fun h => jbs (fr u) hp n h) hp (fun h => bkF bd hp u h) i).2 ≤ 1000000000 := by
      rcases sp with ⟨e, h1⟩ | ⟨k, h1, h2, h3, h4⟩
      · rw [e]
        decide
      · have := hbr k
        rw [h4]
        show -1 ≤ (k : Int) ∧ (k : Int) < 40 ∧ 0 ≤ jbs (fr u) hp n k ∧ jbs (fr u) hp n k ≤ _
        omega
    refine jr_iload (pc' := 31) gM dX5_layOpen_29 rfl rfl ?_
    refine jr_aload_n (pc' := 32) gM dX5_layOpen_31 rfl rfl ?_
    refine jr_gfr (pc' := 35) gM dX5_layOpen_32 rfl fX5_9 rfl rfl ?_
    refine jr_gfi (pc' := 38) gM dX5_layOpen_35 rfl fX5_37 rfl rfl ?_
    rw [o1]
    refine jr_icmp_ge (tgt := 112) (pc' := 41) gM dX5_layOpen_38 rfl rfl ⟨by omega, by omega⟩ ⟨by omega, by omega⟩ (fun c38 => ?_) (fun c38 => ?_)
    · have e : i = n := by omega
      subst e
      have fin2 : ¬ (price < (loF (fun h => jbs (fr u) hp i h) hp (fun h => bkF bd hp u h) i).2 ∧ bkF bd hp u (-2) = 0) → jV (jP mX5_layOpen (d + 4) K) 147 [some (.ref 14), some (.int (jI (u : Int))), some (.long (jL (jk (fun v => decide (hp v ≠ -1))))), none, some (.int (jI (loF (fun h => jbs (fr u) hp i h) hp (fun h => bkF bd hp u h) i).1)), some (.int (jI (loF (fun h => jbs (fr u) hp i h) hp (fun h => bkF bd hp u h) i).2)), some (.int (jI (i : Int)))] [] σ1 := by
        intro hno
        rcases sp with ⟨e, h1⟩ | ⟨k, h1, h2, h3, h4⟩
        · refine jr_iload (pc' := 149) gM dX5_layOpen_147 rfl rfl ?_
          refine jr_iconst (pc' := 150) gM dX5_layOpen_149 rfl ?_
          rw [e]
          refine jr_icmp_ne (tgt := 155) (pc' := 153) gM dX5_layOpen_150 rfl rfl ⟨by omega, by omega⟩ ⟨by omega, by omega⟩ (fun cc => absurd cc (by omega)) (fun _ => ?_)
          refine jr_iconst (pc' := 154) gM dX5_layOpen_153 rfl ?_
          refine jr_zreturn dX5_layOpen_154 rfl (by first | omega | exact bI_01 _) ?_
          refine hK0 ?_ σ1 m1
          unfold loR
          rw [if_neg hno, e, if_pos rfl]
        · refine jr_iload (pc' := 149) gM dX5_layOpen_147 rfl rfl ?_
          refine jr_iconst (pc' := 150) gM dX5_layOpen_149 rfl ?_
          rw [h4]
          dsimp only
          refine jr_icmp_ne (tgt := 155) (pc' := 153) gM dX5_layOpen_150 rfl rfl ⟨by omega, by omega⟩ ⟨by omega, by omega⟩ (fun _ => ?_) (fun cc => absurd cc (by omega))
          refine jr_aload_n (pc' := 156) gM dX5_layOpen_155 rfl rfl ?_
          refine jr_gfr (pc' := 159) gM dX5_layOpen_156 rfl fX5_19 rfl rfl ?_
          refine jr_iload_n (pc' := 160) gM dX5_layOpen_159 rfl rfl ?_
          refine jr_iload (pc' := 162) gM dX5_layOpen_160 rfl rfl ?_
          refine jr_inv (pc' := 165) (as := [_, _]) gM dX5_layOpen_162 rfl kX5_88 rfl rfl rfl (Nat.le_of_ble_eq_true rfl) ?_
          refine putInto_ok hc1 s2 s3 hI1 hu h2 h1 (fun σ2 k1 k2 => ?_)
          dsimp only [Option.toList, List.cons_append, List.nil_append]
          refine jr_iconst (pc' := 166) gM dX5_layOpen_165 rfl ?_
          refine jr_zreturn dX5_layOpen_166 rfl (by first | omega | exact bI_01 _) ?_
          refine hK1 (inF i hp u k) ?_ (inF_HV s3 hu) σ2 k1 (fun c a b e => by rw [k2 c a b, m1 c e])
          unfold loR
          rw [if_neg hno, h4, if_neg (by show ¬ (k : Int) = -1; omega)]
          rfl
      refine jr_aload_n (pc' := 113) gM dX5_layOpen_112 rfl rfl ?_
      refine jr_gfr (pc' := 116) gM dX5_layOpen_113 rfl fX5_19 rfl rfl ?_
      refine jr_gfi (pc' := 119) gM dX5_layOpen_116 rfl fX5_81 rfl rfl ?_
      refine jr_iload (pc' := 121) gM dX5_layOpen_119 rfl rfl ?_
      rw [o10, s8]
      refine jr_icmp_ge (tgt := 147) (pc' := 124) gM dX5_layOpen_121 rfl rfl ⟨by omega, by omega⟩ ⟨by omega, by omega⟩ (fun c121 => ?_) (fun c121 => ?_)
      · exact fin2 (by omega)
      · refine jr_aload_n (pc' := 125) gM dX5_layOpen_124 rfl rfl ?_
        refine jr_gfr (pc' := 128) gM dX5_layOpen_125 rfl fX5_15 rfl rfl ?_
        refine jr_iload_n (pc' := 129) gM dX5_layOpen_128 rfl rfl ?_
        refine jr_lconst (pc' := 130) (x := jk (fun _ => false)) gM dX5_layOpen_129 rfl (by rw [← jk_none]; rfl) ?_
        refine jr_lload_n (pc' := 131) gM dX5_layOpen_130 rfl rfl ?_
        refine jr_inv (pc' := 134) (as := [_, _, _]) gM dX5_layOpen_131 rfl kX5_75 rfl rfl rfl (Nat.le_of_ble_eq_true rfl) ?_
        refine brokenBy_ok hB1 (by omega) ?_
        dsimp only [Option.toList, List.cons_append, List.nil_append]
        rw [← bkF_own s3]
        have hb8 := bkF_le bd hp u (-2)
        refine jr_if_ne (tgt := 147) (pc' := 137) gM dX5_layOpen_134 rfl rfl ⟨by omega, by omega⟩ (fun c134 => ?_) (fun c134 => ?_)
        · exact fin2 (by omega)
        · refine jr_aload_n (pc' := 138) gM dX5_layOpen_137 rfl rfl ?_
          refine jr_gfr (pc' := 141) gM dX5_layOpen_138 rfl fX5_19 rfl rfl ?_
          refine jr_iload_n (pc' := 142) gM dX5_layOpen_141 rfl rfl ?_
          refine jr_inv (pc' := 145) (as := [_]) gM dX5_layOpen_142 rfl kX5_84 rfl rfl rfl (Nat.le_of_ble_eq_true rfl) ?_
          refine putAlone_ok hc1 s2 s3 hI1 hu (fun σ2 k1 k2 => ?_)
          dsimp only [Option.toList, List.cons_append, List.nil_append]
          refine jr_iconst (pc' := 146) gM dX5_layOpen_145 rfl ?_
          refine jr_zreturn dX5_layOpen_146 rfl (by first | omega | exact bI_01 _) ?_
          refine hK1 (alF i hp u) ?_ (alF_HV s3 hu) σ2 k1 (fun c a b e => by rw [k2 c a b, m1 c e])
          unfold loR
          rw [if_pos ⟨by omega, by omega⟩]
    · have h := ih (i + 1) (by omega) (by omega)
      simp only [loF] at h
      refine jr_aload_n (pc' := 42) gM dX5_layOpen_41 rfl rfl ?_
      refine jr_gfr (pc' := 45) gM dX5_layOpen_42 rfl fX5_19 rfl rfl ?_
      refine jr_iload (pc' := 47) gM dX5_layOpen_45 rfl rfl ?_
      refine jr_inv (pc' := 50) (as := [_]) gM dX5_layOpen_47 rfl kX5_64 rfl rfl rfl (Nat.le_of_ble_eq_true rfl) ?_
      refine isHeap_ok s2 s3 hI1 (by omega) ?_
      dsimp only [Option.toList, List.cons_append, List.nil_append]
      have hbi := hbr i
      refine jr_pb_eq (tgt := 106) (pc' := 53) gM dX5_layOpen_50 rfl rfl (fun c50 => ?_) (fun c50 => ?_)
      · refine jr_iinc (pc' := 109) (lv' := [_, _, _, _, _, _, _]) gM dX5_layOpen_106 rfl rfl rfl ?_
        refine jr_goto (tgt := 29) gM dX5_layOpen_109 rfl ?_
        rw [if_neg (fun z => c50 z.1)] at h
        exact h
      · refine jr_aload_n (pc' := 54) gM dX5_layOpen_53 rfl rfl ?_
        refine jr_gfr (pc' := 57) gM dX5_layOpen_54 rfl fX5_19 rfl rfl ?_
        refine jr_gfr (pc' := 60) gM dX5_layOpen_57 rfl fX5_67 rfl rfl ?_
        refine jr_iload (pc' := 62) gM dX5_layOpen_60 rfl rfl ?_
        refine jr_iald (pc' := 63) _ gM dX5_layOpen_62 rfl rfl rfl (by omega) (by decide) ?_
        rw [m3 i (by omega)]
        refine jr_iload (pc' := 65) gM dX5_layOpen_63 rfl rfl ?_
        refine jr_icmp_ge (tgt := 106) (pc' := 68) gM dX5_layOpen_65 rfl rfl ⟨by omega, by omega⟩ ⟨by omega, by omega⟩ (fun c65 => ?_) (fun c65 => ?_)
        · refine jr_iinc (pc' := 109) (lv' := [_, _, _, _, _, _, _]) gM dX5_layOpen_106 rfl rfl rfl ?_
          refine jr_goto (tgt := 29) gM dX5_layOpen_109 rfl ?_
          rw [if_neg (by omega)] at h
          exact h
        · refine jr_aload_n (pc' := 69) gM dX5_layOpen_68 rfl rfl ?_
          refine jr_gfr (pc' := 72) gM dX5_layOpen_69 rfl fX5_15 rfl rfl ?_
          refine jr_iload_n (pc' := 73) gM dX5_layOpen_72 rfl rfl ?_
          refine jr_aload_n (pc' := 74) gM dX5_layOpen_73 rfl rfl ?_
          refine jr_gfr (pc' := 77) gM dX5_layOpen_74 rfl fX5_19 rfl rfl ?_
          refine jr_gfr (pc' := 80) gM dX5_layOpen_77 rfl fX5_71 rfl rfl ?_
          refine jr_iload (pc' := 82) gM dX5_layOpen_80 rfl rfl ?_
          refine jr_lald (pc' := 83) _ gM dX5_layOpen_82 rfl rfl rfl (by omega) (by decide) ?_
          rw [hI1.2 i (by omega)]
          refine jr_lload_n (pc' := 84) gM dX5_layOpen_83 rfl rfl ?_
          refine jr_inv (pc' := 87) (as := [_, _, _]) gM dX5_layOpen_84 rfl kX5_75 rfl rfl rfl (Nat.le_of_ble_eq_true rfl) ?_
          refine brokenBy_ok hB1 (by omega) ?_
          dsimp only [Option.toList, List.cons_append, List.nil_append]
          have hb8 := bkF_le bd hp u i
          have eb : (jn (fun v => decide (bd u v = 1) && decide (hp v ≠ -1) && !decide (hp v = (i : Int))) 40 + jn (fun v => decide (bd u v = 2) && decide (hp v = (i : Int))) 40) = bkF bd hp u i := rfl
          rw [eb]
          refine jr_if_ne (tgt := 106) (pc' := 90) gM dX5_layOpen_87 rfl rfl ⟨by omega, by omega⟩ (fun c87 => ?_) (fun c87 => ?_)
          · refine jr_iinc (pc' := 109) (lv' := [_, _, _, _, _, _, _]) gM dX5_layOpen_106 rfl rfl rfl ?_
            refine jr_goto (tgt := 29) gM dX5_layOpen_109 rfl ?_
            rw [if_neg (by omega)] at h
            exact h
          · refine jr_iload (pc' := 92) gM dX5_layOpen_90 rfl rfl ?_
            refine jr_istore (pc' := 94) (lv' := [_, _, _, _, _, _, _]) gM dX5_layOpen_92 rfl rfl (Nat.le_of_ble_eq_true rfl) ?_
            refine jr_aload_n (pc' := 95) gM dX5_layOpen_94 rfl rfl ?_
            refine jr_gfr (pc' := 98) gM dX5_layOpen_95 rfl fX5_19 rfl rfl ?_
            refine jr_gfr (pc' := 101) gM dX5_layOpen_98 rfl fX5_67 rfl rfl ?_
            refine jr_iload (pc' := 103) gM dX5_layOpen_101 rfl rfl ?_
            refine jr_iald (pc' := 104) _ gM dX5_layOpen_103 rfl rfl rfl (by omega) (by decide) ?_
            rw [m3 i (by omega)]
            refine jr_istore (pc' := 106) (lv' := [_, _, _, _, _, _, _]) gM dX5_layOpen_104 rfl rfl (Nat.le_of_ble_eq_true rfl) ?_
            refine jr_iinc (pc' := 109) (lv' := [_, _, _, _, _, _, _]) gM dX5_layOpen_106 rfl rfl rfl ?_
            refine jr_goto (tgt := 29) gM dX5_layOpen_109 rfl ?_
            rw [if_pos ⟨c50, by omega, by omega⟩] at h
            exact h
  exact lp 0 (by omega)
