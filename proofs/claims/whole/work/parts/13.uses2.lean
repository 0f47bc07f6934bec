/-! ===== Math, Arrays.fill, and what Uses writes ===== -/
section jMath
variable {Ψ : jX → Prop} {B : ByteArray} {own : String} {d pc pc' : Nat} {lv : List (Option Value)} {st : List Value} {σ : jMem}
theorem jr_min {index : Nat} {x y : Int} (G : jG Ψ B own (d + 1)) (hd : decode B pc = .ok (.invokestatic index, 3)) (hp : pc + 3 = pc') (hc : jCS own index mJ9_min_7cf53 2) (hx0 : jR x) (hy0 : jR y) (hroom : (st.map fun v => v.category).sum ≤ 8) (k : jV Ψ pc' lv (.int (jI (min x y)) :: st) σ) : jV Ψ pc lv (.int (jI y) :: .int (jI x) :: st) σ := by
  subst hp
  intro p l e R s m args below meth c cells slots Q ω hΨ ls H locs hl hP hS
  obtain ⟨hx, hb, hown, hts, hnw, hK, hI, hfr, hlo, hce, hsl⟩ := G p l e R s m args below meth c cells slots Q ω hΨ
  obtain ⟨⟨h1, h2, -, -, -⟩, h3, h4⟩ := hc
  refine va_mmin hx hb hl.1.symm hown (hts _ h3) (hts _ h4) (hts _ h2) (hts _ h1) (by omega) (by rw [jcat_map]; omega) hce hsl hd ?_
  have e : (if jI y < jI x then jI y else jI x) = jI (min x y) := by
    simp only [jI_lt hy0 hx0]
    split
    · rw [show min x y = y by omega]
    · rw [show min x y = x by omega]
  rw [e]
  exact k p l _ R s m args below meth c cells slots Q ω hΨ ls H locs hl hP hS
theorem jr_max {index : Nat} {x y : Int} (G : jG Ψ B own (d + 1)) (hd : decode B pc = .ok (.invokestatic index, 3)) (hp : pc + 3 = pc') (hc : jCS own index mJ9_max_7cf53 2) (hx0 : jR x) (hy0 : jR y) (hroom : (st.map fun v => v.category).sum ≤ 8) (k : jV Ψ pc' lv (.int (jI (max x y)) :: st) σ) : jV Ψ pc lv (.int (jI y) :: .int (jI x) :: st) σ := by
  subst hp
  intro p l e R s m args below meth c cells slots Q ω hΨ ls H locs hl hP hS
  obtain ⟨hx, hb, hown, hts, hnw, hK, hI, hfr, hlo, hce, hsl⟩ := G p l e R s m args below meth c cells slots Q ω hΨ
  obtain ⟨⟨h1, h2, -, -, -⟩, h3, h4⟩ := hc
  refine va_mmax hx hb hl.1.symm hown (hts _ h3) (hts _ h4) (hts _ h2) (hts _ h1) (by omega) (by rw [jcat_map]; omega) hce hsl hd ?_
  have e : (if jI x < jI y then jI y else jI x) = jI (max x y) := by
    simp only [jI_lt hx0 hy0]
    split
    · rw [show max x y = y by omega]
    · rw [show max x y = x by omega]
  rw [e]
  exact k p l _ R s m args below meth c cells slots Q ω hΨ ls H locs hl hP hS
end jMath
def jset {α : Type} (f : Nat → α) (n : Nat) (a : α) : Nat → α := fun u => if u = n then a else f u
theorem jset_at {α : Type} {f : Nat → α} {n : Nat} {a : α} : jset f n a n = a := by simp [jset]
theorem jset_ne {α : Type} {f : Nat → α} {n u : Nat} {a : α} (h : u ≠ n) : jset f n a u = f u := by simp [jset, h]
set_option maxRecDepth 100000 in
theorem fill_ok {d : Nat} {σ : jMem} {K : Option Value → jMem → Prop} {c0 n : Nat} {v : Int} (hs : jsh[c0]? = some (.inl (0, n))) (hn : n < 2147483648) (hK : ∀ σ' : jMem, (∀ c, c ≠ c0 → σ' c = σ c) → (∀ j, j < n → σ' c0 j = v) → K none σ') : jRun d mJ7_fill_53178 [.ref c0, .int (jI v)] σ K := by
  refine jenter (lv := [_, _, _, _]) rfl rfl (Nat.le_of_ble_eq_true rfl) ?_
  refine jr_iconst gM dJ7_fill_53178_0 rfl ?_
  refine jr_istore_n (lv' := [_, _, _, _]) gM dJ7_fill_53178_1 rfl rfl (Nat.le_of_ble_eq_true rfl) ?_
  refine jr_aload_n gM dJ7_fill_53178_2 rfl rfl ?_
  refine jr_alen gM dJ7_fill_53178_3 rfl hs ?_
  refine jr_istore_n (lv' := [_, _, _, _]) gM dJ7_fill_53178_4 rfl rfl (Nat.le_of_ble_eq_true rfl) ?_
  have lp : ∀ i, i ≤ n → ∀ σ' : jMem, (∀ c, c ≠ c0 → σ' c = σ c) → (∀ j, j < i → σ' c0 j = v) → jV (jP mJ7_fill_53178 d K) 5 [some (.ref c0), some (.int (jI v)), some (.int (jI (i : Int))), some (.int (jI (n : Int)))] [] σ' := by
    refine jdown n ?_
    intro i hi ih σ' h1 h2
    refine jr_iload_n gM dJ7_fill_53178_5 rfl rfl ?_
    refine jr_iload_n gM dJ7_fill_53178_6 rfl rfl ?_
    refine jr_icmp_ge gM dJ7_fill_53178_7 rfl rfl ⟨by omega, by omega⟩ ⟨by omega, by omega⟩ (fun c7 => ?_) (fun c7 => ?_)
    · refine jr_vreturn dJ7_fill_53178_20 rfl ?_
      exact hK σ' h1 (fun j hj => h2 j (by omega))
    · refine jr_aload_n gM dJ7_fill_53178_10 rfl rfl ?_
      refine jr_iload_n gM dJ7_fill_53178_11 rfl rfl ?_
      refine jr_iload_n gM dJ7_fill_53178_12 rfl rfl ?_
      refine jr_iast i gM dJ7_fill_53178_13 rfl hs rfl (by omega) hn ?_
      refine jr_iinc (lv' := [_, _, _, _]) gM dJ7_fill_53178_14 rfl rfl rfl ?_
      refine jr_goto gM dJ7_fill_53178_17 rfl ?_
      refine ih (i + 1) (by omega) (by omega) _ (fun c hc => ?_) (fun j hj => ?_)
      · rw [jup_row hc]
        exact h1 c hc
      · by_cases e : j = i
        · subst e
          exact jup_at
        · rw [jup_ne (Or.inr e)]
          exact h2 j (by omega)
  exact lp 0 (by omega) σ (fun c _ => rfl) (fun j hj => absurd hj (by omega))
def jey (p : Nat → Bool) (y : Nat → Int) : Nat → Int
  | 0 => 1999
  | n + 1 => if p n then min (jey p y n) (y n) else jey p y n
theorem jey_r {p : Nat → Bool} {y : Nat → Int} {n : Nat} (h : ∀ u, u < n → 1800 ≤ y u ∧ y u ≤ 1999) : 1800 ≤ jey p y n ∧ jey p y n ≤ 1999 := by
  induction n with
  | zero => simp [jey]
  | succ n ih =>
    have h1 := ih (fun u hu => h u (by omega))
    have h2 := h n (by omega)
    simp only [jey]
    split <;> omega
set_option maxRecDepth 100000 in
theorem earliestYear_ok {d : Nat} {σ : jMem} {K : Option Value → jMem → Prop} {n : Nat} {p : Nat → Bool} (hn : σ 1 5 = (n : Int)) (hn2 : n ≤ 40) (hyr : ∀ u, u < n → 1800 ≤ σ 3 u ∧ σ 3 u ≤ 1999) (hK : K (some (.int (jI (jey p (σ 3) n)))) σ) : jRun (d + 1) mX6_earliestYear [.ref 1, .long (jL (jk p))] σ K := by
  refine jenter (lv := [_, _, _, _, _]) rfl rfl (Nat.le_of_ble_eq_true rfl) ?_
  refine jr_sipush gM dX6_earliestYear_0 rfl rfl ?_
  refine jr_istore_n (lv' := [_, _, _, _, _]) gM dX6_earliestYear_3 rfl rfl (Nat.le_of_ble_eq_true rfl) ?_
  refine jr_iconst gM dX6_earliestYear_4 rfl ?_
  refine jr_istore (lv' := [_, _, _, _, _]) gM dX6_earliestYear_5 rfl rfl (Nat.le_of_ble_eq_true rfl) ?_
  have lp : ∀ i, i ≤ n → jV (jP mX6_earliestYear (d + 1) K) 7 [some (.ref 1), some (.long (jL (jk p))), none, some (.int (jI (jey p (σ 3) i))), some (.int (jI (i : Int)))] [] σ := by
    refine jdown n ?_
    intro i hi ih
    refine jr_iload gM dX6_earliestYear_7 rfl rfl ?_
    refine jr_aload_n gM dX6_earliestYear_9 rfl rfl ?_
    refine jr_gfi gM dX6_earliestYear_10 rfl fX6_34 rfl rfl ?_
    refine jr_icmp_ge gM dX6_earliestYear_13 rfl rfl ⟨by omega, by omega⟩ ⟨by omega, by omega⟩ (fun c13 => ?_) (fun c13 => ?_)
    · refine jr_iload_n gM dX6_earliestYear_43 rfl rfl ?_
      refine jr_ireturn dX6_earliestYear_44 rfl ?_
      have e : i = n := by omega
      subst e
      exact hK
    · have h := ih (i + 1) (by omega) (by omega)
      refine jr_lload_n gM dX6_earliestYear_16 rfl rfl ?_
      refine jr_iload gM dX6_earliestYear_17 rfl rfl ?_
      refine jr_inn (as := [_, _]) gM dX6_earliestYear_19 rfl kX6_53 rfl rfl (Nat.le_of_ble_eq_true rfl) ?_
      refine holds_ok (by omega) ?_
      dsimp only [Option.toList, List.cons_append, List.nil_append]
      refine jr_pb_eq gM dX6_earliestYear_22 rfl rfl (fun c22 => ?_) (fun c22 => ?_)
      · refine jr_iinc (lv' := [_, _, _, _, _]) gM dX6_earliestYear_37 rfl rfl rfl ?_
        refine jr_goto gM dX6_earliestYear_40 rfl ?_
        rw [show jey p (σ 3) (i + 1) = jey p (σ 3) i by simp [jey, c22]] at h
        exact h
      · refine jr_iload_n gM dX6_earliestYear_25 rfl rfl ?_
        refine jr_aload_n gM dX6_earliestYear_26 rfl rfl ?_
        refine jr_gfr gM dX6_earliestYear_27 rfl fX6_15 rfl rfl ?_
        refine jr_iload gM dX6_earliestYear_30 rfl rfl ?_
        refine jr_iald _ gM dX6_earliestYear_32 rfl rfl rfl (by omega) (by decide) ?_
        have r1 := jey_r (p := p) (y := σ 3) (n := i) (fun u hu => hyr u (by omega))
        have r2 := hyr i (by omega)
        refine jr_min gM dX6_earliestYear_33 rfl kX6_61 ⟨by omega, by omega⟩ ⟨by omega, by omega⟩ (Nat.le_of_ble_eq_true rfl) ?_
        refine jr_istore_n (lv' := [_, _, _, _, _]) gM dX6_earliestYear_36 rfl rfl (Nat.le_of_ble_eq_true rfl) ?_
        refine jr_iinc (lv' := [_, _, _, _, _]) gM dX6_earliestYear_37 rfl rfl rfl ?_
        refine jr_goto gM dX6_earliestYear_40 rfl ?_
        rw [show jey p (σ 3) (i + 1) = min (jey p (σ 3) i) (σ 3 i) by simp [jey, c22]] at h
        exact h
  exact lp 0 (by omega)
/-- what Uses holds: n uses, their neighbours, years, the weights -/
def UI (n : Nat) (nb : Nat → Nat) (yr wt : Nat → Int) (σ : jMem) : Prop :=
  σ 1 5 = (n : Int) ∧ n ≤ 40 ∧ (∀ u, u < n → σ 2 u = (nb u : Int) ∧ nb u < 2 ^ 20 ∧ σ 3 u = yr u ∧ 1800 ≤ yr u ∧ yr u ≤ 1999) ∧ (∀ k, k < 20 → σ 4 k = jk (fun u => decide (u < n) && (nb u).testBit k)) ∧ (∀ k, k < 20 → σ 5 k = wt k ∧ 1 ≤ wt k ∧ wt k ≤ 9) ∧ (∀ a b, a < n → b < n → σ 6 (a * 40 + b) = jfar wt (nb a) (nb b)) ∧ (∀ a, a < 40 → σ 6 (a * 40 + a) = 0)
theorem UI.of {n : Nat} {nb : Nat → Nat} {yr wt : Nat → Int} {σ σ' : jMem} (h : UI n nb yr wt σ) (he : ∀ c, 1 ≤ c → c ≤ 6 → σ' c = σ c) : UI n nb yr wt σ' := by
  unfold UI
  rw [he 1 (by omega) (by omega), he 2 (by omega) (by omega), he 3 (by omega) (by omega), he 4 (by omega) (by omega), he 5 (by omega) (by omega), he 6 (by omega) (by omega)]
  exact h
set_option maxRecDepth 100000 in
theorem take_ok {d : Nat} {σ : jMem} {K : Option Value → jMem → Prop} {n : Nat} {nb : Nat → Nat} {yr wt : Nat → Int} {a : Nat} {y : Int} (hU : UI n nb yr wt σ) (hn : n < 40) (ha : a < 2 ^ 20) (hy : 1800 ≤ y ∧ y ≤ 1999)
    (hK : ∀ σ' : jMem, UI (n + 1) (jset nb n a) (jset yr n y) wt σ' → (∀ c, (c = 0 ∨ 7 ≤ c) → σ' c = σ c) → K (some (.int (jI (n : Int)))) σ') : jRun (d + 1) mX6_take [.ref 1, .int (jI (a : Int)), .int (jI y)] σ K := by
  obtain ⟨u1, u2, u3, u4, u5, u6, u7⟩ := hU
  refine jenter (lv := [_, _, _, _, _]) rfl rfl (Nat.le_of_ble_eq_true rfl) ?_
  refine jr_aload_n gM dX6_take_0 rfl rfl ?_
  refine jr_gfi gM dX6_take_1 rfl fX6_34 rfl rfl ?_
  rw [u1]
  refine jr_istore_n (lv' := [_, _, _, _, _]) gM dX6_take_4 rfl rfl (Nat.le_of_ble_eq_true rfl) ?_
  refine jr_aload_n gM dX6_take_5 rfl rfl ?_
  refine jr_gfr gM dX6_take_6 rfl fX6_9 rfl rfl ?_
  refine jr_iload_n gM dX6_take_9 rfl rfl ?_
  refine jr_iload_n gM dX6_take_10 rfl rfl ?_
  refine jr_iast _ gM dX6_take_11 rfl rfl rfl (by omega) (by decide) ?_
  refine jr_aload_n gM dX6_take_12 rfl rfl ?_
  refine jr_gfr gM dX6_take_13 rfl fX6_15 rfl rfl ?_
  refine jr_iload_n gM dX6_take_16 rfl rfl ?_
  refine jr_iload_n gM dX6_take_17 rfl rfl ?_
  refine jr_iast _ gM dX6_take_18 rfl rfl rfl (by omega) (by decide) ?_
  refine jr_iconst gM dX6_take_19 rfl ?_
  refine jr_istore (lv' := [_, _, _, _, _]) gM dX6_take_20 rfl rfl (Nat.le_of_ble_eq_true rfl) ?_
  -- the rows of those that have a neighbour
  have lp : ∀ i, i ≤ 20 → ∀ σ' : jMem, (∀ c, c ≠ 4 → σ' c = jup (jup σ 2 n a) 3 n y c) → (∀ j, j < 20 → σ' 4 j = if j < i then jk (fun u => decide (u < n + 1) && (jset nb n a u).testBit j) else jk (fun u => decide (u < n) && (nb u).testBit j)) → jV (jP mX6_take (d + 1) K) 22 [some (.ref 1), some (.int (jI (a : Int))), some (.int (jI y)), some (.int (jI (n : Int))), some (.int (jI (i : Int)))] [] σ' := by
    refine jdown 20 ?_
    intro i hi ih σ' h1 h2
    refine jr_iload gM dX6_take_22 rfl rfl ?_
    refine jr_bipush gM dX6_take_24 rfl rfl ?_
    refine jr_icmp_ge gM dX6_take_26 rfl rfl ⟨by omega, by omega⟩ ⟨by omega, by omega⟩ (fun c26 => ?_) (fun c26 => ?_)
    · refine jr_iconst gM dX6_take_58 rfl ?_
      refine jr_istore (lv' := [_, _, _, _, _]) gM dX6_take_59 rfl rfl (Nat.le_of_ble_eq_true rfl) ?_
      have e20 : i = 20 := by omega
      subst e20
      have e5 : σ' 5 = σ 5 := by rw [h1 5 (by omega), jup_row (by omega), jup_row (by omega)]
      have e6 : σ' 6 = σ 6 := by rw [h1 6 (by omega), jup_row (by omega), jup_row (by omega)]
      have e1 : σ' 1 = σ 1 := by rw [h1 1 (by omega), jup_row (by omega), jup_row (by omega)]
      have e2 : σ' 2 = jup σ 2 n a 2 := by rw [h1 2 (by omega), jup_row (by omega)]
      have e3 : ∀ j, σ' 3 j = if j = n then y else σ 3 j := by
        intro j
        rw [h1 3 (by omega)]
        unfold jup
        simp
      have lp2 : ∀ i, i ≤ n → ∀ σ2 : jMem, (∀ c, c ≠ 6 → σ2 c = σ' c) → (∀ x z, x < 40 → z < 40 → σ2 6 (x * 40 + z) = if (x = n ∧ z < i) ∨ (z = n ∧ x < i) then jfar wt a (nb (if x = n then z else x)) else σ 6 (x * 40 + z)) → jV (jP mX6_take (d + 1) K) 61 [some (.ref 1), some (.int (jI (a : Int))), some (.int (jI y)), some (.int (jI (n : Int))), some (.int (jI (i : Int)))] [] σ2 := by
        refine jdown n ?_
        intro i hi ih σ2 g1 g2
        refine jr_iload gM dX6_take_61 rfl rfl ?_
        refine jr_iload_n gM dX6_take_63 rfl rfl ?_
        refine jr_icmp_ge gM dX6_take_64 rfl rfl ⟨by omega, by omega⟩ ⟨by omega, by omega⟩ (fun c64 => ?_) (fun c64 => ?_)
        · have en : i = n := by omega
          subst en
          refine jr_aload_n gM dX6_take_92 rfl rfl ?_
          refine jr_dup gM dX6_take_93 rfl rfl ?_
          refine jr_gfi gM dX6_take_94 rfl fX6_34 rfl rfl ?_
          refine jr_iconst gM dX6_take_97 rfl ?_
          refine jr_iadd gM dX6_take_98 rfl ?_
          refine jr_pf gM dX6_take_99 rfl fX6_34 rfl rfl ⟨rfl, by decide +kernel⟩ ?_
          refine jr_iload_n gM dX6_take_102 rfl rfl ?_
          refine jr_ireturn dX6_take_103 rfl ?_
          have f1 : σ2 1 = σ 1 := by rw [g1 1 (by omega), e1]
          refine hK _ ⟨?_, by omega, fun u hu => ?_, fun k hk => ?_, fun k hk => ?_, fun x z hx hz => ?_, fun x hx => ?_⟩ (fun c hc => ?_)
          · rw [jup_at, f1, u1]
            rfl
          · rw [jup_row (by omega), jup_row (by omega), g1 2 (by omega), g1 3 (by omega), e2, e3]
            by_cases e : u = i
            · subst e
              rw [jup_at, if_pos rfl, jset_at, jset_at]
              exact ⟨rfl, ha, rfl, hy⟩
            · have := u3 u (by omega)
              rw [jup_ne (Or.inr e), if_neg e, jset_ne e, jset_ne e]
              exact this
          · rw [jup_row (by omega), g1 4 (by omega), h2 k hk, if_pos hk]
          · rw [jup_row (by omega), g1 5 (by omega), e5]
            exact u5 k hk
          · rw [jup_row (by omega), g2 x z (by omega) (by omega)]
            by_cases ex : x = i
            · by_cases ez : z = i
              · subst ex; subst ez
                rw [if_neg (by omega), jfar_self]
                exact u7 _ (by omega)
              · subst ex
                rw [if_pos (Or.inl ⟨rfl, by omega⟩), if_pos rfl, jset_at, jset_ne ez]
            · by_cases ez : z = i
              · subst ez
                rw [if_pos (Or.inr ⟨rfl, by omega⟩), if_neg ex, jset_ne ex, jset_at, jfar_symm]
              · rw [if_neg (by omega), jset_ne ex, jset_ne ez]
                exact u6 x z (by omega) (by omega)
          · rw [jup_row (by omega), g2 x x (by omega) (by omega), if_neg (by omega)]
            exact u7 x hx
          · rw [jup_row (by omega), g1 c (by omega), h1 c (by omega), jup_row (by omega), jup_row (by omega)]
        · have n2 : σ2 2 i = (nb i : Int) := by
            rw [g1 2 (by omega), e2, jup_ne (Or.inr (by omega))]
            exact (u3 i (by omega)).1
          refine jr_aload_n gM dX6_take_67 rfl rfl ?_
          refine jr_iload_n gM dX6_take_68 rfl rfl ?_
          refine jr_iload gM dX6_take_69 rfl rfl ?_
          refine jr_aload_n gM dX6_take_71 rfl rfl ?_
          refine jr_iload_n gM dX6_take_72 rfl rfl ?_
          refine jr_aload_n gM dX6_take_73 rfl rfl ?_
          refine jr_gfr gM dX6_take_74 rfl fX6_9 rfl rfl ?_
          refine jr_iload gM dX6_take_77 rfl rfl ?_
          refine jr_iald _ gM dX6_take_79 rfl rfl rfl (by omega) (by decide) ?_
          rw [n2]
          refine jr_inv (as := [_, _]) gM dX6_take_80 rfl kX6_42 rfl rfl rfl (Nat.le_of_ble_eq_true rfl) ?_
          refine apart_ok ha (u3 i (by omega)).2.1 ?_
          dsimp only [Option.toList, List.cons_append, List.nil_append]
          refine jr_inv (as := [_, _, _]) gM dX6_take_83 rfl kX6_46 rfl rfl rfl (Nat.le_of_ble_eq_true rfl) ?_
          refine setBetween_ok (by omega) (by omega) ?_
          dsimp only [Option.toList, List.cons_append, List.nil_append]
          refine jr_iinc (lv' := [_, _, _, _, _]) gM dX6_take_86 rfl rfl rfl ?_
          refine jr_goto gM dX6_take_89 rfl ?_
          have f5 : jfar (σ2 5) a (nb i) = jfar wt a (nb i) := jfar_congr (fun k hk => by rw [g1 5 (by omega), e5]; exact (u5 k hk).1)
          rw [f5]
          refine ih (i + 1) (by omega) (by omega) _ (fun c hc => ?_) (fun x z hx hz => ?_)
          · rw [jup_row hc, jup_row hc]
            exact g1 c hc
          · by_cases q1 : x * 40 + z = i * 40 + n
            · have : x = i ∧ z = n := by omega
              obtain ⟨rfl, rfl⟩ := this
              rw [jup_at, if_pos (Or.inr ⟨rfl, by omega⟩), if_neg (by omega)]
            · rw [jup_ne (Or.inr q1)]
              by_cases q2 : x * 40 + z = n * 40 + i
              · have : x = n ∧ z = i := by omega
                obtain ⟨rfl, rfl⟩ := this
                rw [jup_at, if_pos (Or.inl ⟨rfl, by omega⟩), if_pos rfl]
              · rw [jup_ne (Or.inr q2), g2 x z hx hz]
                have : ((x = n ∧ z < i) ∨ (z = n ∧ x < i)) ↔ ((x = n ∧ z < i + 1) ∨ (z = n ∧ x < i + 1)) := by omega
                simp only [this]
      refine lp2 0 (by omega) σ' (fun c _ => rfl) (fun x z hx hz => ?_)
      rw [if_neg (by omega), e6]
    · refine jr_iload_n gM dX6_take_29 rfl rfl ?_
      refine jr_iload gM dX6_take_30 rfl rfl ?_
      refine jr_ishr (((a / 2 ^ i : Nat) : Int)) gM dX6_take_32 rfl (jx_shr (by omega) (by omega)) ?_
      refine jr_iconst gM dX6_take_33 rfl ?_
      refine jr_iand (bI (a.testBit i = true)) gM dX6_take_34 rfl (jx_lo (by omega)) ?_
      refine jr_pb_eq gM dX6_take_35 rfl rfl (fun c35 => ?_) (fun c35 => ?_)
      · refine jr_iinc (lv' := [_, _, _, _, _]) gM dX6_take_52 rfl rfl rfl ?_
        refine jr_goto gM dX6_take_55 rfl ?_
        refine ih (i + 1) (by omega) (by omega) σ' h1 (fun j hj => ?_)
        rw [h2 j hj]
        by_cases e : j = i
        · subst e
          rw [if_neg (by omega), if_pos (by omega)]
          apply jk_congr
          intro u hu
          by_cases eu : u = n
          · subst eu
            simp at c35
            simp [c35, jset_at]
          · by_cases q : u < n
            · simp [jset_ne eu, eu, q, show u < n + 1 by omega]
            · simp [q, show ¬ u < n + 1 by omega]
        · by_cases q : j < i
          · rw [if_pos q, if_pos (by omega)]
          · rw [if_neg q, if_neg (by omega)]
      · refine jr_aload_n gM dX6_take_38 rfl rfl ?_
        refine jr_gfr gM dX6_take_39 rfl fX6_18 rfl rfl ?_
        refine jr_iload gM dX6_take_42 rfl rfl ?_
        refine jr_dup2 gM dX6_take_44 rfl rfl rfl ?_
        refine jr_lald _ gM dX6_take_45 rfl rfl rfl (by omega) (by decide) ?_
        refine jr_iload_n gM dX6_take_46 rfl rfl ?_
        refine jr_inn (as := [_]) gM dX6_take_47 rfl kX6_38 rfl rfl (Nat.le_of_ble_eq_true rfl) ?_
        refine bit_ok hn ?_
        dsimp only [Option.toList, List.cons_append, List.nil_append]
        rw [h2 i (by omega), if_neg (by omega)]
        refine jr_lor (jk (fun u => (decide (u < n) && (nb u).testBit i) || decide (u = n))) gM dX6_take_50 rfl (jk_or _ _) ?_
        refine jr_last _ gM dX6_take_51 rfl rfl rfl (by omega) (by decide) ?_
        refine jr_iinc (lv' := [_, _, _, _, _]) gM dX6_take_52 rfl rfl rfl ?_
        refine jr_goto gM dX6_take_55 rfl ?_
        refine ih (i + 1) (by omega) (by omega) _ (fun c hc => ?_) (fun j hj => ?_)
        · rw [jup_row hc]
          exact h1 c hc
        · by_cases e : j = i
          · subst e
            rw [jup_at, if_pos (by omega)]
            apply jk_congr
            intro u hu
            by_cases eu : u = n
            · subst eu
              simp [c35, jset_at]
            · by_cases q : u < n
              · simp [jset_ne eu, eu, q, show u < n + 1 by omega]
              · simp [eu, q, show ¬ u < n + 1 by omega]
          · rw [jup_ne (Or.inr e), h2 j hj]
            by_cases q : j < i
            · rw [if_pos q, if_pos (by omega)]
            · rw [if_neg q, if_neg (by omega)]
  refine lp 0 (by omega) _ (fun c _ => rfl) (fun j hj => ?_)
  rw [jup_row (by omega), jup_row (by omega), if_neg (by omega)]
  exact u4 j hj
