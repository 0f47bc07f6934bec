/-! ===== the law: its loop ===== -/
set_option maxRecDepth 100000 in
theorem law_loop {b L : Nat} {xs : Nat → Int32} (hL : L ≤ 2560) : ∀ i, i ≤ L → ∀ σ : jMem, jInv σ → jV (jPL b L xs) 18 [some (.ref 37), some (.ref 0), some (.ref 24), some (.int (jI (i : Int)))] [] σ := by
  refine jdown L ?_
  intro i hi ih σ hinv
  refine jr_iload_n (pc' := 19) gL dL_law_18 rfl rfl ?_
  refine jr_aload_n (pc' := 20) gL dL_law_19 rfl rfl ?_
  refine jr_slen (pc' := 21) dL_law_20 rfl ?_
  refine jr_iconst (pc' := 22) gL dL_law_21 rfl ?_
  refine jr_isub (pc' := 23) gL dL_law_22 rfl ?_
  refine jr_icmp_gt (tgt := 744) (pc' := 26) gL dL_law_23 rfl rfl ⟨by omega, by omega⟩ ⟨by omega, by omega⟩ (fun c23 => ?_) (fun c23 => ?_)
  · refine jr_iconst (pc' := 745) gL dL_law_744 rfl ?_
    exact jr_lend dL_law_745
  · have hi5 : i + 5 ≤ L := by omega
    have fin : ∀ σ' : jMem, jInv σ' → jV (jPL b L xs) 738 [some (.ref 37), some (.ref 0), some (.ref 24), some (.int (jI (i : Int)))] [] σ' := by
      intro σ' hs
      refine jr_iinc (pc' := 741) (lv' := [_, _, _, _]) gL dL_law_738 rfl rfl rfl ?_
      refine jr_goto (tgt := 18) gL dL_law_741 rfl ?_
      exact ih (i + 5) (by omega) hi5 σ' hs
    obtain ⟨n, nb, yr, wt, hp, pr, ga, sh, fe, m, ba, bb, bm, s, se, sp, hC, hM⟩ := hinv
    refine jr_aload_n (pc' := 27) gL dL_law_26 rfl rfl ?_
    refine jr_iload_n (pc' := 28) gL dL_law_27 rfl rfl ?_
    refine jr_sld (pc' := 29) i dL_law_28 rfl rfl (by omega) (by omega) ?_
    refine jr_bipush (pc' := 31) gL dL_law_29 rfl rfl ?_
    refine jr_iand (pc' := 32) ((jI (xs i).toInt &&& jI 31).toInt) gL dL_law_31 rfl (jI_of _).symm ?_
    have hzr := jR_toInt (jI (xs i).toInt &&& jI 31)
    generalize (jI (xs i).toInt &&& jI 31).toInt = z at hzr ⊢
    by_cases hx : z < 0 ∨ 21 < z
    · refine jr_tabOut (tgt := 738) gL dL_law_32 hzr hx rfl ?_
      exact fin σ (jInv_of hC hM)
    · have hc : z = 0 ∨ z = 1 ∨ z = 2 ∨ z = 3 ∨ z = 4 ∨ z = 5 ∨ z = 6 ∨ z = 7 ∨ z = 8 ∨ z = 9 ∨ z = 10 ∨ z = 11 ∨ z = 12 ∨ z = 13 ∨ z = 14 ∨ z = 15 ∨ z = 16 ∨ z = 17 ∨ z = 18 ∨ z = 19 ∨ z = 20 ∨ z = 21 := by omega
      rcases hc with rfl | rfl | rfl | rfl | rfl | rfl | rfl | rfl | rfl | rfl | rfl | rfl | rfl | rfl | rfl | rfl | rfl | rfl | rfl | rfl | rfl | rfl
      · refine jr_tabIn (tgt := 136) gL dL_law_32 hzr (by omega) (by omega) rfl rfl ?_
        exact lc_weight hL hi5 hC hM fin
      · refine jr_tabIn (tgt := 169) gL dL_law_32 hzr (by omega) (by omega) rfl rfl ?_
        exact lc_prices hL hi5 hC hM fin
      · refine jr_tabIn (tgt := 202) gL dL_law_32 hzr (by omega) (by omega) rfl rfl ?_
        exact lc_marks hL hi5 hC hM fin
      · refine jr_tabIn (tgt := 235) gL dL_law_32 hzr (by omega) (by omega) rfl rfl ?_
        exact lc_use hL hi5 hC hM fin
      · refine jr_tabIn (tgt := 268) gL dL_law_32 hzr (by omega) (by omega) rfl rfl ?_
        exact lc_fix hL hi5 hC hM fin
      · refine jr_tabIn (tgt := 301) gL dL_law_32 hzr (by omega) (by omega) rfl rfl ?_
        exact lc_bond hL hi5 hC hM fin
      · refine jr_tabIn (tgt := 360) gL dL_law_32 hzr (by omega) (by omega) rfl rfl ?_
        exact lc_free hL hi5 hC hM fin
      · refine jr_tabIn (tgt := 393) gL dL_law_32 hzr (by omega) (by omega) rfl rfl ?_
        exact lc_settle hL hi5 hC hM fin
      · refine jr_tabIn (tgt := 416) gL dL_law_32 hzr (by omega) (by omega) rfl rfl ?_
        exact lc_heap hL hi5 hC hM fin
      · refine jr_tabIn (tgt := 439) gL dL_law_32 hzr (by omega) (by omega) rfl rfl ?_
        exact lc_size hL hi5 hC hM fin
      · refine jr_tabIn (tgt := 462) gL dL_law_32 hzr (by omega) (by omega) rfl rfl ?_
        exact lc_far hL hi5 hC hM fin
      · refine jr_tabIn (tgt := 495) gL dL_law_32 hzr (by omega) (by omega) rfl rfl ?_
        exact lc_cost hL hi5 hC hM fin
      · refine jr_tabIn (tgt := 508) gL dL_law_32 hzr (by omega) (by omega) rfl rfl ?_
        exact lc_broken hL hi5 hC hM fin
      · refine jr_tabIn (tgt := 521) gL dL_law_32 hzr (by omega) (by omega) rfl rfl ?_
        exact lc_best hL hi5 hC hM fin
      · refine jr_tabIn (tgt := 534) gL dL_law_32 hzr (by omega) (by omega) rfl rfl ?_
        exact lc_name hL hi5 hC hM fin
      · refine jr_tabIn (tgt := 557) gL dL_law_32 hzr (by omega) (by omega) rfl rfl ?_
        exact lc_core hL hi5 hC hM fin
      · refine jr_tabIn (tgt := 580) gL dL_law_32 hzr (by omega) (by omega) rfl rfl ?_
        exact lc_sense hL hi5 hC hM fin
      · refine jr_tabIn (tgt := 603) gL dL_law_32 hzr (by omega) (by omega) rfl rfl ?_
        exact lc_matched hL hi5 hC hM fin
      · refine jr_tabIn (tgt := 626) gL dL_law_32 hzr (by omega) (by omega) rfl rfl ?_
        exact lc_sum hL hi5 hC hM fin
      · refine jr_tabIn (tgt := 639) gL dL_law_32 hzr (by omega) (by omega) rfl rfl ?_
        exact lc_share hL hi5 hC hM fin
      · refine jr_tabIn (tgt := 692) gL dL_law_32 hzr (by omega) (by omega) rfl rfl ?_
        exact lc_first hL hi5 hC hM fin
      · refine jr_tabIn (tgt := 715) gL dL_law_32 hzr (by omega) (by omega) rfl rfl ?_
        exact lc_count hL hi5 hC hM fin
/-! ===== the start ===== -/
theorem ks_all : ∀ (ci : Nat) (r : vw_C), vwCl[ci]? = some r → ∃ n, Cond.instantiable r.1 n ∈ jTB := by
  intro ci r h
  match ci, h with
  | 0, h => cases h; exact ⟨_, ks0⟩
  | 1, h => cases h; exact ⟨_, ks1⟩
  | 2, h => cases h; exact ⟨_, ks2⟩
  | 3, h => cases h; exact ⟨_, ks3⟩
  | 4, h => cases h; exact ⟨_, ks4⟩
  | 5, h => cases h; exact ⟨_, ks5⟩
  | 6, h => cases h; exact ⟨_, ks6⟩
  | 7, h => cases h; exact ⟨_, ks7⟩
  | 8, h => cases h; exact ⟨_, ks8⟩
  | k + 9, h => simp [vwCl] at h
theorem jK_start {s : State} {args : Array Value} (hts : ∀ w ∈ jTB, w.before args s = true) : ∃ (D : va_G) (τ : ClassId × ClassId × ClassId), va_K D vwCl (jT3 τ) s := by
  have hc : ∀ c : Nat, ∃ x : ClassId × (Nat → Nat), ∀ q, vwCl[c]? = some q → u_Kn s q.1 q.2.1 q.2.2 x.1 x.2 := by
    intro c
    cases e : vwCl[c]? with
    | none => exact ⟨((Cond.arrayClass_spec (hts _ jkI)).choose, fun _ => 0), fun q h => by cases h⟩
    | some r =>
      obtain ⟨n, hn⟩ := ks_all c r e
      obtain ⟨cC, iS, h⟩ := u_known hts (jcl_all c r e).1 (hts _ hn)
      exact ⟨(cC, iS), fun q h2 => by cases h2; exact h⟩
  have ha : ∀ ty : FieldType, Cond.arrayClass ty ∈ jTB → ∃ cA : ClassId, ArrOfT s cA ty ∧ s.vm.findClass ("[" ++ ty.toString) = some cA := by
    intro ty h
    obtain ⟨cA, kA, comp, h1, h2, h3⟩ := Cond.arrayClass_spec (hts _ h)
    exact ⟨cA, fun n z => ⟨fun k h => (by cases h), kA, h2, comp, h3⟩, h1⟩
  obtain ⟨cI, i1, i2⟩ := ha .int jkI
  obtain ⟨cJ, j1, j2⟩ := ha .long jkJ
  obtain ⟨cZ, z1, z2⟩ := ha .boolean jkZ
  refine ⟨(fun c => (hc c).choose.1, fun c => (hc c).choose.2), (cI, cJ, cZ), fun c q h => (hc c).choose_spec q h, fun k q h => ?_⟩
  match k, h with
  | 0, h => cases h; exact ⟨i1, i2⟩
  | 1, h => cases h; exact ⟨j1, j2⟩
  | 2, h => cases h; exact ⟨z1, z2⟩
  | k + 3, h => simp at h
def jR10 (j : Nat) : Int := if j = 4 then 10 else if j = 5 then 1 else 0
def jR17 (j : Nat) : Int := if j = 1 then 60 else if j = 2 then 1 else 0
def jR24 (j : Nat) : Int := if j = 1 then 10 else if j = 2 then 1 else if j = 3 then 60 else if j = 4 then 1 else 0
def jS0 (f g h : Nat → Int32) : jMem := fun c => if c = 5 then (fun j => (f j).toInt) else if c = 11 then (fun j => (g j).toInt) else if c = 25 then (fun j => (h j).toInt) else if c = 10 then jR10 else if c = 17 then jR17 else if c = 24 then jR24 else fun _ => 0
theorem jInv_start {f g h : Nat → Int32} (hf : ∀ j, j < 20 → f j = 1) (hg : ∀ j, j < 40 → g j = -1) (hh : ∀ j, j < 20 → h j = 1) : jInv (jS0 f g h) := by
  refine jInv_of (n := 0) (nb := fun _ => 0) (yr := fun _ => 0) (wt := fun _ => 1) (hp := fun _ => -1) (pr := 10) (ga := 1) (sh := 60) (fe := 1) (m := 0) (ba := fun _ => 0) (bb := fun _ => 0) (bm := fun _ => 0) (s := 0) (se := fun _ => 0) (sp := 0) ?_ ?_
  · refine ⟨⟨rfl, by omega, fun u hu => absurd hu (by omega), fun k _ => ?_, fun k hk => ⟨?_, (show (1 : Int) ≤ 1 by decide), (show (1 : Int) ≤ 9 by decide)⟩, fun a b ha => absurd ha (by omega), fun a _ => rfl⟩, ⟨fun _ _ => rfl, fun u hu => absurd hu (by omega)⟩, ⟨fun u hu => ?_, fun h _ => ?_⟩, ⟨fun u _ => ?_, fun u _ => ?_, rfl⟩, bdL_ok ⟨by omega, fun k hk => absurd hk (by omega), fun j k _ hk => absurd hk (by omega)⟩, ⟨rfl, by omega, by omega⟩, ⟨rfl, by omega, by omega⟩, ⟨rfl, by omega, by omega⟩, ⟨rfl, by omega, by omega⟩, ⟨rfl, by omega, fun t ht => absurd ht (by omega)⟩, rfl⟩
    · exact (jk_zero.mpr (fun i _ => by simp)).symm
    · show (f k).toInt = 1
      rw [hf k hk]
      rfl
    · show (g u).toInt = -1
      rw [hg u hu]
      rfl
    · exact (jk_zero.mpr (fun i _ => by
        rw [decide_eq_false_iff_not]
        show ¬ ((-1 : Int) = _)
        omega)).symm
    · exact (jk_zero.mpr (fun i _ => by
        rw [decide_eq_false_iff_not, bdL_none (fun k hk => absurd hk (by omega))]
        omega)).symm
    · exact (jk_zero.mpr (fun i _ => by
        rw [decide_eq_false_iff_not, bdL_none (fun k hk => absurd hk (by omega))]
        omega)).symm
  · refine ⟨⟨rfl, by omega⟩, fun u hu => absurd hu (by omega), fun u hu => absurd hu (by omega), fun k hk => ⟨?_, (show (1 : Int) ≤ 1 by decide), (show (1 : Int) ≤ 9 by decide)⟩, ⟨fun _ _ => rfl, fun u hu => absurd hu (by omega)⟩, fun u hu => absurd hu (by omega), fun a b ha => absurd ha (by omega), ⟨⟨rfl, fun k hk => absurd hk (by omega)⟩, ⟨by omega, fun k hk => absurd hk (by omega), fun j k _ hk => absurd hk (by omega)⟩⟩, ⟨rfl, by omega, by omega⟩, ⟨rfl, by omega, by omega⟩, ⟨rfl, by omega, by omega⟩, ⟨rfl, by omega, by omega⟩, ⟨rfl, by omega, fun t ht => absurd ht (by omega)⟩, rfl⟩
    show (h k).toInt = 1
    rw [hh k hk]
    rfl
