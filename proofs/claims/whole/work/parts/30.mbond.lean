/-! ===== the reference: bonds, sizes ===== -/
def ML (m : Nat) (ba bb : Nat → Nat) (bm : Nat → Int) (σ : jMem) : Prop := σ 24 10 = (m : Int) ∧ ∀ k, k < m → σ 30 k = (ba k : Int) ∧ σ 31 k = (bb k : Int) ∧ σ 32 k = bm k
theorem ML.of {m : Nat} {ba bb : Nat → Nat} {bm : Nat → Int} {σ σ' : jMem} (h : ML m ba bb bm σ) (h1 : σ' 24 10 = σ 24 10) (h2 : ∀ c, 30 ≤ c → c ≤ 32 → σ' c = σ c) : ML m ba bb bm σ' := by
  unfold ML
  rw [h1, h2 30 (by omega) (by omega), h2 31 (by omega) (by omega), h2 32 (by omega) (by omega)]
  exact h
section jMb
variable {n m : Nat} {ba bb : Nat → Nat} {bm hp : Nat → Int} {σ : jMem} {K : Option Value → jMem → Prop} {d : Nat}
set_option maxRecDepth 100000 in
theorem bondOf_ok {x y : Int} (hL : ML m ba bb bm σ) (hB : BL n m ba bb bm) (hn : n ≤ 40) (h1 : jR x) (h2 : jR y) (hK0 : (∀ k, k < m → ¬ (((ba k : Int) = x ∧ (bb k : Int) = y) ∨ ((ba k : Int) = y ∧ (bb k : Int) = x))) → K (some (.int (jI (-1)))) σ) (hK1 : ∀ k, k < m → ((ba k : Int) = x ∧ (bb k : Int) = y) ∨ ((ba k : Int) = y ∧ (bb k : Int) = x) → K (some (.int (jI (k : Int)))) σ) : jRun d mX8_bondOf [.ref 24, .int (jI x), .int (jI y)] σ K := by
  have hm := hB.1
  refine jenter (lv := [_, _, _, _]) rfl rfl (Nat.le_of_ble_eq_true rfl) ?_
  refine jr_iconst (pc' := 1) gM dX8_bondOf_0 rfl ?_
  refine jr_istore_n (pc' := 2) (lv' := [_, _, _, _]) gM dX8_bondOf_1 rfl rfl (Nat.le_of_ble_eq_true rfl) ?_
  have lp : ∀ i, i ≤ m → (∀ k, k < i → ¬ (((ba k : Int) = x ∧ (bb k : Int) = y) ∨ ((ba k : Int) = y ∧ (bb k : Int) = x))) → jV (jP mX8_bondOf d K) 2 [some (.ref 24), some (.int (jI x)), some (.int (jI y)), some (.int (jI (i : Int)))] [] σ := by
    refine jdown m ?_
    intro i hi ih hno
    refine jr_iload_n (pc' := 3) gM dX8_bondOf_2 rfl rfl ?_
    refine jr_aload_n (pc' := 4) gM dX8_bondOf_3 rfl rfl ?_
    refine jr_gfi (pc' := 7) gM dX8_bondOf_4 rfl fX8_90 rfl rfl ?_
    rw [hL.1]
    refine jr_icmp_ge (tgt := 58) (pc' := 10) gM dX8_bondOf_7 rfl rfl ⟨by omega, by omega⟩ ⟨by omega, by omega⟩ (fun c7 => ?_) (fun c7 => ?_)
    · refine jr_iconst (pc' := 59) gM dX8_bondOf_58 rfl ?_
      refine jr_ireturn dX8_bondOf_59 rfl ?_
      have e : i = m := by omega
      subst e
      exact hK0 hno
    · have hb := hB.2.1 i (by omega)
      obtain ⟨l1, l2, l3⟩ := hL.2 i (by omega)
      have no : ¬ (((ba i : Int) = x ∧ (bb i : Int) = y) ∨ ((ba i : Int) = y ∧ (bb i : Int) = x)) → jV (jP mX8_bondOf d K) 52 [some (.ref 24), some (.int (jI x)), some (.int (jI y)), some (.int (jI (i : Int)))] [] σ := by
        intro hq
        refine jr_iinc (pc' := 55) (lv' := [_, _, _, _]) gM dX8_bondOf_52 rfl rfl rfl ?_
        refine jr_goto (tgt := 2) gM dX8_bondOf_55 rfl ?_
        refine ih (i + 1) (by omega) (by omega) (fun k hk => ?_)
        by_cases e : k = i
        · subst e
          exact hq
        · exact hno k (by omega)
      have yes : (((ba i : Int) = x ∧ (bb i : Int) = y) ∨ ((ba i : Int) = y ∧ (bb i : Int) = x)) → jV (jP mX8_bondOf d K) 50 [some (.ref 24), some (.int (jI x)), some (.int (jI y)), some (.int (jI (i : Int)))] [] σ := by
        intro hq
        refine jr_iload_n (pc' := 51) gM dX8_bondOf_50 rfl rfl ?_
        refine jr_ireturn dX8_bondOf_51 rfl ?_
        exact hK1 i (by omega) hq
      have second : ¬ ((ba i : Int) = x ∧ (bb i : Int) = y) → jV (jP mX8_bondOf d K) 30 [some (.ref 24), some (.int (jI x)), some (.int (jI y)), some (.int (jI (i : Int)))] [] σ := by
        intro hq
        refine jr_aload_n (pc' := 31) gM dX8_bondOf_30 rfl rfl ?_
        refine jr_gfr (pc' := 34) gM dX8_bondOf_31 rfl fX8_38 rfl rfl ?_
        refine jr_iload_n (pc' := 35) gM dX8_bondOf_34 rfl rfl ?_
        refine jr_iald (pc' := 36) _ gM dX8_bondOf_35 rfl rfl rfl (by omega) (by decide) ?_
        refine jr_iload_n (pc' := 37) gM dX8_bondOf_36 rfl rfl ?_
        rw [l1]
        refine jr_icmp_ne (tgt := 52) (pc' := 40) gM dX8_bondOf_37 rfl rfl ⟨by omega, by omega⟩ ⟨by omega, by omega⟩ (fun c37 => ?_) (fun c37 => ?_)
        · exact no (by omega)
        · refine jr_aload_n (pc' := 41) gM dX8_bondOf_40 rfl rfl ?_
          refine jr_gfr (pc' := 44) gM dX8_bondOf_41 rfl fX8_41 rfl rfl ?_
          refine jr_iload_n (pc' := 45) gM dX8_bondOf_44 rfl rfl ?_
          refine jr_iald (pc' := 46) _ gM dX8_bondOf_45 rfl rfl rfl (by omega) (by decide) ?_
          refine jr_iload_n (pc' := 47) gM dX8_bondOf_46 rfl rfl ?_
          rw [l2]
          refine jr_icmp_ne (tgt := 52) (pc' := 50) gM dX8_bondOf_47 rfl rfl ⟨by omega, by omega⟩ ⟨by omega, by omega⟩ (fun c47 => ?_) (fun c47 => ?_)
          · exact no (by omega)
          · exact yes (by omega)
      refine jr_aload_n (pc' := 11) gM dX8_bondOf_10 rfl rfl ?_
      refine jr_gfr (pc' := 14) gM dX8_bondOf_11 rfl fX8_38 rfl rfl ?_
      refine jr_iload_n (pc' := 15) gM dX8_bondOf_14 rfl rfl ?_
      refine jr_iald (pc' := 16) _ gM dX8_bondOf_15 rfl rfl rfl (by omega) (by decide) ?_
      refine jr_iload_n (pc' := 17) gM dX8_bondOf_16 rfl rfl ?_
      rw [l1]
      refine jr_icmp_ne (tgt := 30) (pc' := 20) gM dX8_bondOf_17 rfl rfl ⟨by omega, by omega⟩ ⟨by omega, by omega⟩ (fun c17 => ?_) (fun c17 => ?_)
      · exact second (by omega)
      · refine jr_aload_n (pc' := 21) gM dX8_bondOf_20 rfl rfl ?_
        refine jr_gfr (pc' := 24) gM dX8_bondOf_21 rfl fX8_41 rfl rfl ?_
        refine jr_iload_n (pc' := 25) gM dX8_bondOf_24 rfl rfl ?_
        refine jr_iald (pc' := 26) _ gM dX8_bondOf_25 rfl rfl rfl (by omega) (by decide) ?_
        refine jr_iload_n (pc' := 27) gM dX8_bondOf_26 rfl rfl ?_
        rw [l2]
        refine jr_icmp_eq (tgt := 50) (pc' := 30) gM dX8_bondOf_27 rfl rfl ⟨by omega, by omega⟩ ⟨by omega, by omega⟩ (fun c27 => ?_) (fun c27 => ?_)
        · exact yes (by omega)
        · exact second (by omega)
  exact lp 0 (by omega) (fun k hk => absurd hk (by omega))
set_option maxRecDepth 100000 in
theorem isBroken_ok {k : Nat} {a b : Int} (hL : ML m ba bb bm σ) (hB : BL n m ba bb bm) (hk : k < m) (h1 : jR a) (h2 : jR b) (hK : K (some (.int (jI (bI (a ≠ -1 ∧ b ≠ -1 ∧ ((bm k = 1 ∧ a ≠ b) ∨ (bm k = 0 ∧ a = b))))))) σ) : jRun d mX8_isBroken [.ref 24, .int (jI (k : Int)), .int (jI a), .int (jI b)] σ K := by
  have hm := hB.1
  have hb := (hB.2.1 k hk).2.2.2
  obtain ⟨l1, l2, l3⟩ := hL.2 k hk
  have fin : ∀ z : Int, (z = 1 ∧ a = b) ∨ (z = 0 ∧ a ≠ b) → a ≠ -1 → b ≠ -1 → jV (jP mX8_isBroken d K) 20 [some (.ref 24), some (.int (jI (k : Int))), some (.int (jI a)), some (.int (jI b))] [.int (jI z)] σ := by
    intro z hz ha hb2
    refine jr_aload_n (pc' := 21) gM dX8_isBroken_20 rfl rfl ?_
    refine jr_gfr (pc' := 24) gM dX8_isBroken_21 rfl fX8_44 rfl rfl ?_
    refine jr_iload_n (pc' := 25) gM dX8_isBroken_24 rfl rfl ?_
    refine jr_zald (pc' := 26) _ gM dX8_isBroken_25 rfl rfl rfl (by omega) (by decide) ?_
    rw [l3]
    refine jr_icmp_eq (tgt := 33) (pc' := 29) gM dX8_isBroken_26 rfl rfl ⟨by omega, by omega⟩ ⟨by omega, by omega⟩ (fun c26 => ?_) (fun c26 => ?_)
    · refine jr_iconst (pc' := 34) gM dX8_isBroken_33 rfl ?_
      refine jr_zreturn dX8_isBroken_34 rfl (by first | omega | exact bI_01 _) ?_
      rw [bI_f (by omega)] at hK
      exact hK
    · refine jr_iconst (pc' := 30) gM dX8_isBroken_29 rfl ?_
      refine jr_goto (tgt := 34) gM dX8_isBroken_30 rfl ?_
      refine jr_zreturn dX8_isBroken_34 rfl (by first | omega | exact bI_01 _) ?_
      rw [bI_t (by omega)] at hK
      exact hK
  refine jenter (lv := [_, _, _, _]) rfl rfl (Nat.le_of_ble_eq_true rfl) ?_
  refine jr_iload_n (pc' := 1) gM dX8_isBroken_0 rfl rfl ?_
  refine jr_iconst (pc' := 2) gM dX8_isBroken_1 rfl ?_
  refine jr_icmp_eq (tgt := 33) (pc' := 5) gM dX8_isBroken_2 rfl rfl ⟨by omega, by omega⟩ ⟨by omega, by omega⟩ (fun c2 => ?_) (fun c2 => ?_)
  · refine jr_iconst (pc' := 34) gM dX8_isBroken_33 rfl ?_
    refine jr_zreturn dX8_isBroken_34 rfl (by first | omega | exact bI_01 _) ?_
    rw [bI_f (fun q => q.1 c2)] at hK
    exact hK
  · refine jr_iload_n (pc' := 6) gM dX8_isBroken_5 rfl rfl ?_
    refine jr_iconst (pc' := 7) gM dX8_isBroken_6 rfl ?_
    refine jr_icmp_eq (tgt := 33) (pc' := 10) gM dX8_isBroken_7 rfl rfl ⟨by omega, by omega⟩ ⟨by omega, by omega⟩ (fun c7 => ?_) (fun c7 => ?_)
    · refine jr_iconst (pc' := 34) gM dX8_isBroken_33 rfl ?_
      refine jr_zreturn dX8_isBroken_34 rfl (by first | omega | exact bI_01 _) ?_
      rw [bI_f (fun q => q.2.1 c7)] at hK
      exact hK
    · refine jr_iload_n (pc' := 11) gM dX8_isBroken_10 rfl rfl ?_
      refine jr_iload_n (pc' := 12) gM dX8_isBroken_11 rfl rfl ?_
      refine jr_icmp_ne (tgt := 19) (pc' := 15) gM dX8_isBroken_12 rfl rfl ⟨by omega, by omega⟩ ⟨by omega, by omega⟩ (fun c12 => ?_) (fun c12 => ?_)
      · refine jr_iconst (pc' := 20) gM dX8_isBroken_19 rfl ?_
        exact fin 0 (Or.inr ⟨rfl, c12⟩) c2 c7
      · refine jr_iconst (pc' := 16) gM dX8_isBroken_15 rfl ?_
        refine jr_goto (tgt := 20) gM dX8_isBroken_16 rfl ?_
        exact fin 1 (Or.inl ⟨rfl, c12⟩) c2 c7
set_option maxRecDepth 100000 in
theorem breaks_ok {u : Nat} {h : Int} (hL : ML m ba bb bm σ) (hB : BL n m ba bb bm) (hn : n ≤ 40) (hV : HV n hp) (hh : ∀ u, u < n → σ 28 u = hp u) (hu : u < n) (h1 : jR h) (hne : h ≠ -1) (hK : K (some (.int (jI ((bkF (bdL ba bb bm m) hp u h : Nat) : Int)))) σ) : jRun (d + 1) mX8_breaks [.ref 24, .int (jI (u : Int)), .int (jI h)] σ K := by
  have hm := hB.1
  refine jenter (lv := [_, _, _, _, _, _]) rfl rfl (Nat.le_of_ble_eq_true rfl) ?_
  refine jr_iconst (pc' := 1) gM dX8_breaks_0 rfl ?_
  refine jr_istore_n (pc' := 2) (lv' := [_, _, _, _, _, _]) gM dX8_breaks_1 rfl rfl (Nat.le_of_ble_eq_true rfl) ?_
  refine jr_iconst (pc' := 3) gM dX8_breaks_2 rfl ?_
  refine jr_istore (pc' := 5) (lv' := [_, _, _, _, _, _]) gM dX8_breaks_3 rfl rfl (Nat.le_of_ble_eq_true rfl) ?_
  have lp : ∀ i, i ≤ m → ∀ q5 : Option Value, jV (jP mX8_breaks (d + 1) K) 5 [some (.ref 24), some (.int (jI (u : Int))), some (.int (jI h)), some (.int (jI ((bkF (bdL ba bb bm i) hp u h : Nat) : Int))), some (.int (jI (i : Int))), q5] [] σ := by
    refine jdown m ?_
    intro i hi ih q5
    refine jr_iload (pc' := 7) gM dX8_breaks_5 rfl rfl ?_
    refine jr_aload_n (pc' := 8) gM dX8_breaks_7 rfl rfl ?_
    refine jr_gfi (pc' := 11) gM dX8_breaks_8 rfl fX8_90 rfl rfl ?_
    rw [hL.1]
    refine jr_icmp_ge (tgt := 91) (pc' := 14) gM dX8_breaks_11 rfl rfl ⟨by omega, by omega⟩ ⟨by omega, by omega⟩ (fun c11 => ?_) (fun c11 => ?_)
    · refine jr_iload_n (pc' := 92) gM dX8_breaks_91 rfl rfl ?_
      refine jr_ireturn dX8_breaks_92 rfl ?_
      have e : i = m := by omega
      subst e
      exact hK
    · have hb := hB.2.1 i (by omega)
      obtain ⟨l1, l2, l3⟩ := hL.2 i (by omega)
      obtain ⟨s1, s2⟩ := bkF_s (hB.pre (show i + 1 ≤ m by omega)) hn (hp := hp) (u := u) hne
      have nxt := fun q => ih (i + 1) (by omega) (by omega) q
      have no : ¬ bkT ba bb bm hp i u h → ∀ q5, jV (jP mX8_breaks (d + 1) K) 85 [some (.ref 24), some (.int (jI (u : Int))), some (.int (jI h)), some (.int (jI ((bkF (bdL ba bb bm i) hp u h : Nat) : Int))), some (.int (jI (i : Int))), q5] [] σ := by
        intro hq q5
        rw [← s2 hq]
        refine jr_iinc (pc' := 88) (lv' := [_, _, _, _, _, _]) gM dX8_breaks_85 rfl rfl rfl ?_
        refine jr_goto (tgt := 5) gM dX8_breaks_88 rfl ?_
        exact nxt q5
      have withO : ∀ o : Nat, o < n → (bkT ba bb bm hp i u h ↔ (hp o ≠ -1 ∧ ((bm i = 1 ∧ hp o ≠ h) ∨ (bm i = 0 ∧ hp o = h)))) → jV (jP mX8_breaks (d + 1) K) 57 [some (.ref 24), some (.int (jI (u : Int))), some (.int (jI h)), some (.int (jI ((bkF (bdL ba bb bm i) hp u h : Nat) : Int))), some (.int (jI (i : Int))), q5] [.int (jI (o : Int))] σ := by
        intro o ho hiff
        have hr := hV.r hn o
        refine jr_istore (pc' := 59) (lv' := [_, _, _, _, _, _]) gM dX8_breaks_57 rfl rfl (Nat.le_of_ble_eq_true rfl) ?_
        refine jr_iload (pc' := 61) gM dX8_breaks_59 rfl rfl ?_
        refine jr_iconst (pc' := 62) gM dX8_breaks_61 rfl ?_
        refine jr_icmp_eq (tgt := 85) (pc' := 65) gM dX8_breaks_62 rfl rfl ⟨by omega, by omega⟩ ⟨by omega, by omega⟩ (fun cc => absurd cc (by omega)) (fun _ => ?_)
        refine jr_aload_n (pc' := 66) gM dX8_breaks_65 rfl rfl ?_
        refine jr_iload (pc' := 68) gM dX8_breaks_66 rfl rfl ?_
        refine jr_iload_n (pc' := 69) gM dX8_breaks_68 rfl rfl ?_
        refine jr_aload_n (pc' := 70) gM dX8_breaks_69 rfl rfl ?_
        refine jr_gfr (pc' := 73) gM dX8_breaks_70 rfl fX8_32 rfl rfl ?_
        refine jr_iload (pc' := 75) gM dX8_breaks_73 rfl rfl ?_
        refine jr_iald (pc' := 76) (o) gM dX8_breaks_75 rfl rfl (rfl) (by omega) (by decide) ?_
        rw [hh o ho]
        refine jr_inv (pc' := 79) (as := [_, _, _]) gM dX8_breaks_76 rfl kX8_96 rfl rfl rfl (Nat.le_of_ble_eq_true rfl) ?_
        refine isBroken_ok hL hB (by omega) h1 ⟨by omega, by omega⟩ ?_
        dsimp only [Option.toList, List.cons_append, List.nil_append]
        refine jr_pb_eq (tgt := 85) (pc' := 82) gM dX8_breaks_79 rfl rfl (fun c79 => ?_) (fun c79 => ?_)
        · exact no (fun q => c79 (by have := hiff.mp q; omega)) _
        · refine jr_iinc (pc' := 85) (lv' := [_, _, _, _, _, _]) gM dX8_breaks_82 rfl rfl rfl ?_
          refine jr_iinc (pc' := 88) (lv' := [_, _, _, _, _, _]) gM dX8_breaks_85 rfl rfl rfl ?_
          refine jr_goto (tgt := 5) gM dX8_breaks_88 rfl ?_
          have := nxt (some (.int (jI (o : Int))))
          rw [s1 (hiff.mpr (by omega))] at this
          exact this
      refine jr_aload_n (pc' := 15) gM dX8_breaks_14 rfl rfl ?_
      refine jr_gfr (pc' := 18) gM dX8_breaks_15 rfl fX8_38 rfl rfl ?_
      refine jr_iload (pc' := 20) gM dX8_breaks_18 rfl rfl ?_
      refine jr_iald (pc' := 21) _ gM dX8_breaks_20 rfl rfl rfl (by omega) (by decide) ?_
      refine jr_iload_n (pc' := 22) gM dX8_breaks_21 rfl rfl ?_
      rw [l1]
      refine jr_icmp_ne (tgt := 35) (pc' := 25) gM dX8_breaks_22 rfl rfl ⟨by omega, by omega⟩ ⟨by omega, by omega⟩ (fun c22 => ?_) (fun c22 => ?_)
      · refine jr_aload_n (pc' := 36) gM dX8_breaks_35 rfl rfl ?_
        refine jr_gfr (pc' := 39) gM dX8_breaks_36 rfl fX8_41 rfl rfl ?_
        refine jr_iload (pc' := 41) gM dX8_breaks_39 rfl rfl ?_
        refine jr_iald (pc' := 42) _ gM dX8_breaks_41 rfl rfl rfl (by omega) (by decide) ?_
        refine jr_iload_n (pc' := 43) gM dX8_breaks_42 rfl rfl ?_
        rw [l2]
        refine jr_icmp_ne (tgt := 56) (pc' := 46) gM dX8_breaks_43 rfl rfl ⟨by omega, by omega⟩ ⟨by omega, by omega⟩ (fun c43 => ?_) (fun c43 => ?_)
        · refine jr_iconst (pc' := 57) gM dX8_breaks_56 rfl ?_
          refine jr_istore (pc' := 59) (lv' := [_, _, _, _, _, _]) gM dX8_breaks_57 rfl rfl (Nat.le_of_ble_eq_true rfl) ?_
          refine jr_iload (pc' := 61) gM dX8_breaks_59 rfl rfl ?_
          refine jr_iconst (pc' := 62) gM dX8_breaks_61 rfl ?_
          refine jr_icmp_eq (tgt := 85) (pc' := 65) gM dX8_breaks_62 rfl rfl ⟨by omega, by omega⟩ ⟨by omega, by omega⟩ (fun _ => ?_) (fun cc => absurd cc (by omega))
          exact no (by unfold bkT; omega) _
        · refine jr_aload_n (pc' := 47) gM dX8_breaks_46 rfl rfl ?_
          refine jr_gfr (pc' := 50) gM dX8_breaks_47 rfl fX8_38 rfl rfl ?_
          refine jr_iload (pc' := 52) gM dX8_breaks_50 rfl rfl ?_
          refine jr_iald (pc' := 53) _ gM dX8_breaks_52 rfl rfl rfl (by omega) (by decide) ?_
          rw [l1]
          refine jr_goto (tgt := 57) gM dX8_breaks_53 rfl ?_
          refine withO (ba i) (by omega) ?_
          unfold bkT
          constructor
          · rintro (q | q)
            · omega
            · exact q.2
          · intro q
            exact Or.inr ⟨by omega, q⟩
      · refine jr_aload_n (pc' := 26) gM dX8_breaks_25 rfl rfl ?_
        refine jr_gfr (pc' := 29) gM dX8_breaks_26 rfl fX8_41 rfl rfl ?_
        refine jr_iload (pc' := 31) gM dX8_breaks_29 rfl rfl ?_
        refine jr_iald (pc' := 32) _ gM dX8_breaks_31 rfl rfl rfl (by omega) (by decide) ?_
        rw [l2]
        refine jr_goto (tgt := 57) gM dX8_breaks_32 rfl ?_
        refine withO (bb i) (by omega) ?_
        unfold bkT
        constructor
        · rintro (q | q)
          · exact q.2
          · omega
        · intro q
          exact Or.inl ⟨by omega, q⟩
  have := lp 0 (by omega) none
  rw [bkF_0] at this
  exact this
/-- a bond is broken -/
def boP (ba bb : Nat → Nat) (bm hp : Nat → Int) (k : Nat) : Prop := hp (ba k) ≠ -1 ∧ hp (bb k) ≠ -1 ∧ ((bm k = 1 ∧ hp (ba k) ≠ hp (bb k)) ∨ (bm k = 0 ∧ hp (ba k) = hp (bb k)))
set_option maxRecDepth 100000 in
theorem mbroken_ok (hL : ML m ba bb bm σ) (hB : BL n m ba bb bm) (hn : n ≤ 40) (hV : HV n hp) (hh : ∀ u, u < n → σ 28 u = hp u) (hK : K (some (.int (jI (js (fun k => bI (hp (ba k) ≠ -1 ∧ hp (bb k) ≠ -1 ∧ ((bm k = 1 ∧ hp (ba k) ≠ hp (bb k)) ∨ (bm k = 0 ∧ hp (ba k) = hp (bb k))))) m)))) σ) : jRun (d + 1) mX8_broken [.ref 24] σ K := by
  have hm := hB.1
  refine jenter (lv := [_, _, _]) rfl rfl (Nat.le_of_ble_eq_true rfl) ?_
  refine jr_iconst (pc' := 1) gM dX8_broken_0 rfl ?_
  refine jr_istore_n (pc' := 2) (lv' := [_, _, _]) gM dX8_broken_1 rfl rfl (Nat.le_of_ble_eq_true rfl) ?_
  refine jr_iconst (pc' := 3) gM dX8_broken_2 rfl ?_
  refine jr_istore_n (pc' := 4) (lv' := [_, _, _]) gM dX8_broken_3 rfl rfl (Nat.le_of_ble_eq_true rfl) ?_
  have lp : ∀ i, i ≤ m → jV (jP mX8_broken (d + 1) K) 4 [some (.ref 24), some (.int (jI (js (fun k => bI (hp (ba k) ≠ -1 ∧ hp (bb k) ≠ -1 ∧ ((bm k = 1 ∧ hp (ba k) ≠ hp (bb k)) ∨ (bm k = 0 ∧ hp (ba k) = hp (bb k))))) i))), some (.int (jI (i : Int)))] [] σ := by
    refine jdown m ?_
    intro i hi ih
    refine jr_iload_n (pc' := 5) gM dX8_broken_4 rfl rfl ?_
    refine jr_aload_n (pc' := 6) gM dX8_broken_5 rfl rfl ?_
    refine jr_gfi (pc' := 9) gM dX8_broken_6 rfl fX8_90 rfl rfl ?_
    rw [hL.1]
    refine jr_icmp_ge (tgt := 56) (pc' := 12) gM dX8_broken_9 rfl rfl ⟨by omega, by omega⟩ ⟨by omega, by omega⟩ (fun c9 => ?_) (fun c9 => ?_)
    · refine jr_iload_n (pc' := 57) gM dX8_broken_56 rfl rfl ?_
      refine jr_ireturn dX8_broken_57 rfl ?_
      have e : i = m := by omega
      subst e
      exact hK
    · have hb := hB.2.1 i (by omega)
      obtain ⟨l1, l2, l3⟩ := hL.2 i (by omega)
      have r1 := hV.r hn (ba i)
      have r2 := hV.r hn (bb i)
      have nxt := ih (i + 1) (by omega) (by omega)
      simp only [js] at nxt
      refine jr_iload_n (pc' := 13) gM dX8_broken_12 rfl rfl ?_
      refine jr_aload_n (pc' := 14) gM dX8_broken_13 rfl rfl ?_
      refine jr_iload_n (pc' := 15) gM dX8_broken_14 rfl rfl ?_
      refine jr_aload_n (pc' := 16) gM dX8_broken_15 rfl rfl ?_
      refine jr_gfr (pc' := 19) gM dX8_broken_16 rfl fX8_32 rfl rfl ?_
      refine jr_aload_n (pc' := 20) gM dX8_broken_19 rfl rfl ?_
      refine jr_gfr (pc' := 23) gM dX8_broken_20 rfl fX8_38 rfl rfl ?_
      refine jr_iload_n (pc' := 24) gM dX8_broken_23 rfl rfl ?_
      refine jr_iald (pc' := 25) _ gM dX8_broken_24 rfl rfl rfl (by omega) (by decide) ?_
      rw [l1]
      refine jr_iald (pc' := 26) (ba i) gM dX8_broken_25 rfl rfl (rfl) (by omega) (by decide) ?_
      rw [hh _ hb.1]
      refine jr_aload_n (pc' := 27) gM dX8_broken_26 rfl rfl ?_
      refine jr_gfr (pc' := 30) gM dX8_broken_27 rfl fX8_32 rfl rfl ?_
      refine jr_aload_n (pc' := 31) gM dX8_broken_30 rfl rfl ?_
      refine jr_gfr (pc' := 34) gM dX8_broken_31 rfl fX8_41 rfl rfl ?_
      refine jr_iload_n (pc' := 35) gM dX8_broken_34 rfl rfl ?_
      refine jr_iald (pc' := 36) _ gM dX8_broken_35 rfl rfl rfl (by omega) (by decide) ?_
      rw [l2]
      refine jr_iald (pc' := 37) (bb i) gM dX8_broken_36 rfl rfl (rfl) (by omega) (by decide) ?_
      rw [hh _ hb.2.1]
      refine jr_inv (pc' := 40) (as := [_, _, _]) gM dX8_broken_37 rfl kX8_96 rfl rfl rfl (Nat.le_of_ble_eq_true rfl) ?_
      refine isBroken_ok hL hB (by omega) ⟨by omega, by omega⟩ ⟨by omega, by omega⟩ ?_
      dsimp only [Option.toList, List.cons_append, List.nil_append]
      refine jr_pb_eq (tgt := 47) (pc' := 43) gM dX8_broken_40 rfl rfl (fun c40 => ?_) (fun c40 => ?_)
      · refine jr_iconst (pc' := 48) gM dX8_broken_47 rfl ?_
        refine jr_iadd (pc' := 49) gM dX8_broken_48 rfl ?_
        refine jr_istore_n (pc' := 50) (lv' := [_, _, _]) gM dX8_broken_49 rfl rfl (Nat.le_of_ble_eq_true rfl) ?_
        refine jr_iinc (pc' := 53) (lv' := [_, _, _]) gM dX8_broken_50 rfl rfl rfl ?_
        refine jr_goto (tgt := 4) gM dX8_broken_53 rfl ?_
        rw [bI_f c40] at nxt
        exact nxt
      · refine jr_iconst (pc' := 44) gM dX8_broken_43 rfl ?_
        refine jr_goto (tgt := 48) gM dX8_broken_44 rfl ?_
        refine jr_iadd (pc' := 49) gM dX8_broken_48 rfl ?_
        refine jr_istore_n (pc' := 50) (lv' := [_, _, _]) gM dX8_broken_49 rfl rfl (Nat.le_of_ble_eq_true rfl) ?_
        refine jr_iinc (pc' := 53) (lv' := [_, _, _]) gM dX8_broken_50 rfl rfl rfl ?_
        refine jr_goto (tgt := 4) gM dX8_broken_53 rfl ?_
        rw [bI_t c40] at nxt
        exact nxt
  exact lp 0 (by omega)
theorem js_jn (p : Nat → Bool) (n : Nat) : js (fun v => bI (p v = true)) n = ((jn p n : Nat) : Int) := by
  induction n with
  | zero => rfl
  | succ n ih =>
    simp only [js, jn]
    rw [ih]
    unfold bI
    split <;> omega
theorem jn_cut {p : Nat → Bool} {n k : Nat} (hk : k ≤ n) (h : ∀ i, k ≤ i → i < n → p i = false) : jn p n = jn p k := by
  induction n with
  | zero =>
    have : k = 0 := by omega
    subst this
    rfl
  | succ n ih =>
    by_cases e : k = n + 1
    · subst e
      rfl
    · simp only [jn]
      rw [ih (by omega) (fun i h1 h2 => h i h1 (by omega)), h n (by omega) (by omega)]
      rfl
theorem sz_js {x : Int} (hV : HV n hp) (hn : n ≤ 40) (hx : 0 ≤ x) : js (fun v => bI (hp v = x)) n = ((jn (fun v => decide (0 ≤ x ∧ hp v = x)) 40 : Nat) : Int) := by
  rw [jn_cut (k := n) hn (fun i h1 _ => by
    have := hV.1 i h1
    simp only [decide_eq_false_iff_not]
    omega), ← js_jn]
  apply js_congr
  intro v _
  exact bI_iff (by simp only [decide_eq_true_eq]; omega)
set_option maxRecDepth 100000 in
theorem msize_ok {x : Int} (hn : σ 24 5 = (n : Int)) (hn2 : n ≤ 40) (hV : HV n hp) (hh : ∀ u, u < n → σ 28 u = hp u) (h1 : jR x) (hK : K (some (.int (jI ((jn (fun v => decide (0 ≤ x ∧ hp v = x)) 40 : Nat) : Int)))) σ) : jRun (d + 3) mX8_size [.ref 24, .int (jI x)] σ K := by
  refine jenter (lv := [_, _, _, _]) rfl rfl (Nat.le_of_ble_eq_true rfl) ?_
  refine jr_aload_n (pc' := 1) gM dX8_size_0 rfl rfl ?_
  refine jr_iload_n (pc' := 2) gM dX8_size_1 rfl rfl ?_
  refine jr_inv (pc' := 5) (as := [_]) gM dX8_size_2 rfl kX8_123 rfl rfl rfl (Nat.le_of_ble_eq_true rfl) ?_
  refine misHeap_ok hn hn2 hV hh h1 ?_
  dsimp only [Option.toList, List.cons_append, List.nil_append]
  refine jr_pb_ne (tgt := 10) (pc' := 8) gM dX8_size_5 rfl rfl (fun c5 => ?_) (fun c5 => ?_)
  · rw [← sz_js hV hn2 c5.1] at hK
    refine jr_iconst (pc' := 11) gM dX8_size_10 rfl ?_
    refine jr_istore_n (pc' := 12) (lv' := [_, _, _, _]) gM dX8_size_11 rfl rfl (Nat.le_of_ble_eq_true rfl) ?_
    refine jr_iconst (pc' := 13) gM dX8_size_12 rfl ?_
    refine jr_istore_n (pc' := 14) (lv' := [_, _, _, _]) gM dX8_size_13 rfl rfl (Nat.le_of_ble_eq_true rfl) ?_
    have lp : ∀ i, i ≤ n → jV (jP mX8_size (d + 3) K) 14 [some (.ref 24), some (.int (jI x)), some (.int (jI (js (fun v => bI (hp v = x)) i))), some (.int (jI (i : Int)))] [] σ := by
      refine jdown n ?_
      intro i hi ih
      have hr := hV.r hn2 i
      refine jr_iload_n (pc' := 15) gM dX8_size_14 rfl rfl ?_
      refine jr_aload_n (pc' := 16) gM dX8_size_15 rfl rfl ?_
      refine jr_gfi (pc' := 19) gM dX8_size_16 rfl fX8_60 rfl rfl ?_
      rw [hn]
      refine jr_icmp_ge (tgt := 46) (pc' := 22) gM dX8_size_19 rfl rfl ⟨by omega, by omega⟩ ⟨by omega, by omega⟩ (fun c19 => ?_) (fun c19 => ?_)
      · refine jr_iload_n (pc' := 47) gM dX8_size_46 rfl rfl ?_
        refine jr_ireturn dX8_size_47 rfl ?_
        have e : i = n := by omega
        subst e
        exact hK
      · have nxt := ih (i + 1) (by omega) (by omega)
        simp only [js] at nxt
        refine jr_iload_n (pc' := 23) gM dX8_size_22 rfl rfl ?_
        refine jr_aload_n (pc' := 24) gM dX8_size_23 rfl rfl ?_
        refine jr_gfr (pc' := 27) gM dX8_size_24 rfl fX8_32 rfl rfl ?_
        refine jr_iload_n (pc' := 28) gM dX8_size_27 rfl rfl ?_
        refine jr_iald (pc' := 29) _ gM dX8_size_28 rfl rfl rfl (by omega) (by decide) ?_
        rw [hh i (by omega)]
        refine jr_iload_n (pc' := 30) gM dX8_size_29 rfl rfl ?_
        refine jr_icmp_ne (tgt := 37) (pc' := 33) gM dX8_size_30 rfl rfl ⟨by omega, by omega⟩ ⟨by omega, by omega⟩ (fun c30 => ?_) (fun c30 => ?_)
        · refine jr_iconst (pc' := 38) gM dX8_size_37 rfl ?_
          refine jr_iadd (pc' := 39) gM dX8_size_38 rfl ?_
          refine jr_istore_n (pc' := 40) (lv' := [_, _, _, _]) gM dX8_size_39 rfl rfl (Nat.le_of_ble_eq_true rfl) ?_
          refine jr_iinc (pc' := 43) (lv' := [_, _, _, _]) gM dX8_size_40 rfl rfl rfl ?_
          refine jr_goto (tgt := 14) gM dX8_size_43 rfl ?_
          rw [bI_f c30] at nxt
          exact nxt
        · refine jr_iconst (pc' := 34) gM dX8_size_33 rfl ?_
          refine jr_goto (tgt := 38) gM dX8_size_34 rfl ?_
          refine jr_iadd (pc' := 39) gM dX8_size_38 rfl ?_
          refine jr_istore_n (pc' := 40) (lv' := [_, _, _, _]) gM dX8_size_39 rfl rfl (Nat.le_of_ble_eq_true rfl) ?_
          refine jr_iinc (pc' := 43) (lv' := [_, _, _, _]) gM dX8_size_40 rfl rfl rfl ?_
          refine jr_goto (tgt := 14) gM dX8_size_43 rfl ?_
          rw [bI_t c30] at nxt
          exact nxt
    exact lp 0 (by omega)
  · refine jr_iconst (pc' := 9) gM dX8_size_8 rfl ?_
    refine jr_ireturn dX8_size_9 rfl ?_
    have : jn (fun v => decide (0 ≤ x ∧ hp v = x)) 40 = 0 := jn_zero.mpr (fun v _ => by
      simp only [decide_eq_false_iff_not]
      intro q
      obtain ⟨k, rfl⟩ := Int.eq_ofNat_of_zero_le q.1
      have := hV.lead q.2
      exact c5 ⟨q.1, by omega, this.1⟩)
    rw [this] at hK
    exact hK
end jMb
