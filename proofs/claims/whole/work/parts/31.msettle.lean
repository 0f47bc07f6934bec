/-! ===== the reference: settling ===== -/
def SM (n : Nat) (hp : Nat → Int) (fr : Nat → Nat → Int) (m : Nat) (ba bb : Nat → Nat) (bm : Nat → Int) (pr : Int) (σ : jMem) : Prop :=
  σ 24 5 = (n : Int) ∧ n ≤ 40 ∧ HV n hp ∧ (∀ u, u < n → σ 28 u = hp u) ∧ (∀ a b, a < n → b < n → σ 29 (40 * a + b) = fr a b) ∧ (∀ a b, a < n → b < n → 0 ≤ fr a b ∧ fr a b ≤ 180) ∧ (∀ u, fr u u = 0) ∧ ML m ba bb bm σ ∧ BL n m ba bb bm ∧ σ 24 1 = pr ∧ 0 ≤ pr ∧ pr ≤ 200
section jMs
variable {n m : Nat} {ba bb : Nat → Nat} {bm hp : Nat → Int} {fr : Nat → Nat → Int} {pr : Int} {σ : jMem} {K : Option Value → jMem → Prop} {d : Nat}
theorem SM.of {hp' : Nat → Int} {σ' : jMem} (h : SM n hp fr m ba bb bm pr σ) (hV : HV n hp') (hh : ∀ u, u < n → σ' 28 u = hp' u) (he : ∀ c, c ≠ 28 → σ' c = σ c) : SM n hp' fr m ba bb bm pr σ' := by
  obtain ⟨h1, h2, h3, h4, h5, h6, h7, h8, h9, h10⟩ := h
  refine ⟨by rw [he 24 (by omega)]; exact h1, h2, hV, hh, fun a b ha hb => by rw [he 29 (by omega)]; exact h5 a b ha hb, h6, h7, h8.of (by rw [he 24 (by omega)]) (fun c _ _ => he c (by omega)), h9, by rw [he 24 (by omega)]; exact h10⟩
theorem SM.bsr (h : SM n hp fr m ba bb bm pr σ) {u : Nat} (hu : u < n) (k : Int) : 0 ≤ jbs (fr u) hp n k ∧ jbs (fr u) hp n k ≤ 7200 := by
  have h1 := jbs_le (hp := hp) (h := k) (fun o ho => h.2.2.2.2.2.1 u o hu ho)
  have h2 := h.2.1
  omega
set_option maxRecDepth 100000 in
theorem lays_ok {u : Nat} (hS : SM n hp fr m ba bb bm pr σ) (hu : u < n) (hop : hp u = -1)
    (hK0 : loR n fr (bdL ba bb bm m) pr hp u = none → K (some (.int (jI 0))) σ)
    (hK1 : ∀ hp', loR n fr (bdL ba bb bm m) pr hp u = some hp' → HV n hp' → ∀ σ' : jMem, (∀ v, v < n → σ' 28 v = hp' v) → (∀ c, c ≠ 28 → σ' c = σ c) → K (some (.int (jI 1))) σ') : jRun (d + 2) mX8_lays [.ref 24, .int (jI (u : Int))] σ K := by
  have hbr := fun k => hS.bsr hu k
  obtain ⟨s1, s2, s3, s4, s5, s6, s7, s8, s9, s10, s11⟩ := hS
  have hbk := fun h => bkF_le (bdL ba bb bm m) hp u h
  generalize hbd : bdL ba bb bm m = bd at *
  generalize hF : loF (fun h => jbs (fr u) hp n h) hp (fun h => bkF bd hp u h) = F at *
  have sp : ∀ i, (F i = (-1, 1000000000) ∧ ∀ h : Nat, h < i → ¬ (hp h = (h : Int) ∧ bkF bd hp u h = 0)) ∨ ∃ k : Nat, k < i ∧ hp k = (k : Int) ∧ bkF bd hp u k = 0 ∧ F i = ((k : Int), jbs (fr u) hp n k) := by
    intro i
    rw [← hF]
    exact loF_spec (fun h _ => hbr h)
  have Fs : ∀ i, F (i + 1) = if hp i = (i : Int) ∧ jbs (fr u) hp n i < (F i).2 ∧ bkF bd hp u i = 0 then ((i : Int), jbs (fr u) hp n i) else F i := by
    intro i
    rw [← hF]
    rfl
  have F0' : F 0 = (-1, 1000000000) := by rw [← hF]; rfl
  have hlo : loR n fr bd pr hp u = if pr < (F n).2 ∧ bkF bd hp u (-2) = 0 then some (alF n hp u) else if (F n).1 = -1 then none else some (inF n hp u (F n).1.toNat) := by
    unfold loR
    rw [hF]
  have hr : ∀ i, i ≤ n → -1 ≤ (F i).1 ∧ (F i).1 < 40 ∧ 0 ≤ (F i).2 ∧ (F i).2 ≤ 1000000000 := by
    intro i hi
    rcases sp i with ⟨e, -⟩ | ⟨k, h1, h2, h3, h4⟩
    · rw [e]
      decide
    · have := hbr k
      rw [h4]
      show -1 ≤ (k : Int) ∧ (k : Int) < 40 ∧ 0 ≤ jbs (fr u) hp n k ∧ jbs (fr u) hp n k ≤ _
      omega
  -- the end, with the place found
  have fin : ∀ (b l : Int) (q4 q5 q6 : Option Value), ((pr < (F n).2 ∧ bkF bd hp u (-2) = 0) ∧ b = (u : Int)) ∨ (¬ (pr < (F n).2 ∧ bkF bd hp u (-2) = 0) ∧ b = (F n).1) → jV (jP mX8_lays (d + 2) K) 128 [some (.ref 24), some (.int (jI (u : Int))), some (.int (jI b)), some (.int (jI l)), q4, q5, q6] [] σ := by
    intro b l q4 q5 q6 hb
    have hrn := hr n (Nat.le_refl _)
    refine jr_iload_n (pc' := 129) gM dX8_lays_128 rfl rfl ?_
    refine jr_iconst (pc' := 130) gM dX8_lays_129 rfl ?_
    refine jr_icmp_ne (tgt := 135) (pc' := 133) gM dX8_lays_130 rfl rfl ⟨by omega, by omega⟩ ⟨by omega, by omega⟩ (fun c130 => ?_) (fun c130 => ?_)
    · refine jr_aload_n (pc' := 136) gM dX8_lays_135 rfl rfl ?_
      refine jr_iload_n (pc' := 137) gM dX8_lays_136 rfl rfl ?_
      refine jr_iload_n (pc' := 138) gM dX8_lays_137 rfl rfl ?_
      rcases hb with ⟨z, rfl⟩ | ⟨z, rfl⟩
      · refine jr_inv (pc' := 141) (as := [_, _]) gM dX8_lays_138 rfl kX8_86 rfl rfl rfl (Nat.le_of_ble_eq_true rfl) ?_
        refine goes_ok s1 s2 s3 s4 hu (Or.inl rfl) (fun σ' k1 k2 => ?_)
        dsimp only [Option.toList, List.cons_append, List.nil_append]
        refine jr_iconst (pc' := 142) gM dX8_lays_141 rfl ?_
        refine jr_zreturn dX8_lays_142 rfl (by first | omega | exact bI_01 _) ?_
        refine hK1 (alF n hp u) (by rw [hlo, if_pos z]) (alF_HV s3 hu) σ' (fun v hv => by rw [k1 v hv, if_pos rfl]) k2
      · rcases sp n with ⟨e, -⟩ | ⟨k, h1, h2, h3, h4⟩
        · rw [e] at c130
          exact absurd rfl c130
        · have e1 : (F n).1 = (k : Int) := by rw [h4]
          rw [e1]
          refine jr_inv (pc' := 141) (as := [_, _]) gM dX8_lays_138 rfl kX8_86 rfl rfl rfl (Nat.le_of_ble_eq_true rfl) ?_
          refine goes_ok s1 s2 s3 s4 hu (Or.inr ⟨h2, h1, by omega⟩) (fun σ' k1 k2 => ?_)
          dsimp only [Option.toList, List.cons_append, List.nil_append]
          refine jr_iconst (pc' := 142) gM dX8_lays_141 rfl ?_
          refine jr_zreturn dX8_lays_142 rfl (by first | omega | exact bI_01 _) ?_
          refine hK1 (inF n hp u k) (by rw [hlo, if_neg z, e1, if_neg (by omega)]; rfl) (inF_HV s3 hu) σ' (fun v hv => ?_) k2
          rw [k1 v hv, if_neg (fun q => by subst q; omega)]
    · refine jr_iconst (pc' := 134) gM dX8_lays_133 rfl ?_
      refine jr_zreturn dX8_lays_134 rfl (by first | omega | exact bI_01 _) ?_
      refine hK0 ?_
      rw [hlo]
      rcases hb with ⟨z, rfl⟩ | ⟨z, q⟩
      · omega
      · rw [if_neg z, if_pos (by omega)]
  refine jenter (lv := [_, _, _, _, _, _, _]) rfl rfl (Nat.le_of_ble_eq_true rfl) ?_
  refine jr_iconst (pc' := 1) gM dX8_lays_0 rfl ?_
  refine jr_istore_n (pc' := 2) (lv' := [_, _, _, _, _, _, _]) gM dX8_lays_1 rfl rfl (Nat.le_of_ble_eq_true rfl) ?_
  refine jr_iconst (pc' := 3) gM dX8_lays_2 rfl ?_
  refine jr_istore_n (pc' := 4) (lv' := [_, _, _, _, _, _, _]) gM dX8_lays_3 rfl rfl (Nat.le_of_ble_eq_true rfl) ?_
  refine jr_iconst (pc' := 5) gM dX8_lays_4 rfl ?_
  refine jr_istore (pc' := 7) (lv' := [_, _, _, _, _, _, _]) gM dX8_lays_5 rfl rfl (Nat.le_of_ble_eq_true rfl) ?_
  have lp : ∀ i, i ≤ n → ∀ (l : Int) (q5 q6 : Option Value), ((F i).1 ≠ -1 → l = (F i).2) → 0 ≤ l ∧ l ≤ 1000000000 → jV (jP mX8_lays (d + 2) K) 7 [some (.ref 24), some (.int (jI (u : Int))), some (.int (jI (F i).1)), some (.int (jI l)), some (.int (jI (i : Int))), q5, q6] [] σ := by
    refine jdown n ?_
    intro i hi ih l q5 q6 hl hlr
    have hri := hr i hi
    have hbi := hbk (i : Int)
    have hb2 := hbk (-2)
    have hci := hbr i
    refine jr_iload (pc' := 9) gM dX8_lays_7 rfl rfl ?_
    refine jr_aload_n (pc' := 10) gM dX8_lays_9 rfl rfl ?_
    refine jr_gfi (pc' := 13) gM dX8_lays_10 rfl fX8_60 rfl rfl ?_
    rw [s1]
    refine jr_icmp_gt (tgt := 128) (pc' := 16) gM dX8_lays_13 rfl rfl ⟨by omega, by omega⟩ ⟨by omega, by omega⟩ (fun cc => absurd cc (by omega)) (fun _ => ?_)
    refine jr_iload (pc' := 18) gM dX8_lays_16 rfl rfl ?_
    refine jr_aload_n (pc' := 19) gM dX8_lays_18 rfl rfl ?_
    refine jr_gfi (pc' := 22) gM dX8_lays_19 rfl fX8_60 rfl rfl ?_
    rw [s1]
    refine jr_icmp_ne (tgt := 29) (pc' := 25) gM dX8_lays_22 rfl rfl ⟨by omega, by omega⟩ ⟨by omega, by omega⟩ (fun c22 => ?_) (fun c22 => ?_)
    · -- a heap, or none
      have skip : ¬ (hp i = (i : Int) ∧ jbs (fr u) hp n i < (F i).2 ∧ bkF bd hp u i = 0) → ∀ q6, jV (jP mX8_lays (d + 2) K) 122 [some (.ref 24), some (.int (jI (u : Int))), some (.int (jI (F i).1)), some (.int (jI l)), some (.int (jI (i : Int))), some (.int (jI 0)), q6] [] σ := by
        intro hno q6
        refine jr_iinc (pc' := 125) (lv' := [_, _, _, _, _, _, _]) gM dX8_lays_122 rfl rfl rfl ?_
        refine jr_goto (tgt := 7) gM dX8_lays_125 rfl ?_
        have := ih (i + 1) (by omega) (by omega) l (some (.int (jI 0))) q6
        rw [Fs, if_neg hno] at this
        exact this hl hlr
      have hri2 := s3.r s2 i
      refine jr_iconst (pc' := 30) gM dX8_lays_29 rfl ?_
      refine jr_istore (pc' := 32) (lv' := [_, _, _, _, _, _, _]) gM dX8_lays_30 rfl rfl (Nat.le_of_ble_eq_true rfl) ?_
      refine jr_iload (pc' := 34) gM dX8_lays_32 rfl rfl ?_
      refine jr_if_ne (tgt := 49) (pc' := 37) gM dX8_lays_34 rfl rfl ⟨by omega, by omega⟩ (fun cc => absurd cc (by omega)) (fun _ => ?_)
      refine jr_aload_n (pc' := 38) gM dX8_lays_37 rfl rfl ?_
      refine jr_gfr (pc' := 41) gM dX8_lays_38 rfl fX8_32 rfl rfl ?_
      refine jr_iload (pc' := 43) gM dX8_lays_41 rfl rfl ?_
      refine jr_iald (pc' := 44) _ gM dX8_lays_43 rfl rfl rfl (by omega) (by decide) ?_
      rw [s4 i (by omega)]
      refine jr_iload (pc' := 46) gM dX8_lays_44 rfl rfl ?_
      refine jr_icmp_ne (tgt := 122) (pc' := 49) gM dX8_lays_46 rfl rfl ⟨by omega, by omega⟩ ⟨by omega, by omega⟩ (fun c46 => ?_) (fun c46 => ?_)
      · exact skip (fun q => c46 q.1) _
      · refine jr_aload_n (pc' := 50) gM dX8_lays_49 rfl rfl ?_
        refine jr_iload_n (pc' := 51) gM dX8_lays_50 rfl rfl ?_
        refine jr_iload (pc' := 53) gM dX8_lays_51 rfl rfl ?_
        refine jr_if_eq (tgt := 61) (pc' := 56) gM dX8_lays_53 rfl rfl ⟨by omega, by omega⟩ (fun _ => ?_) (fun cc => absurd cc (by omega))
        refine jr_iload (pc' := 63) gM dX8_lays_61 rfl rfl ?_
        refine jr_inv (pc' := 66) (as := [_, _]) gM dX8_lays_63 rfl kX8_99 rfl rfl rfl (Nat.le_of_ble_eq_true rfl) ?_
        refine breaks_ok s8 s9 s2 s3 s4 hu ⟨by omega, by omega⟩ (by omega) ?_
        dsimp only [Option.toList, List.cons_append, List.nil_append]
        rw [hbd]
        refine jr_if_le (tgt := 72) (pc' := 69) gM dX8_lays_66 rfl rfl ⟨by omega, by omega⟩ (fun c66 => ?_) (fun c66 => ?_)
        · refine jr_iload (pc' := 74) gM dX8_lays_72 rfl rfl ?_
          refine jr_if_eq (tgt := 84) (pc' := 77) gM dX8_lays_74 rfl rfl ⟨by omega, by omega⟩ (fun _ => ?_) (fun cc => absurd cc (by omega))
          refine jr_aload_n (pc' := 85) gM dX8_lays_84 rfl rfl ?_
          refine jr_iload_n (pc' := 86) gM dX8_lays_85 rfl rfl ?_
          refine jr_iload (pc' := 88) gM dX8_lays_86 rfl rfl ?_
          refine jr_inv (pc' := 91) (as := [_, _]) gM dX8_lays_88 rfl kX8_79 rfl rfl rfl (Nat.le_of_ble_eq_true rfl) ?_
          refine beside_ok s1 s2 s3 s4 s5 (s7 u) hu ⟨by omega, by omega⟩ ?_
          dsimp only [Option.toList, List.cons_append, List.nil_append]
          have take : jbs (fr u) hp n i < (F i).2 → jV (jP mX8_lays (d + 2) K) 107 [some (.ref 24), some (.int (jI (u : Int))), some (.int (jI (F i).1)), some (.int (jI l)), some (.int (jI (i : Int))), some (.int (jI 0)), some (.int (jI (jbs (fr u) hp n i)))] [] σ := by
            intro hlt
            refine jr_iload (pc' := 109) gM dX8_lays_107 rfl rfl ?_
            refine jr_if_eq (tgt := 116) (pc' := 112) gM dX8_lays_109 rfl rfl ⟨by omega, by omega⟩ (fun _ => ?_) (fun cc => absurd cc (by omega))
            refine jr_iload (pc' := 118) gM dX8_lays_116 rfl rfl ?_
            refine jr_istore_n (pc' := 119) (lv' := [_, _, _, _, _, _, _]) gM dX8_lays_118 rfl rfl (Nat.le_of_ble_eq_true rfl) ?_
            refine jr_iload (pc' := 121) gM dX8_lays_119 rfl rfl ?_
            refine jr_istore_n (pc' := 122) (lv' := [_, _, _, _, _, _, _]) gM dX8_lays_121 rfl rfl (Nat.le_of_ble_eq_true rfl) ?_
            refine jr_iinc (pc' := 125) (lv' := [_, _, _, _, _, _, _]) gM dX8_lays_122 rfl rfl rfl ?_
            refine jr_goto (tgt := 7) gM dX8_lays_125 rfl ?_
            have := ih (i + 1) (by omega) (by omega) (jbs (fr u) hp n i) (some (.int (jI 0))) (some (.int (jI (jbs (fr u) hp n i))))
            rw [Fs, if_pos ⟨c46, hlt, by omega⟩] at this
            exact this (fun _ => rfl) (by omega)
          refine jr_istore (pc' := 93) (lv' := [_, _, _, _, _, _, _]) gM dX8_lays_91 rfl rfl (Nat.le_of_ble_eq_true rfl) ?_
          refine jr_iload_n (pc' := 94) gM dX8_lays_93 rfl rfl ?_
          refine jr_iconst (pc' := 95) gM dX8_lays_94 rfl ?_
          refine jr_icmp_eq (tgt := 107) (pc' := 98) gM dX8_lays_95 rfl rfl ⟨by omega, by omega⟩ ⟨by omega, by omega⟩ (fun c95 => ?_) (fun c95 => ?_)
          · refine take ?_
            rcases sp i with ⟨e, -⟩ | ⟨k, h1, h2, h3, h4⟩
            · rw [e]
              show jbs (fr u) hp n i < 1000000000
              omega
            · rw [h4] at c95
              have : (k : Int) = -1 := c95
              omega
          · have hl2 := hl c95
            refine jr_iload (pc' := 100) gM dX8_lays_98 rfl rfl ?_
            refine jr_iload_n (pc' := 101) gM dX8_lays_100 rfl rfl ?_
            refine jr_icmp_lt (tgt := 107) (pc' := 104) gM dX8_lays_101 rfl rfl ⟨by omega, by omega⟩ ⟨by omega, by omega⟩ (fun c101 => ?_) (fun c101 => ?_)
            · exact take (by omega)
            · refine jr_goto (tgt := 122) gM dX8_lays_104 rfl ?_
              exact skip (fun q => by omega) _
        · refine jr_goto (tgt := 122) gM dX8_lays_69 rfl ?_
          exact skip (fun q => by omega) _
    · -- by itself
      have ein : i = n := by omega
      subst ein
      have last : ∀ (b l2 : Int) (q6 : Option Value), ((pr < (F i).2 ∧ bkF bd hp u (-2) = 0) ∧ b = (u : Int)) ∨ (¬ (pr < (F i).2 ∧ bkF bd hp u (-2) = 0) ∧ b = (F i).1) → jV (jP mX8_lays (d + 2) K) 122 [some (.ref 24), some (.int (jI (u : Int))), some (.int (jI b)), some (.int (jI l2)), some (.int (jI (i : Int))), some (.int (jI 1)), q6] [] σ := by
        intro b l2 q6 hb
        refine jr_iinc (pc' := 125) (lv' := [_, _, _, _, _, _, _]) gM dX8_lays_122 rfl rfl rfl ?_
        refine jr_goto (tgt := 7) gM dX8_lays_125 rfl ?_
        refine jr_iload (pc' := 9) gM dX8_lays_7 rfl rfl ?_
        refine jr_aload_n (pc' := 10) gM dX8_lays_9 rfl rfl ?_
        refine jr_gfi (pc' := 13) gM dX8_lays_10 rfl fX8_60 rfl rfl ?_
        rw [s1]
        refine jr_icmp_gt (tgt := 128) (pc' := 16) gM dX8_lays_13 rfl rfl ⟨by omega, by omega⟩ ⟨by omega, by omega⟩ (fun _ => ?_) (fun cc => absurd cc (by omega))
        exact fin b l2 _ _ _ hb
      refine jr_iconst (pc' := 26) gM dX8_lays_25 rfl ?_
      refine jr_goto (tgt := 30) gM dX8_lays_26 rfl ?_
      refine jr_istore (pc' := 32) (lv' := [_, _, _, _, _, _, _]) gM dX8_lays_30 rfl rfl (Nat.le_of_ble_eq_true rfl) ?_
      refine jr_iload (pc' := 34) gM dX8_lays_32 rfl rfl ?_
      refine jr_if_ne (tgt := 49) (pc' := 37) gM dX8_lays_34 rfl rfl ⟨by omega, by omega⟩ (fun _ => ?_) (fun cc => absurd cc (by omega))
      refine jr_aload_n (pc' := 50) gM dX8_lays_49 rfl rfl ?_
      refine jr_iload_n (pc' := 51) gM dX8_lays_50 rfl rfl ?_
      refine jr_iload (pc' := 53) gM dX8_lays_51 rfl rfl ?_
      refine jr_if_eq (tgt := 61) (pc' := 56) gM dX8_lays_53 rfl rfl ⟨by omega, by omega⟩ (fun cc => absurd cc (by omega)) (fun _ => ?_)
      refine jr_bipush (pc' := 58) gM dX8_lays_56 rfl rfl ?_
      refine jr_goto (tgt := 63) gM dX8_lays_58 rfl ?_
      refine jr_inv (pc' := 66) (as := [_, _]) gM dX8_lays_63 rfl kX8_99 rfl rfl rfl (Nat.le_of_ble_eq_true rfl) ?_
      refine breaks_ok s8 s9 s2 s3 s4 hu ⟨by omega, by omega⟩ (by omega) ?_
      dsimp only [Option.toList, List.cons_append, List.nil_append]
      rw [hbd]
      refine jr_if_le (tgt := 72) (pc' := 69) gM dX8_lays_66 rfl rfl ⟨by omega, by omega⟩ (fun c66 => ?_) (fun c66 => ?_)
      · refine jr_iload (pc' := 74) gM dX8_lays_72 rfl rfl ?_
        refine jr_if_eq (tgt := 84) (pc' := 77) gM dX8_lays_74 rfl rfl ⟨by omega, by omega⟩ (fun cc => absurd cc (by omega)) (fun _ => ?_)
        refine jr_aload_n (pc' := 78) gM dX8_lays_77 rfl rfl ?_
        refine jr_gfi (pc' := 81) gM dX8_lays_78 rfl fX8_13 rfl rfl ?_
        rw [s10]
        refine jr_goto (tgt := 91) gM dX8_lays_81 rfl ?_
        refine jr_istore (pc' := 93) (lv' := [_, _, _, _, _, _, _]) gM dX8_lays_91 rfl rfl (Nat.le_of_ble_eq_true rfl) ?_
        refine jr_iload_n (pc' := 94) gM dX8_lays_93 rfl rfl ?_
        refine jr_iconst (pc' := 95) gM dX8_lays_94 rfl ?_
        have take : pr < (F i).2 → jV (jP mX8_lays (d + 2) K) 107 [some (.ref 24), some (.int (jI (u : Int))), some (.int (jI (F i).1)), some (.int (jI l)), some (.int (jI (i : Int))), some (.int (jI 1)), some (.int (jI pr))] [] σ := by
          intro hlt
          refine jr_iload (pc' := 109) gM dX8_lays_107 rfl rfl ?_
          refine jr_if_eq (tgt := 116) (pc' := 112) gM dX8_lays_109 rfl rfl ⟨by omega, by omega⟩ (fun cc => absurd cc (by omega)) (fun _ => ?_)
          refine jr_iload_n (pc' := 113) gM dX8_lays_112 rfl rfl ?_
          refine jr_goto (tgt := 118) gM dX8_lays_113 rfl ?_
          refine jr_istore_n (pc' := 119) (lv' := [_, _, _, _, _, _, _]) gM dX8_lays_118 rfl rfl (Nat.le_of_ble_eq_true rfl) ?_
          refine jr_iload (pc' := 121) gM dX8_lays_119 rfl rfl ?_
          refine jr_istore_n (pc' := 122) (lv' := [_, _, _, _, _, _, _]) gM dX8_lays_121 rfl rfl (Nat.le_of_ble_eq_true rfl) ?_
          exact last _ _ _ (Or.inl ⟨⟨hlt, by omega⟩, rfl⟩)
        refine jr_icmp_eq (tgt := 107) (pc' := 98) gM dX8_lays_95 rfl rfl ⟨by omega, by omega⟩ ⟨by omega, by omega⟩ (fun c95 => ?_) (fun c95 => ?_)
        · refine take ?_
          rcases sp i with ⟨e, -⟩ | ⟨k, h1, h2, h3, h4⟩
          · rw [e]
            show pr < 1000000000
            omega
          · rw [h4] at c95
            have : (k : Int) = -1 := c95
            omega
        · have hl2 := hl c95
          refine jr_iload (pc' := 100) gM dX8_lays_98 rfl rfl ?_
          refine jr_iload_n (pc' := 101) gM dX8_lays_100 rfl rfl ?_
          refine jr_icmp_lt (tgt := 107) (pc' := 104) gM dX8_lays_101 rfl rfl ⟨by omega, by omega⟩ ⟨by omega, by omega⟩ (fun c101 => ?_) (fun c101 => ?_)
          · exact take (by omega)
          · refine jr_goto (tgt := 122) gM dX8_lays_104 rfl ?_
            exact last _ _ _ (Or.inr ⟨by omega, rfl⟩)
      · refine jr_goto (tgt := 122) gM dX8_lays_69 rfl ?_
        exact last _ _ _ (Or.inr ⟨by omega, rfl⟩)
  have := lp 0 (by omega) 0 none none
  rw [F0'] at this
  exact this (fun q => absurd rfl q) (by omega)
theorem alone_sz {u k : Nat} (hV : HV n hp) (hn : n ≤ 40) (hu : u < n) (ek : hp u = (k : Int)) : jn (fun v => decide (0 ≤ (k : Int) ∧ hp v = (k : Int))) 40 = 1 ↔ ∀ v, v < n → v ≠ u → hp v ≠ hp u := by
  have e1 : jn (fun v => decide (0 ≤ (k : Int) ∧ hp v = (k : Int))) 40 = jn (fun v => decide (v ≠ u ∧ hp v = (k : Int))) 40 + 1 := jn_plus (m := u) (by omega) (by simp) (by simp [ek]) (fun i _ hi => by simp [hi])
  rw [e1]
  constructor
  · intro h v hv hne q
    have := jn_zero.mp (show jn (fun v => decide (v ≠ u ∧ hp v = (k : Int))) 40 = 0 by omega) v (by omega)
    rw [ek] at q
    simp [hne, q] at this
  · intro h
    have : jn (fun v => decide (v ≠ u ∧ hp v = (k : Int))) 40 = 0 := jn_zero.mpr (fun v _ => by
      simp only [decide_eq_false_iff_not]
      intro q
      exact h v (hV.lead q.2).2.2.1 q.1 (by omega))
    omega
theorem alone_bs {u : Nat} (h0 : fr u u = 0) (h : ∀ v, v < n → v ≠ u → hp v ≠ hp u) : jbs (fr u) hp n (hp u) = 0 := by
  unfold jbs
  have z : ∀ k, k ≤ n → js (fun o => if hp o = hp u then fr u o else 0) k = 0 := by
    intro k
    induction k with
    | zero => intro _; rfl
    | succ k ih =>
      intro hk
      simp only [js]
      rw [ih (by omega)]
      by_cases e : k = u
      · subst e
        rw [if_pos rfl, h0]
        rfl
      · rw [if_neg (h k (by omega) e)]
        rfl
  exact z n (Nat.le_refl _)
end jMs
