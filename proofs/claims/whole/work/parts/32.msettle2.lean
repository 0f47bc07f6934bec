/-! ===== the reference: moves, melts, steps ===== -/
section jMt
variable {n m : Nat} {ba bb : Nat → Nat} {bm hp : Nat → Int} {fr : Nat → Nat → Int} {pr : Int} {σ : jMem} {K : Option Value → jMem → Prop} {d : Nat}
set_option maxRecDepth 100000 in
theorem moves_ok {u : Nat} (hS : SM n hp fr m ba bb bm pr σ) (hu : u < n) (hop : hp u ≠ -1)
    (hK0 : mvR n fr (bdL ba bb bm m) pr hp u = none → K (some (.int (jI 0))) σ)
    (hK1 : ∀ hp', mvR n fr (bdL ba bb bm m) pr hp u = some hp' → HV n hp' → ∀ σ' : jMem, (∀ v, v < n → σ' 28 v = hp' v) → (∀ c, c ≠ 28 → σ' c = σ c) → K (some (.int (jI 1))) σ') : jRun (d + 4) mX8_moves [.ref 24, .int (jI (u : Int))] σ K := by
  have hbr := fun k => hS.bsr hu k
  obtain ⟨s1, s2, s3, s4, s5, s6, s7, s8, s9, s10, s11⟩ := hS
  have hbk := fun h => bkF_le (bdL ba bb bm m) hp u h
  generalize hbd : bdL ba bb bm m = bd at *
  obtain ⟨k, ek⟩ : ∃ k : Nat, hp u = (k : Int) := by
    rcases s3.cases u with e | e
    · exact absurd e hop
    · exact e
  obtain ⟨l1, l2, l3, l4⟩ := s3.lead ek
  have hal := alone_sz s3 s2 hu ek
  have hmc : 0 ≤ mvC n fr pr hp u ∧ mvC n fr pr hp u ≤ 7200 := by
    unfold mvC
    have := hbr (hp u)
    split <;> omega
  have hb0 := hbk (hp u)
  -- the loop, with alone as al
  have main : ∀ al : Int, (al = 1 ∧ (∀ v, v < n → v ≠ u → hp v ≠ hp u)) ∨ (al = 0 ∧ ¬ (∀ v, v < n → v ≠ u → hp v ≠ hp u)) → jV (jP mX8_moves (d + 4) K) 51 [some (.ref 24), some (.int (jI (u : Int))), some (.int (jI (k : Int))), some (.int (jI al)), some (.int (jI ((bkF bd hp u (hp u) : Nat) : Int))), some (.int (jI (mvC n fr pr hp u))), none, none, none, none] [] σ := by
    intro al hA
    refine jr_iconst (pc' := 52) gM dX8_moves_51 rfl ?_
    refine jr_istore (pc' := 54) (lv' := [_, _, _, _, _, _, _, _, _, _]) gM dX8_moves_52 rfl rfl (Nat.le_of_ble_eq_true rfl) ?_
    have lp : ∀ i, i ≤ n → ∀ q7 q8 q9 : Option Value, frs (mvT n fr bd pr hp u) 0 n = frs (mvT n fr bd pr hp u) i (n - i) → jV (jP mX8_moves (d + 4) K) 54 [some (.ref 24), some (.int (jI (u : Int))), some (.int (jI (k : Int))), some (.int (jI al)), some (.int (jI ((bkF bd hp u (hp u) : Nat) : Int))), some (.int (jI (mvC n fr pr hp u))), some (.int (jI (i : Int))), q7, q8, q9] [] σ := by
      refine jdown n ?_
      intro i hi ih q7 q8 q9 g
      have hbi := hbk (i : Int)
      have hb2 := hbk (-2)
      have hci := hbr i
      refine jr_iload (pc' := 56) gM dX8_moves_54 rfl rfl ?_
      refine jr_aload_n (pc' := 57) gM dX8_moves_56 rfl rfl ?_
      refine jr_gfi (pc' := 60) gM dX8_moves_57 rfl fX8_60 rfl rfl ?_
      rw [s1]
      refine jr_icmp_gt (tgt := 200) (pc' := 63) gM dX8_moves_60 rfl rfl ⟨by omega, by omega⟩ ⟨by omega, by omega⟩ (fun cc => absurd cc (by omega)) (fun _ => ?_)
      refine jr_iload (pc' := 65) gM dX8_moves_63 rfl rfl ?_
      refine jr_aload_n (pc' := 66) gM dX8_moves_65 rfl rfl ?_
      refine jr_gfi (pc' := 69) gM dX8_moves_66 rfl fX8_60 rfl rfl ?_
      rw [s1]
      refine jr_icmp_ne (tgt := 76) (pc' := 72) gM dX8_moves_69 rfl rfl ⟨by omega, by omega⟩ ⟨by omega, by omega⟩ (fun c69 => ?_) (fun c69 => ?_)
      · -- another heap
        rw [show n - i = (n - (i + 1)) + 1 by omega] at g
        have skip : mvT n fr bd pr hp u i = none → ∀ q8 q9, jV (jP mX8_moves (d + 4) K) 194 [some (.ref 24), some (.int (jI (u : Int))), some (.int (jI (k : Int))), some (.int (jI al)), some (.int (jI ((bkF bd hp u (hp u) : Nat) : Int))), some (.int (jI (mvC n fr pr hp u))), some (.int (jI (i : Int))), some (.int (jI 0)), q8, q9] [] σ := by
          intro hno q8 q9
          refine jr_iinc (pc' := 197) (lv' := [_, _, _, _, _, _, _, _, _, _]) gM dX8_moves_194 rfl rfl rfl ?_
          refine jr_goto (tgt := 54) gM dX8_moves_197 rfl ?_
          refine ih (i + 1) (by omega) (by omega) _ _ _ ?_
          rw [g, frs_n hno]
        have hri := s3.r s2 i
        refine jr_iconst (pc' := 77) gM dX8_moves_76 rfl ?_
        refine jr_istore (pc' := 79) (lv' := [_, _, _, _, _, _, _, _, _, _]) gM dX8_moves_77 rfl rfl (Nat.le_of_ble_eq_true rfl) ?_
        refine jr_iload (pc' := 81) gM dX8_moves_79 rfl rfl ?_
        refine jr_if_eq (tgt := 91) (pc' := 84) gM dX8_moves_81 rfl rfl ⟨by omega, by omega⟩ (fun _ => ?_) (fun cc => absurd cc (by omega))
        refine jr_aload_n (pc' := 92) gM dX8_moves_91 rfl rfl ?_
        refine jr_gfr (pc' := 95) gM dX8_moves_92 rfl fX8_32 rfl rfl ?_
        refine jr_iload (pc' := 97) gM dX8_moves_95 rfl rfl ?_
        refine jr_iald (pc' := 98) _ gM dX8_moves_97 rfl rfl rfl (by omega) (by decide) ?_
        rw [s4 i (by omega)]
        refine jr_iload (pc' := 100) gM dX8_moves_98 rfl rfl ?_
        refine jr_icmp_ne (tgt := 194) (pc' := 103) gM dX8_moves_100 rfl rfl ⟨by omega, by omega⟩ ⟨by omega, by omega⟩ (fun c100 => ?_) (fun c100 => ?_)
        · exact skip (by unfold mvT; rw [if_neg (fun q => c100 q.2.1)]) _ _
        · refine jr_iload (pc' := 105) gM dX8_moves_103 rfl rfl ?_
          refine jr_iload_n (pc' := 106) gM dX8_moves_105 rfl rfl ?_
          refine jr_icmp_ne (tgt := 112) (pc' := 109) gM dX8_moves_106 rfl rfl ⟨by omega, by omega⟩ ⟨by omega, by omega⟩ (fun c106 => ?_) (fun c106 => ?_)
          · refine jr_aload_n (pc' := 113) gM dX8_moves_112 rfl rfl ?_
            refine jr_iload_n (pc' := 114) gM dX8_moves_113 rfl rfl ?_
            refine jr_iload (pc' := 116) gM dX8_moves_114 rfl rfl ?_
            refine jr_if_eq (tgt := 124) (pc' := 119) gM dX8_moves_116 rfl rfl ⟨by omega, by omega⟩ (fun _ => ?_) (fun cc => absurd cc (by omega))
            refine jr_iload (pc' := 126) gM dX8_moves_124 rfl rfl ?_
            refine jr_inv (pc' := 129) (as := [_, _]) gM dX8_moves_126 rfl kX8_99 rfl rfl rfl (Nat.le_of_ble_eq_true rfl) ?_
            refine breaks_ok s8 s9 s2 s3 s4 hu ⟨by omega, by omega⟩ (by omega) ?_
            dsimp only [Option.toList, List.cons_append, List.nil_append]
            rw [hbd]
            refine jr_istore (pc' := 131) (lv' := [_, _, _, _, _, _, _, _, _, _]) gM dX8_moves_129 rfl rfl (Nat.le_of_ble_eq_true rfl) ?_
            refine jr_iload (pc' := 133) gM dX8_moves_131 rfl rfl ?_
            refine jr_if_eq (tgt := 143) (pc' := 136) gM dX8_moves_133 rfl rfl ⟨by omega, by omega⟩ (fun _ => ?_) (fun cc => absurd cc (by omega))
            refine jr_aload_n (pc' := 144) gM dX8_moves_143 rfl rfl ?_
            refine jr_iload_n (pc' := 145) gM dX8_moves_144 rfl rfl ?_
            refine jr_iload (pc' := 147) gM dX8_moves_145 rfl rfl ?_
            refine jr_inv (pc' := 150) (as := [_, _]) gM dX8_moves_147 rfl kX8_79 rfl rfl rfl (Nat.le_of_ble_eq_true rfl) ?_
            refine beside_ok s1 s2 s3 s4 s5 (s7 u) hu ⟨by omega, by omega⟩ ?_
            dsimp only [Option.toList, List.cons_append, List.nil_append]
            have take : (((bkF bd hp u i : Nat) : Int) < ((bkF bd hp u (hp u) : Nat) : Int) ∨ (((bkF bd hp u i : Nat) : Int) = ((bkF bd hp u (hp u) : Nat) : Int) ∧ jbs (fr u) hp n i < mvC n fr pr hp u)) → jV (jP mX8_moves (d + 4) K) 176 [some (.ref 24), some (.int (jI (u : Int))), some (.int (jI (k : Int))), some (.int (jI al)), some (.int (jI ((bkF bd hp u (hp u) : Nat) : Int))), some (.int (jI (mvC n fr pr hp u))), some (.int (jI (i : Int))), some (.int (jI 0)), some (.int (jI ((bkF bd hp u i : Nat) : Int))), some (.int (jI (jbs (fr u) hp n i)))] [] σ := by
              intro hbt
              refine jr_aload_n (pc' := 177) gM dX8_moves_176 rfl rfl ?_
              refine jr_iload_n (pc' := 178) gM dX8_moves_177 rfl rfl ?_
              refine jr_iload (pc' := 180) gM dX8_moves_178 rfl rfl ?_
              refine jr_if_eq (tgt := 187) (pc' := 183) gM dX8_moves_180 rfl rfl ⟨by omega, by omega⟩ (fun _ => ?_) (fun cc => absurd cc (by omega))
              refine jr_iload (pc' := 189) gM dX8_moves_187 rfl rfl ?_
              refine jr_inv (pc' := 192) (as := [_, _]) gM dX8_moves_189 rfl kX8_86 rfl rfl rfl (Nat.le_of_ble_eq_true rfl) ?_
              refine goes_ok s1 s2 s3 s4 hu (Or.inr ⟨c100, by omega, by omega⟩) (fun σ' k1 k2 => ?_)
              dsimp only [Option.toList, List.cons_append, List.nil_append]
              refine jr_iconst (pc' := 193) gM dX8_moves_192 rfl ?_
              refine jr_zreturn dX8_moves_193 rfl (by first | omega | exact bI_01 _) ?_
              refine hK1 (inF n hp u i) ?_ (inF_HV s3 hu) σ' (fun v hv => ?_) k2
              · unfold mvR
                rw [g, frs_s (x := inF n hp u i) (by unfold mvT; rw [if_pos ⟨by omega, c100, hbt⟩])]
                rfl
              · rw [k1 v hv, if_neg (fun q => by subst q; omega)]
            refine jr_istore (pc' := 152) (lv' := [_, _, _, _, _, _, _, _, _, _]) gM dX8_moves_150 rfl rfl (Nat.le_of_ble_eq_true rfl) ?_
            refine jr_iload (pc' := 154) gM dX8_moves_152 rfl rfl ?_
            refine jr_iload (pc' := 156) gM dX8_moves_154 rfl rfl ?_
            refine jr_icmp_gt (tgt := 194) (pc' := 159) gM dX8_moves_156 rfl rfl ⟨by omega, by omega⟩ ⟨by omega, by omega⟩ (fun c156 => ?_) (fun c156 => ?_)
            · exact skip (by unfold mvT; rw [if_neg (fun q => by have := q.2.2; omega)]) _ _
            · refine jr_iload (pc' := 161) gM dX8_moves_159 rfl rfl ?_
              refine jr_iload (pc' := 163) gM dX8_moves_161 rfl rfl ?_
              refine jr_icmp_ne (tgt := 176) (pc' := 166) gM dX8_moves_163 rfl rfl ⟨by omega, by omega⟩ ⟨by omega, by omega⟩ (fun c163 => ?_) (fun c163 => ?_)
              · exact take (by omega)
              · refine jr_iload (pc' := 168) gM dX8_moves_166 rfl rfl ?_
                refine jr_iload (pc' := 170) gM dX8_moves_168 rfl rfl ?_
                refine jr_icmp_lt (tgt := 176) (pc' := 173) gM dX8_moves_170 rfl rfl ⟨by omega, by omega⟩ ⟨by omega, by omega⟩ (fun c170 => ?_) (fun c170 => ?_)
                · exact take (by omega)
                · refine jr_goto (tgt := 194) gM dX8_moves_173 rfl ?_
                  exact skip (by unfold mvT; rw [if_neg (fun q => by have := q.2.2; omega)]) _ _
          · refine jr_goto (tgt := 194) gM dX8_moves_109 rfl ?_
            exact skip (by unfold mvT; rw [if_neg (fun q => q.1 (by omega))]) _ _
      · -- by itself
        have ein : i = n := by omega
        subst ein
        have hz : frs (mvT i fr bd pr hp u) 0 i = none := by
          rw [g, show i - i = 0 by omega]
          rfl
        have last : mvA i fr bd pr hp u = none → ∀ q8 q9, jV (jP mX8_moves (d + 4) K) 194 [some (.ref 24), some (.int (jI (u : Int))), some (.int (jI (k : Int))), some (.int (jI al)), some (.int (jI ((bkF bd hp u (hp u) : Nat) : Int))), some (.int (jI (mvC i fr pr hp u))), some (.int (jI (i : Int))), some (.int (jI 1)), q8, q9] [] σ := by
          intro hno q8 q9
          refine jr_iinc (pc' := 197) (lv' := [_, _, _, _, _, _, _, _, _, _]) gM dX8_moves_194 rfl rfl rfl ?_
          refine jr_goto (tgt := 54) gM dX8_moves_197 rfl ?_
          refine jr_iload (pc' := 56) gM dX8_moves_54 rfl rfl ?_
          refine jr_aload_n (pc' := 57) gM dX8_moves_56 rfl rfl ?_
          refine jr_gfi (pc' := 60) gM dX8_moves_57 rfl fX8_60 rfl rfl ?_
          rw [s1]
          refine jr_icmp_gt (tgt := 200) (pc' := 63) gM dX8_moves_60 rfl rfl ⟨by omega, by omega⟩ ⟨by omega, by omega⟩ (fun _ => ?_) (fun cc => absurd cc (by omega))
          refine jr_iconst (pc' := 201) gM dX8_moves_200 rfl ?_
          refine jr_zreturn dX8_moves_201 rfl (by first | omega | exact bI_01 _) ?_
          refine hK0 ?_
          unfold mvR
          rw [hz, hno]
          rfl
        refine jr_iconst (pc' := 73) gM dX8_moves_72 rfl ?_
        refine jr_goto (tgt := 77) gM dX8_moves_73 rfl ?_
        refine jr_istore (pc' := 79) (lv' := [_, _, _, _, _, _, _, _, _, _]) gM dX8_moves_77 rfl rfl (Nat.le_of_ble_eq_true rfl) ?_
        refine jr_iload (pc' := 81) gM dX8_moves_79 rfl rfl ?_
        refine jr_if_eq (tgt := 91) (pc' := 84) gM dX8_moves_81 rfl rfl ⟨by omega, by omega⟩ (fun cc => absurd cc (by omega)) (fun _ => ?_)
        refine jr_iload_n (pc' := 85) gM dX8_moves_84 rfl rfl ?_
        refine jr_if_eq (tgt := 112) (pc' := 88) gM dX8_moves_85 rfl rfl ⟨by omega, by omega⟩ (fun c85 => ?_) (fun c85 => ?_)
        · have hna : ¬ (∀ v, v < i → v ≠ u → hp v ≠ hp u) := by
            rcases hA with ⟨q, -⟩ | ⟨-, q⟩
            · omega
            · exact q
          refine jr_aload_n (pc' := 113) gM dX8_moves_112 rfl rfl ?_
          refine jr_iload_n (pc' := 114) gM dX8_moves_113 rfl rfl ?_
          refine jr_iload (pc' := 116) gM dX8_moves_114 rfl rfl ?_
          refine jr_if_eq (tgt := 124) (pc' := 119) gM dX8_moves_116 rfl rfl ⟨by omega, by omega⟩ (fun cc => absurd cc (by omega)) (fun _ => ?_)
          refine jr_bipush (pc' := 121) gM dX8_moves_119 rfl rfl ?_
          refine jr_goto (tgt := 126) gM dX8_moves_121 rfl ?_
          refine jr_inv (pc' := 129) (as := [_, _]) gM dX8_moves_126 rfl kX8_99 rfl rfl rfl (Nat.le_of_ble_eq_true rfl) ?_
          refine breaks_ok s8 s9 s2 s3 s4 hu ⟨by omega, by omega⟩ (by omega) ?_
          dsimp only [Option.toList, List.cons_append, List.nil_append]
          rw [hbd]
          refine jr_istore (pc' := 131) (lv' := [_, _, _, _, _, _, _, _, _, _]) gM dX8_moves_129 rfl rfl (Nat.le_of_ble_eq_true rfl) ?_
          refine jr_iload (pc' := 133) gM dX8_moves_131 rfl rfl ?_
          refine jr_if_eq (tgt := 143) (pc' := 136) gM dX8_moves_133 rfl rfl ⟨by omega, by omega⟩ (fun cc => absurd cc (by omega)) (fun _ => ?_)
          refine jr_aload_n (pc' := 137) gM dX8_moves_136 rfl rfl ?_
          refine jr_gfi (pc' := 140) gM dX8_moves_137 rfl fX8_13 rfl rfl ?_
          rw [s10]
          have take : (((bkF bd hp u (-2) : Nat) : Int) < ((bkF bd hp u (hp u) : Nat) : Int) ∨ (((bkF bd hp u (-2) : Nat) : Int) = ((bkF bd hp u (hp u) : Nat) : Int) ∧ pr < mvC i fr pr hp u)) → jV (jP mX8_moves (d + 4) K) 176 [some (.ref 24), some (.int (jI (u : Int))), some (.int (jI (k : Int))), some (.int (jI al)), some (.int (jI ((bkF bd hp u (hp u) : Nat) : Int))), some (.int (jI (mvC i fr pr hp u))), some (.int (jI (i : Int))), some (.int (jI 1)), some (.int (jI ((bkF bd hp u (-2) : Nat) : Int))), some (.int (jI pr))] [] σ := by
            intro hbt
            refine jr_aload_n (pc' := 177) gM dX8_moves_176 rfl rfl ?_
            refine jr_iload_n (pc' := 178) gM dX8_moves_177 rfl rfl ?_
            refine jr_iload (pc' := 180) gM dX8_moves_178 rfl rfl ?_
            refine jr_if_eq (tgt := 187) (pc' := 183) gM dX8_moves_180 rfl rfl ⟨by omega, by omega⟩ (fun cc => absurd cc (by omega)) (fun _ => ?_)
            refine jr_iload_n (pc' := 184) gM dX8_moves_183 rfl rfl ?_
            refine jr_goto (tgt := 189) gM dX8_moves_184 rfl ?_
            refine jr_inv (pc' := 192) (as := [_, _]) gM dX8_moves_189 rfl kX8_86 rfl rfl rfl (Nat.le_of_ble_eq_true rfl) ?_
            refine goes_ok s1 s2 s3 s4 hu (Or.inl rfl) (fun σ' k1 k2 => ?_)
            dsimp only [Option.toList, List.cons_append, List.nil_append]
            refine jr_iconst (pc' := 193) gM dX8_moves_192 rfl ?_
            refine jr_zreturn dX8_moves_193 rfl (by first | omega | exact bI_01 _) ?_
            refine hK1 (alF i hp u) ?_ (alF_HV s3 hu) σ' (fun v hv => by rw [k1 v hv, if_pos rfl]) k2
            unfold mvR
            rw [hz]
            show mvA i fr bd pr hp u = _
            unfold mvA
            rw [if_pos ⟨hna, hbt⟩]
          refine jr_goto (tgt := 150) gM dX8_moves_140 rfl ?_
          refine jr_istore (pc' := 152) (lv' := [_, _, _, _, _, _, _, _, _, _]) gM dX8_moves_150 rfl rfl (Nat.le_of_ble_eq_true rfl) ?_
          refine jr_iload (pc' := 154) gM dX8_moves_152 rfl rfl ?_
          refine jr_iload (pc' := 156) gM dX8_moves_154 rfl rfl ?_
          refine jr_icmp_gt (tgt := 194) (pc' := 159) gM dX8_moves_156 rfl rfl ⟨by omega, by omega⟩ ⟨by omega, by omega⟩ (fun c156 => ?_) (fun c156 => ?_)
          · exact last (by unfold mvA; rw [if_neg (fun q => by have := q.2; omega)]) _ _
          · refine jr_iload (pc' := 161) gM dX8_moves_159 rfl rfl ?_
            refine jr_iload (pc' := 163) gM dX8_moves_161 rfl rfl ?_
            refine jr_icmp_ne (tgt := 176) (pc' := 166) gM dX8_moves_163 rfl rfl ⟨by omega, by omega⟩ ⟨by omega, by omega⟩ (fun c163 => ?_) (fun c163 => ?_)
            · exact take (by omega)
            · refine jr_iload (pc' := 168) gM dX8_moves_166 rfl rfl ?_
              refine jr_iload (pc' := 170) gM dX8_moves_168 rfl rfl ?_
              refine jr_icmp_lt (tgt := 176) (pc' := 173) gM dX8_moves_170 rfl rfl ⟨by omega, by omega⟩ ⟨by omega, by omega⟩ (fun c170 => ?_) (fun c170 => ?_)
              · exact take (by omega)
              · refine jr_goto (tgt := 194) gM dX8_moves_173 rfl ?_
                exact last (by unfold mvA; rw [if_neg (fun q => by have := q.2; omega)]) _ _
        · have hya : ∀ v, v < i → v ≠ u → hp v ≠ hp u := by
            rcases hA with ⟨-, q⟩ | ⟨q, -⟩
            · exact q
            · omega
          refine jr_goto (tgt := 194) gM dX8_moves_88 rfl ?_
          exact last (by unfold mvA; rw [if_neg (fun q => q.1 hya)]) _ _
    exact lp 0 (by omega) _ _ _ rfl
  have h2 : ∀ al : Int, (al = 1 ∧ (∀ v, v < n → v ≠ u → hp v ≠ hp u)) ∨ (al = 0 ∧ ¬ (∀ v, v < n → v ≠ u → hp v ≠ hp u)) → jV (jP mX8_moves (d + 4) K) 22 [some (.ref 24), some (.int (jI (u : Int))), some (.int (jI (k : Int))), some (.int (jI al)), none, none, none, none, none, none] [] σ := by
    intro al hA
    refine jr_aload_n (pc' := 23) gM dX8_moves_22 rfl rfl ?_
    refine jr_iload_n (pc' := 24) gM dX8_moves_23 rfl rfl ?_
    refine jr_iload_n (pc' := 25) gM dX8_moves_24 rfl rfl ?_
    refine jr_inv (pc' := 28) (as := [_, _]) gM dX8_moves_25 rfl kX8_99 rfl rfl rfl (Nat.le_of_ble_eq_true rfl) ?_
    refine breaks_ok s8 s9 s2 s3 s4 hu ⟨by omega, by omega⟩ (by omega) ?_
    dsimp only [Option.toList, List.cons_append, List.nil_append]
    rw [hbd, ← ek]
    refine jr_istore (pc' := 30) (lv' := [_, _, _, _, _, _, _, _, _, _]) gM dX8_moves_28 rfl rfl (Nat.le_of_ble_eq_true rfl) ?_
    refine jr_aload_n (pc' := 31) gM dX8_moves_30 rfl rfl ?_
    refine jr_iload_n (pc' := 32) gM dX8_moves_31 rfl rfl ?_
    refine jr_iload_n (pc' := 33) gM dX8_moves_32 rfl rfl ?_
    refine jr_inv (pc' := 36) (as := [_, _]) gM dX8_moves_33 rfl kX8_79 rfl rfl rfl (Nat.le_of_ble_eq_true rfl) ?_
    refine beside_ok s1 s2 s3 s4 s5 (s7 u) hu ⟨by omega, by omega⟩ ?_
    dsimp only [Option.toList, List.cons_append, List.nil_append]
    rw [← ek] at main
    have mm := main al hA
    refine jr_iload_n (pc' := 37) gM dX8_moves_36 rfl rfl ?_
    refine jr_if_eq (tgt := 47) (pc' := 40) gM dX8_moves_37 rfl rfl ⟨by omega, by omega⟩ (fun c37 => ?_) (fun c37 => ?_)
    · have hna : ¬ (∀ v, v < n → v ≠ u → hp v ≠ hp u) := by
        rcases hA with ⟨q, -⟩ | ⟨-, q⟩
        · omega
        · exact q
      refine jr_iconst (pc' := 48) gM dX8_moves_47 rfl ?_
      refine jr_iadd (pc' := 49) gM dX8_moves_48 rfl ?_
      refine jr_istore (pc' := 51) (lv' := [_, _, _, _, _, _, _, _, _, _]) gM dX8_moves_49 rfl rfl (Nat.le_of_ble_eq_true rfl) ?_
      rw [show jbs (fr u) hp n (hp u) + 0 = mvC n fr pr hp u by unfold mvC; rw [if_neg hna]; omega]
      exact mm
    · have hya : ∀ v, v < n → v ≠ u → hp v ≠ hp u := by
        rcases hA with ⟨-, q⟩ | ⟨q, -⟩
        · exact q
        · omega
      refine jr_aload_n (pc' := 41) gM dX8_moves_40 rfl rfl ?_
      refine jr_gfi (pc' := 44) gM dX8_moves_41 rfl fX8_13 rfl rfl ?_
      rw [s10]
      refine jr_goto (tgt := 48) gM dX8_moves_44 rfl ?_
      refine jr_iadd (pc' := 49) gM dX8_moves_48 rfl ?_
      refine jr_istore (pc' := 51) (lv' := [_, _, _, _, _, _, _, _, _, _]) gM dX8_moves_49 rfl rfl (Nat.le_of_ble_eq_true rfl) ?_
      rw [show jbs (fr u) hp n (hp u) + pr = mvC n fr pr hp u by unfold mvC; rw [if_pos hya, alone_bs (s7 u) hya]; omega]
      exact mm
  have hsz := jn_le (fun v => decide (0 ≤ (k : Int) ∧ hp v = (k : Int))) 40
  refine jenter (lv := [_, _, _, _, _, _, _, _, _, _]) rfl rfl (Nat.le_of_ble_eq_true rfl) ?_
  refine jr_aload_n (pc' := 1) gM dX8_moves_0 rfl rfl ?_
  refine jr_gfr (pc' := 4) gM dX8_moves_1 rfl fX8_32 rfl rfl ?_
  refine jr_iload_n (pc' := 5) gM dX8_moves_4 rfl rfl ?_
  refine jr_iald (pc' := 6) _ gM dX8_moves_5 rfl rfl rfl (by omega) (by decide) ?_
  rw [s4 u hu, ek]
  refine jr_istore_n (pc' := 7) (lv' := [_, _, _, _, _, _, _, _, _, _]) gM dX8_moves_6 rfl rfl (Nat.le_of_ble_eq_true rfl) ?_
  refine jr_aload_n (pc' := 8) gM dX8_moves_7 rfl rfl ?_
  refine jr_iload_n (pc' := 9) gM dX8_moves_8 rfl rfl ?_
  refine jr_inv (pc' := 12) (as := [_]) gM dX8_moves_9 rfl kX8_102 rfl rfl rfl (Nat.le_of_ble_eq_true rfl) ?_
  refine msize_ok s1 s2 s3 s4 ⟨by omega, by omega⟩ ?_
  dsimp only [Option.toList, List.cons_append, List.nil_append]
  refine jr_iconst (pc' := 13) gM dX8_moves_12 rfl ?_
  refine jr_icmp_ne (tgt := 20) (pc' := 16) gM dX8_moves_13 rfl rfl ⟨by omega, by omega⟩ ⟨by omega, by omega⟩ (fun c13 => ?_) (fun c13 => ?_)
  · refine jr_iconst (pc' := 21) gM dX8_moves_20 rfl ?_
    refine jr_istore_n (pc' := 22) (lv' := [_, _, _, _, _, _, _, _, _, _]) gM dX8_moves_21 rfl rfl (Nat.le_of_ble_eq_true rfl) ?_
    exact h2 0 (Or.inr ⟨rfl, fun q => c13 (by have := hal.mpr q; omega)⟩)
  · refine jr_iconst (pc' := 17) gM dX8_moves_16 rfl ?_
    refine jr_goto (tgt := 21) gM dX8_moves_17 rfl ?_
    refine jr_istore_n (pc' := 22) (lv' := [_, _, _, _, _, _, _, _, _, _]) gM dX8_moves_21 rfl rfl (Nat.le_of_ble_eq_true rfl) ?_
    exact h2 1 (Or.inl ⟨rfl, hal.mp (by omega)⟩)
theorem meF_at {a b : Nat} (hV : HV n hp) (ha : hp a = (a : Int)) (hab : a < b) (han : a < n) (v : Nat) : meF n hp a b v = if hp v = (b : Int) then (a : Int) else hp v := by
  unfold meF rgF
  have ej : jlst (fun w => decide (hp w = (a : Int) ∨ hp w = (b : Int))) n = (a : Int) := jlst_at han (by simp [ha]) (fun i hi => by
    simp only [decide_eq_false_iff_not]
    rintro (q | q)
    · have := (hV.lead q).2.1
      omega
    · have := (hV.lead q).2.1
      omega)
  by_cases e : hp v = (a : Int) ∨ hp v = (b : Int)
  · rw [if_pos (by simpa using e), ej]
    split <;> omega
  · rw [if_neg (by simpa using e), if_neg (fun q => e (Or.inr q))]
/-- melts' count of bonds, one bond more -/
def mbT (ba bb : Nat → Nat) (bm hp : Nat → Int) (a b k : Nat) : Int := if (hp (ba k) = (a : Int) ∧ hp (bb k) = (b : Int)) ∨ (hp (ba k) = (b : Int) ∧ hp (bb k) = (a : Int)) then (if bm k = 1 then -1 else 1) else 0
theorem js_add (f g : Nat → Int) (n : Nat) : js (fun i => f i + g i) n = js f n + js g n := by
  induction n with
  | zero => rfl
  | succ n ih =>
    simp only [js]
    rw [ih]
    omega
theorem js_pt {n u : Nat} (hu : u < n) (x : Int) : js (fun v => if v = u then x else 0) n = x := by
  have := js_single (g := fun _ => x) hu
  simp only [decide_eq_true_eq] at this
  exact this
theorem meB_s (h : BL n (m + 1) ba bb bm) (hn : n ≤ 40) {a b : Nat} (hab : a ≠ b) : meB (bdL ba bb bm (m + 1)) hp a b = meB (bdL ba bb bm m) hp a b + mbT ba bb bm hp a b m := by
  have hm := h.2.1 m (by omega)
  unfold meB
  have e : ∀ u, (if decide (hp u = (a : Int)) then ((jn (fun v => decide (bdL ba bb bm (m + 1) u v = 2) && decide (hp v = (b : Int))) 40 : Nat) : Int) - ((jn (fun v => decide (bdL ba bb bm (m + 1) u v = 1) && decide (hp v = (b : Int))) 40 : Nat) : Int) else 0) = (if decide (hp u = (a : Int)) then ((jn (fun v => decide (bdL ba bb bm m u v = 2) && decide (hp v = (b : Int))) 40 : Nat) : Int) - ((jn (fun v => decide (bdL ba bb bm m u v = 1) && decide (hp v = (b : Int))) 40 : Nat) : Int) else 0) + ((if u = ba m then (if hp (ba m) = (a : Int) ∧ hp (bb m) = (b : Int) then (if bm m = 1 then -1 else 1) else 0) else 0) + (if u = bb m then (if hp (bb m) = (a : Int) ∧ hp (ba m) = (b : Int) then (if bm m = 1 then -1 else 1) else 0) else 0)) := by
    intro u
    rw [jn_bdL h hn (u := u) (t := 2) (by decide), jn_bdL h hn (u := u) (t := 1) (by decide)]
    unfold tcF
    simp only [decide_eq_true_eq]
    by_cases ea : u = ba m
    · subst ea
      have hne : ¬ ba m = bb m := hm.2.2.1
      have hne2 : ¬ bb m = ba m := fun q => hne q.symm
      by_cases q1 : hp (ba m) = (a : Int)
      · by_cases q2 : hp (bb m) = (b : Int)
        · rcases hm.2.2.2 with z | z <;> simp [hne, hne2, q1, q2, z] <;> omega
        · simp [hne, hne2, q1, q2]
      · simp [hne, hne2, q1]
    · have ea2 : ¬ ba m = u := fun q => ea q.symm
      by_cases eb : u = bb m
      · subst eb
        by_cases q1 : hp (bb m) = (a : Int)
        · by_cases q2 : hp (ba m) = (b : Int)
          · rcases hm.2.2.2 with z | z <;> simp [ea, ea2, q1, q2, z] <;> omega
          · simp [ea, ea2, q1, q2]
        · simp [ea, ea2, q1]
      · have eb2 : ¬ bb m = u := fun q => eb q.symm
        simp [ea, ea2, eb, eb2]
  rw [js_congr (fun u _ => e u), js_add, js_add, js_pt (by omega), js_pt (by omega)]
  unfold mbT
  by_cases q1 : hp (ba m) = (a : Int) ∧ hp (bb m) = (b : Int)
  · rw [if_pos q1, if_neg (show ¬ (hp (bb m) = (a : Int) ∧ hp (ba m) = (b : Int)) by omega), if_pos (Or.inl q1)]
    omega
  · by_cases q2 : hp (bb m) = (a : Int) ∧ hp (ba m) = (b : Int)
    · rw [if_neg q1, if_pos q2, if_pos (Or.inr ⟨q2.2, q2.1⟩)]
      omega
    · rw [if_neg q1, if_neg q2, if_neg (by omega)]
      omega
theorem meB_0 {a b : Nat} : meB (bdL ba bb bm 0) hp a b = 0 := by
  unfold meB
  have z : ∀ k, js (fun u => if decide (hp u = (a : Int)) then ((jn (fun v => decide (bdL ba bb bm 0 u v = 2) && decide (hp v = (b : Int))) 40 : Nat) : Int) - ((jn (fun v => decide (bdL ba bb bm 0 u v = 1) && decide (hp v = (b : Int))) 40 : Nat) : Int) else 0) k = 0 := by
    intro k
    induction k with
    | zero => rfl
    | succ k ih =>
      simp only [js]
      rw [ih, jn_bd0 (by decide), jn_bd0 (by decide)]
      split <;> rfl
  exact z 40
set_option maxRecDepth 100000 in
theorem melts_ok {a b : Nat} (hS : SM n hp fr m ba bb bm pr σ) (ha : hp a = (a : Int)) (hb : hp b = (b : Int)) (hab : a < b) (hbn : b < n)
    (hK0 : meT n fr (bdL ba bb bm m) pr hp a b = none → K (some (.int (jI 0))) σ)
    (hK1 : ∀ hp', meT n fr (bdL ba bb bm m) pr hp a b = some hp' → HV n hp' → ∀ σ' : jMem, (∀ v, v < n → σ' 28 v = hp' v) → (∀ c, c ≠ 28 → σ' c = σ c) → K (some (.int (jI 1))) σ') : jRun d mX8_melts [.ref 24, .int (jI (a : Int)), .int (jI (b : Int))] σ K := by
  have hSS := hS
  obtain ⟨s1, s2, s3, s4, s5, s6, s7, s8, s9, s10, s11⟩ := hS
  have hm := s9.1
  have hcb : 0 ≤ meC n fr hp a b ∧ meC n fr hp a b ≤ 288000 := by
    have := js_le (f := fun u => if decide (hp u = (a : Int)) then jbs (fr u) hp n b else 0) (n := n) (b := 7200) (fun u hu => by
      have := hSS.bsr hu b
      split <;> omega)
    unfold meC
    omega
  have hmb := meB_r (bdL ba bb bm m) hp a b
  -- the end: the melt itself
  have melt : meT n fr (bdL ba bb bm m) pr hp a b = some (meF n hp a b) → ∀ (q3 : Option Value) (x4 : Int) (q5 q6 q7 : Option Value), jV (jP mX8_melts d K) 189 [some (.ref 24), some (.int (jI (a : Int))), some (.int (jI (b : Int))), q3, some (.int (jI x4)), q5, q6, q7] [] σ := by
    intro hT q3 x4 q5 q6 q7
    refine jr_iconst (pc' := 190) gM dX8_melts_189 rfl ?_
    refine jr_istore (pc' := 192) (lv' := [_, _, _, _, _, _, _, _]) gM dX8_melts_190 rfl rfl (Nat.le_of_ble_eq_true rfl) ?_
    have lp : ∀ i, i ≤ n → ∀ σ1 : jMem, (∀ c, c ≠ 28 → σ1 c = σ c) → (∀ v, v < n → σ1 28 v = if v < i then meF n hp a b v else hp v) → jV (jP mX8_melts d K) 192 [some (.ref 24), some (.int (jI (a : Int))), some (.int (jI (b : Int))), q3, some (.int (jI x4)), some (.int (jI (i : Int))), q6, q7] [] σ1 := by
      refine jdown n ?_
      intro i hi ih σ1 g1 g2
      have hr := s3.r s2 i
      refine jr_iload (pc' := 194) gM dX8_melts_192 rfl rfl ?_
      refine jr_aload_n (pc' := 195) gM dX8_melts_194 rfl rfl ?_
      refine jr_gfi (pc' := 198) gM dX8_melts_195 rfl fX8_60 rfl rfl ?_
      rw [g1 24 (by omega), s1]
      refine jr_icmp_ge (tgt := 226) (pc' := 201) gM dX8_melts_198 rfl rfl ⟨by omega, by omega⟩ ⟨by omega, by omega⟩ (fun c198 => ?_) (fun c198 => ?_)
      · refine jr_iconst (pc' := 227) gM dX8_melts_226 rfl ?_
        refine jr_zreturn dX8_melts_227 rfl (by first | omega | exact bI_01 _) ?_
        have e : i = n := by omega
        subst e
        exact hK1 _ hT (meF_HV s3) σ1 (fun v hv => by rw [g2 v hv, if_pos hv]) g1
      · refine jr_aload_n (pc' := 202) gM dX8_melts_201 rfl rfl ?_
        refine jr_gfr (pc' := 205) gM dX8_melts_202 rfl fX8_32 rfl rfl ?_
        refine jr_iload (pc' := 207) gM dX8_melts_205 rfl rfl ?_
        refine jr_iald (pc' := 208) _ gM dX8_melts_207 rfl rfl rfl (by omega) (by decide) ?_
        rw [g2 i (by omega), if_neg (by omega)]
        refine jr_iload_n (pc' := 209) gM dX8_melts_208 rfl rfl ?_
        refine jr_icmp_ne (tgt := 220) (pc' := 212) gM dX8_melts_209 rfl rfl ⟨by omega, by omega⟩ ⟨by omega, by omega⟩ (fun c209 => ?_) (fun c209 => ?_)
        · refine jr_iinc (pc' := 223) (lv' := [_, _, _, _, _, _, _, _]) gM dX8_melts_220 rfl rfl rfl ?_
          refine jr_goto (tgt := 192) gM dX8_melts_223 rfl ?_
          refine ih (i + 1) (by omega) (by omega) σ1 g1 (fun v hv => ?_)
          rw [g2 v hv]
          by_cases e : v = i
          · subst e
            rw [if_neg (show ¬ v < v by omega), if_pos (show v < v + 1 by omega), meF_at s3 ha hab (by omega), if_neg c209]
          · have : (v < i) ↔ (v < i + 1) := by omega
            simp only [this]
        · refine jr_aload_n (pc' := 213) gM dX8_melts_212 rfl rfl ?_
          refine jr_gfr (pc' := 216) gM dX8_melts_213 rfl fX8_32 rfl rfl ?_
          refine jr_iload (pc' := 218) gM dX8_melts_216 rfl rfl ?_
          refine jr_iload_n (pc' := 219) gM dX8_melts_218 rfl rfl ?_
          refine jr_iast (pc' := 220) _ gM dX8_melts_219 rfl rfl rfl (by omega) (by decide) ?_
          refine jr_iinc (pc' := 223) (lv' := [_, _, _, _, _, _, _, _]) gM dX8_melts_220 rfl rfl rfl ?_
          refine jr_goto (tgt := 192) gM dX8_melts_223 rfl ?_
          refine ih (i + 1) (by omega) (by omega) _ (fun c hc => by rw [jup_row hc]; exact g1 c hc) (fun v hv => ?_)
          by_cases e : v = i
          · subst e
            rw [jup_at, if_pos (show v < v + 1 by omega), meF_at s3 ha hab (by omega), if_pos c209]
          · rw [jup_ne (Or.inr e), g2 v hv]
            have : (v < i) ↔ (v < i + 1) := by omega
            simp only [this]
    exact lp 0 (by omega) σ (fun c _ => rfl) (fun v hv => by rw [if_neg (by omega)]; exact s4 v hv)
  -- the bonds
  have bonds : ∀ q4 q5 : Option Value, jV (jP mX8_melts d K) 80 [some (.ref 24), some (.int (jI (a : Int))), some (.int (jI (b : Int))), some (.int (jI (meC n fr hp a b - pr))), q4, q5, none, none] [] σ := by
    intro q4 q5
    refine jr_iconst (pc' := 81) gM dX8_melts_80 rfl ?_
    refine jr_istore (pc' := 83) (lv' := [_, _, _, _, _, _, _, _]) gM dX8_melts_81 rfl rfl (Nat.le_of_ble_eq_true rfl) ?_
    refine jr_iconst (pc' := 84) gM dX8_melts_83 rfl ?_
    refine jr_istore (pc' := 86) (lv' := [_, _, _, _, _, _, _, _]) gM dX8_melts_84 rfl rfl (Nat.le_of_ble_eq_true rfl) ?_
    have lp : ∀ i, i ≤ m → ∀ q6 q7 : Option Value, jV (jP mX8_melts d K) 86 [some (.ref 24), some (.int (jI (a : Int))), some (.int (jI (b : Int))), some (.int (jI (meC n fr hp a b - pr))), some (.int (jI (meB (bdL ba bb bm i) hp a b))), some (.int (jI (i : Int))), q6, q7] [] σ := by
      refine jdown m ?_
      intro i hi ih q6 q7
      refine jr_iload (pc' := 88) gM dX8_melts_86 rfl rfl ?_
      refine jr_aload_n (pc' := 89) gM dX8_melts_88 rfl rfl ?_
      refine jr_gfi (pc' := 92) gM dX8_melts_89 rfl fX8_90 rfl rfl ?_
      rw [s8.1]
      refine jr_icmp_ge (tgt := 173) (pc' := 95) gM dX8_melts_92 rfl rfl ⟨by omega, by omega⟩ ⟨by omega, by omega⟩ (fun c92 => ?_) (fun c92 => ?_)
      · have e : i = m := by omega
        subst e
        have no : meT n fr (bdL ba bb bm i) pr hp a b = none → jV (jP mX8_melts d K) 187 [some (.ref 24), some (.int (jI (a : Int))), some (.int (jI (b : Int))), some (.int (jI (meC n fr hp a b - pr))), some (.int (jI (meB (bdL ba bb bm i) hp a b))), some (.int (jI (i : Int))), q6, q7] [] σ := by
          intro hz
          refine jr_iconst (pc' := 188) gM dX8_melts_187 rfl ?_
          refine jr_zreturn dX8_melts_188 rfl (by first | omega | exact bI_01 _) ?_
          exact hK0 hz
        refine jr_iload (pc' := 175) gM dX8_melts_173 rfl rfl ?_
        refine jr_if_gt (tgt := 187) (pc' := 178) gM dX8_melts_175 rfl rfl ⟨by omega, by omega⟩ (fun c175 => ?_) (fun c175 => ?_)
        · exact no (by unfold meT; rw [if_neg (by omega)])
        · refine jr_iload (pc' := 180) gM dX8_melts_178 rfl rfl ?_
          refine jr_if_ne (tgt := 189) (pc' := 183) gM dX8_melts_180 rfl rfl ⟨by omega, by omega⟩ (fun c180 => ?_) (fun c180 => ?_)
          · exact melt (by unfold meT; rw [if_pos ⟨hb, by omega⟩]) _ _ _ _ _
          · refine jr_iload_n (pc' := 184) gM dX8_melts_183 rfl rfl ?_
            refine jr_if_lt (tgt := 189) (pc' := 187) gM dX8_melts_184 rfl rfl ⟨by omega, by omega⟩ (fun c184 => ?_) (fun c184 => ?_)
            · exact melt (by unfold meT; rw [if_pos ⟨hb, by omega⟩]) _ _ _ _ _
            · exact no (by unfold meT; rw [if_neg (by omega)])
      · have hbi := s9.2.1 i (by omega)
        obtain ⟨l1, l2, l3⟩ := s8.2 i (by omega)
        have nxt := fun q r => ih (i + 1) (by omega) (by omega) q r
        rw [meB_s (s9.pre (show i + 1 ≤ m by omega)) s2 (by omega)] at nxt
        have r1 := s3.r s2 (ba i)
        have r2 := s3.r s2 (bb i)
        refine jr_aload_n (pc' := 96) gM dX8_melts_95 rfl rfl ?_
        refine jr_gfr (pc' := 99) gM dX8_melts_96 rfl fX8_32 rfl rfl ?_
        refine jr_aload_n (pc' := 100) gM dX8_melts_99 rfl rfl ?_
        refine jr_gfr (pc' := 103) gM dX8_melts_100 rfl fX8_38 rfl rfl ?_
        refine jr_iload (pc' := 105) gM dX8_melts_103 rfl rfl ?_
        refine jr_iald (pc' := 106) _ gM dX8_melts_105 rfl rfl rfl (by omega) (by decide) ?_
        rw [l1]
        refine jr_iald (pc' := 107) (ba i) gM dX8_melts_106 rfl rfl (rfl) (by omega) (by decide) ?_
        rw [s4 _ hbi.1]
        refine jr_istore (pc' := 109) (lv' := [_, _, _, _, _, _, _, _]) gM dX8_melts_107 rfl rfl (Nat.le_of_ble_eq_true rfl) ?_
        refine jr_aload_n (pc' := 110) gM dX8_melts_109 rfl rfl ?_
        refine jr_gfr (pc' := 113) gM dX8_melts_110 rfl fX8_32 rfl rfl ?_
        refine jr_aload_n (pc' := 114) gM dX8_melts_113 rfl rfl ?_
        refine jr_gfr (pc' := 117) gM dX8_melts_114 rfl fX8_41 rfl rfl ?_
        refine jr_iload (pc' := 119) gM dX8_melts_117 rfl rfl ?_
        refine jr_iald (pc' := 120) _ gM dX8_melts_119 rfl rfl rfl (by omega) (by decide) ?_
        rw [l2]
        refine jr_iald (pc' := 121) (bb i) gM dX8_melts_120 rfl rfl (rfl) (by omega) (by decide) ?_
        rw [s4 _ hbi.2.1]
        refine jr_istore (pc' := 123) (lv' := [_, _, _, _, _, _, _, _]) gM dX8_melts_121 rfl rfl (Nat.le_of_ble_eq_true rfl) ?_
        refine jr_iload (pc' := 125) gM dX8_melts_123 rfl rfl ?_
        refine jr_iload_n (pc' := 126) gM dX8_melts_125 rfl rfl ?_
        have skip : ¬ ((hp (ba i) = (a : Int) ∧ hp (bb i) = (b : Int)) ∨ (hp (ba i) = (b : Int) ∧ hp (bb i) = (a : Int))) → jV (jP mX8_melts d K) 167 [some (.ref 24), some (.int (jI (a : Int))), some (.int (jI (b : Int))), some (.int (jI (meC n fr hp a b - pr))), some (.int (jI (meB (bdL ba bb bm i) hp a b))), some (.int (jI (i : Int))), some (.int (jI (hp (ba i)))), some (.int (jI (hp (bb i))))] [] σ := by
          intro hz
          refine jr_iinc (pc' := 170) (lv' := [_, _, _, _, _, _, _, _]) gM dX8_melts_167 rfl rfl rfl ?_
          refine jr_goto (tgt := 86) gM dX8_melts_170 rfl ?_
          have := nxt (some (.int (jI (hp (ba i))))) (some (.int (jI (hp (bb i)))))
          unfold mbT at this
          rw [if_neg hz, Int.add_zero] at this
          exact this
        have take : ((hp (ba i) = (a : Int) ∧ hp (bb i) = (b : Int)) ∨ (hp (ba i) = (b : Int) ∧ hp (bb i) = (a : Int))) → jV (jP mX8_melts d K) 147 [some (.ref 24), some (.int (jI (a : Int))), some (.int (jI (b : Int))), some (.int (jI (meC n fr hp a b - pr))), some (.int (jI (meB (bdL ba bb bm i) hp a b))), some (.int (jI (i : Int))), some (.int (jI (hp (ba i)))), some (.int (jI (hp (bb i))))] [] σ := by
          intro hz
          have := nxt (some (.int (jI (hp (ba i))))) (some (.int (jI (hp (bb i)))))
          unfold mbT at this
          rw [if_pos hz] at this
          refine jr_iload (pc' := 149) gM dX8_melts_147 rfl rfl ?_
          refine jr_aload_n (pc' := 150) gM dX8_melts_149 rfl rfl ?_
          refine jr_gfr (pc' := 153) gM dX8_melts_150 rfl fX8_44 rfl rfl ?_
          refine jr_iload (pc' := 155) gM dX8_melts_153 rfl rfl ?_
          refine jr_zald (pc' := 156) _ gM dX8_melts_155 rfl rfl rfl (by omega) (by decide) ?_
          rw [l3]
          refine jr_if_eq (tgt := 163) (pc' := 159) gM dX8_melts_156 rfl rfl ⟨by omega, by omega⟩ (fun c156 => ?_) (fun c156 => ?_)
          · refine jr_iconst (pc' := 164) gM dX8_melts_163 rfl ?_
            refine jr_iadd (pc' := 165) gM dX8_melts_164 rfl ?_
            refine jr_istore (pc' := 167) (lv' := [_, _, _, _, _, _, _, _]) gM dX8_melts_165 rfl rfl (Nat.le_of_ble_eq_true rfl) ?_
            refine jr_iinc (pc' := 170) (lv' := [_, _, _, _, _, _, _, _]) gM dX8_melts_167 rfl rfl rfl ?_
            refine jr_goto (tgt := 86) gM dX8_melts_170 rfl ?_
            rw [if_neg (by omega)] at this
            exact this
          · refine jr_iconst (pc' := 160) gM dX8_melts_159 rfl ?_
            refine jr_goto (tgt := 164) gM dX8_melts_160 rfl ?_
            refine jr_iadd (pc' := 165) gM dX8_melts_164 rfl ?_
            refine jr_istore (pc' := 167) (lv' := [_, _, _, _, _, _, _, _]) gM dX8_melts_165 rfl rfl (Nat.le_of_ble_eq_true rfl) ?_
            refine jr_iinc (pc' := 170) (lv' := [_, _, _, _, _, _, _, _]) gM dX8_melts_167 rfl rfl rfl ?_
            refine jr_goto (tgt := 86) gM dX8_melts_170 rfl ?_
            rw [if_pos (by omega)] at this
            exact this
        have second : ¬ (hp (ba i) = (a : Int) ∧ hp (bb i) = (b : Int)) → jV (jP mX8_melts d K) 135 [some (.ref 24), some (.int (jI (a : Int))), some (.int (jI (b : Int))), some (.int (jI (meC n fr hp a b - pr))), some (.int (jI (meB (bdL ba bb bm i) hp a b))), some (.int (jI (i : Int))), some (.int (jI (hp (ba i)))), some (.int (jI (hp (bb i))))] [] σ := by
          intro hz
          refine jr_iload (pc' := 137) gM dX8_melts_135 rfl rfl ?_
          refine jr_iload_n (pc' := 138) gM dX8_melts_137 rfl rfl ?_
          refine jr_icmp_ne (tgt := 167) (pc' := 141) gM dX8_melts_138 rfl rfl ⟨by omega, by omega⟩ ⟨by omega, by omega⟩ (fun c138 => ?_) (fun c138 => ?_)
          · exact skip (by omega)
          · refine jr_iload (pc' := 143) gM dX8_melts_141 rfl rfl ?_
            refine jr_iload_n (pc' := 144) gM dX8_melts_143 rfl rfl ?_
            refine jr_icmp_ne (tgt := 167) (pc' := 147) gM dX8_melts_144 rfl rfl ⟨by omega, by omega⟩ ⟨by omega, by omega⟩ (fun c144 => ?_) (fun c144 => ?_)
            · exact skip (by omega)
            · exact take (by omega)
        refine jr_icmp_ne (tgt := 135) (pc' := 129) gM dX8_melts_126 rfl rfl ⟨by omega, by omega⟩ ⟨by omega, by omega⟩ (fun c126 => ?_) (fun c126 => ?_)
        · exact second (by omega)
        · refine jr_iload (pc' := 131) gM dX8_melts_129 rfl rfl ?_
          refine jr_iload_n (pc' := 132) gM dX8_melts_131 rfl rfl ?_
          refine jr_icmp_eq (tgt := 147) (pc' := 135) gM dX8_melts_132 rfl rfl ⟨by omega, by omega⟩ ⟨by omega, by omega⟩ (fun c132 => ?_) (fun c132 => ?_)
          · exact take (by omega)
          · exact second (by omega)
    have := lp 0 (by omega) none none
    rw [meB_0] at this
    exact this
  refine jenter (lv := [_, _, _, _, _, _, _, _]) rfl rfl (Nat.le_of_ble_eq_true rfl) ?_
  refine jr_aload_n (pc' := 1) gM dX8_melts_0 rfl rfl ?_
  refine jr_gfi (pc' := 4) gM dX8_melts_1 rfl fX8_13 rfl rfl ?_
  rw [s10]
  refine jr_ineg (pc' := 5) gM dX8_melts_4 rfl ?_
  refine jr_istore_n (pc' := 6) (lv' := [_, _, _, _, _, _, _, _]) gM dX8_melts_5 rfl rfl (Nat.le_of_ble_eq_true rfl) ?_
  refine jr_iconst (pc' := 7) gM dX8_melts_6 rfl ?_
  refine jr_istore (pc' := 9) (lv' := [_, _, _, _, _, _, _, _]) gM dX8_melts_7 rfl rfl (Nat.le_of_ble_eq_true rfl) ?_
  have lp : ∀ i, i ≤ n → ∀ q5 : Option Value, jV (jP mX8_melts d K) 9 [some (.ref 24), some (.int (jI (a : Int))), some (.int (jI (b : Int))), some (.int (jI (js (fun u => if decide (hp u = (a : Int)) then jbs (fr u) hp n b else 0) i - pr))), some (.int (jI (i : Int))), q5, none, none] [] σ := by
    refine jdown n ?_
    intro i hi ih q5
    have hri := s3.r s2 i
    refine jr_iload (pc' := 11) gM dX8_melts_9 rfl rfl ?_
    refine jr_aload_n (pc' := 12) gM dX8_melts_11 rfl rfl ?_
    refine jr_gfi (pc' := 15) gM dX8_melts_12 rfl fX8_60 rfl rfl ?_
    rw [s1]
    refine jr_icmp_ge (tgt := 80) (pc' := 18) gM dX8_melts_15 rfl rfl ⟨by omega, by omega⟩ ⟨by omega, by omega⟩ (fun c15 => ?_) (fun c15 => ?_)
    · have e : i = n := by omega
      subst e
      exact bonds _ _
    · have nxt := fun q => ih (i + 1) (by omega) (by omega) q
      simp only [js] at nxt
      generalize js (fun u => if decide (hp u = (a : Int)) then jbs (fr u) hp n b else 0) i = S at *
      refine jr_iconst (pc' := 19) gM dX8_melts_18 rfl ?_
      refine jr_istore (pc' := 21) (lv' := [_, _, _, _, _, _, _, _]) gM dX8_melts_19 rfl rfl (Nat.le_of_ble_eq_true rfl) ?_
      have lp2 : ∀ j, j ≤ n → jV (jP mX8_melts d K) 21 [some (.ref 24), some (.int (jI (a : Int))), some (.int (jI (b : Int))), some (.int (jI (S + (if decide (hp i = (a : Int)) then jbs (fr i) hp j b else 0) - pr))), some (.int (jI (i : Int))), some (.int (jI (j : Int))), none, none] [] σ := by
        refine jdown n ?_
        intro j hj ihj
        have hrj := s3.r s2 j
        refine jr_iload (pc' := 23) gM dX8_melts_21 rfl rfl ?_
        refine jr_aload_n (pc' := 24) gM dX8_melts_23 rfl rfl ?_
        refine jr_gfi (pc' := 27) gM dX8_melts_24 rfl fX8_60 rfl rfl ?_
        rw [s1]
        refine jr_icmp_ge (tgt := 74) (pc' := 30) gM dX8_melts_27 rfl rfl ⟨by omega, by omega⟩ ⟨by omega, by omega⟩ (fun c27 => ?_) (fun c27 => ?_)
        · refine jr_iinc (pc' := 77) (lv' := [_, _, _, _, _, _, _, _]) gM dX8_melts_74 rfl rfl rfl ?_
          refine jr_goto (tgt := 9) gM dX8_melts_77 rfl ?_
          have e : j = n := by omega
          subst e
          exact nxt _
        · have nj := ihj (j + 1) (by omega) (by omega)
          rw [jbs_s] at nj
          refine jr_aload_n (pc' := 31) gM dX8_melts_30 rfl rfl ?_
          refine jr_gfr (pc' := 34) gM dX8_melts_31 rfl fX8_32 rfl rfl ?_
          refine jr_iload (pc' := 36) gM dX8_melts_34 rfl rfl ?_
          refine jr_iald (pc' := 37) _ gM dX8_melts_36 rfl rfl rfl (by omega) (by decide) ?_
          rw [s4 i (by omega)]
          refine jr_iload_n (pc' := 38) gM dX8_melts_37 rfl rfl ?_
          refine jr_icmp_ne (tgt := 68) (pc' := 41) gM dX8_melts_38 rfl rfl ⟨by omega, by omega⟩ ⟨by omega, by omega⟩ (fun c38 => ?_) (fun c38 => ?_)
          · refine jr_iinc (pc' := 71) (lv' := [_, _, _, _, _, _, _, _]) gM dX8_melts_68 rfl rfl rfl ?_
            refine jr_goto (tgt := 21) gM dX8_melts_71 rfl ?_
            simp only [c38, decide_false] at nj ⊢
            exact nj
          · refine jr_aload_n (pc' := 42) gM dX8_melts_41 rfl rfl ?_
            refine jr_gfr (pc' := 45) gM dX8_melts_42 rfl fX8_32 rfl rfl ?_
            refine jr_iload (pc' := 47) gM dX8_melts_45 rfl rfl ?_
            refine jr_iald (pc' := 48) _ gM dX8_melts_47 rfl rfl rfl (by omega) (by decide) ?_
            rw [s4 j (by omega)]
            refine jr_iload_n (pc' := 49) gM dX8_melts_48 rfl rfl ?_
            refine jr_icmp_ne (tgt := 68) (pc' := 52) gM dX8_melts_49 rfl rfl ⟨by omega, by omega⟩ ⟨by omega, by omega⟩ (fun c49 => ?_) (fun c49 => ?_)
            · refine jr_iinc (pc' := 71) (lv' := [_, _, _, _, _, _, _, _]) gM dX8_melts_68 rfl rfl rfl ?_
              refine jr_goto (tgt := 21) gM dX8_melts_71 rfl ?_
              rw [if_neg c49, Int.add_zero] at nj
              exact nj
            · refine jr_iload_n (pc' := 53) gM dX8_melts_52 rfl rfl ?_
              refine jr_aload_n (pc' := 54) gM dX8_melts_53 rfl rfl ?_
              refine jr_gfr (pc' := 57) gM dX8_melts_54 rfl fX8_35 rfl rfl ?_
              refine jr_bipush (pc' := 59) gM dX8_melts_57 rfl rfl ?_
              refine jr_iload (pc' := 61) gM dX8_melts_59 rfl rfl ?_
              refine jr_imul (pc' := 62) gM dX8_melts_61 rfl ?_
              refine jr_iload (pc' := 64) gM dX8_melts_62 rfl rfl ?_
              refine jr_iadd (pc' := 65) gM dX8_melts_64 rfl ?_
              refine jr_iald (pc' := 66) (40 * i + j) gM dX8_melts_65 rfl rfl (by omega) (by omega) (by decide) ?_
              rw [s5 i j (by omega) (by omega)]
              refine jr_iadd (pc' := 67) gM dX8_melts_66 rfl ?_
              refine jr_istore_n (pc' := 68) (lv' := [_, _, _, _, _, _, _, _]) gM dX8_melts_67 rfl rfl (Nat.le_of_ble_eq_true rfl) ?_
              refine jr_iinc (pc' := 71) (lv' := [_, _, _, _, _, _, _, _]) gM dX8_melts_68 rfl rfl rfl ?_
              refine jr_goto (tgt := 21) gM dX8_melts_71 rfl ?_
              rw [if_pos c49] at nj
              simp only [c38, decide_true, if_true] at nj ⊢
              rw [show S + jbs (fr i) hp j (b : Int) - pr + fr i j = S + (jbs (fr i) hp j (b : Int) + fr i j) - pr by omega]
              exact nj
      have := lp2 0 (by omega)
      rw [show (if decide (hp i = (a : Int)) then jbs (fr i) hp 0 (b : Int) else 0) = 0 by split <;> rfl, Int.add_zero] at this
      exact this
  have := lp 0 (by omega) none
  rw [show js (fun u => if decide (hp u = (a : Int)) then jbs (fr u) hp n (b : Int) else 0) 0 - pr = -pr by simp [js]] at this
  exact this
end jMt
