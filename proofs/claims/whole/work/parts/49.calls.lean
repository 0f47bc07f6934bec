/-! ===== the law: a call of each kind, answered alike by both ===== -/
def jInv (σ : jMem) : Prop := ∃ (n : Nat) (nb : Nat → Nat) (yr wt hp : Nat → Int) (pr ga sh fe : Int) (m : Nat) (ba bb : Nat → Nat) (bm : Nat → Int) (s : Nat) (se : Nat → Nat) (sp : Int), CI n nb yr wt hp pr ga sh fe (bdL ba bb bm m) m s se sp σ ∧ MI n nb yr wt hp pr ga sh fe m ba bb bm s se sp σ
section jLc
variable {n : Nat} {nb : Nat → Nat} {yr wt hp : Nat → Int} {pr ga sh fe : Int} {m : Nat} {ba bb : Nat → Nat} {bm : Nat → Int} {bd : Nat → Nat → Int} {s : Nat} {se : Nat → Nat} {sp : Int} {σ σ' : jMem} {b L i : Nat} {xs : Nat → Int32}
theorem MI.fr (h : MI n nb yr wt hp pr ga sh fe m ba bb bm s se sp σ) (f : ∀ c, 24 ≤ c → σ' c = σ c) : MI n nb yr wt hp pr ga sh fe m ba bb bm s se sp σ' := h.of (fun j _ => by rw [f 24 (by omega)]) (fun c q1 q2 => f c (by omega))
theorem CI.fr (h : CI n nb yr wt hp pr ga sh fe bd m s se sp σ) (f : ∀ c, c < 24 → σ' c = σ c) : CI n nb yr wt hp pr ga sh fe bd m s se sp σ' := h.of (fun c q _ _ _ _ => f c (by omega)) (by rw [f 18 (by omega)])
theorem jInv_of (hC : CI n nb yr wt hp pr ga sh fe (bdL ba bb bm m) m s se sp σ) (hM : MI n nb yr wt hp pr ga sh fe m ba bb bm s se sp σ) : jInv σ := ⟨n, nb, yr, wt, hp, pr, ga, sh, fe, m, ba, bb, bm, s, se, sp, hC, hM⟩
theorem fix_uni {u u' : Nat} {y : Int} {h1 h2 : Nat → Int} (eu : u' = u) (d1 : (y = -1 ∧ h1 = opF n hp u) ∨ (y = (u : Int) ∧ h1 = alF n hp u) ∨ (∃ o k : Nat, y = (o : Int) ∧ o ≠ u ∧ o < n ∧ hp o = (k : Int) ∧ h1 = inF n hp u k)) (d2 : (y = -1 ∧ h2 = opF n hp u') ∨ (y = (u' : Int) ∧ h2 = alF n hp u') ∨ (∃ o k : Nat, y = (o : Int) ∧ o ≠ u' ∧ o < n ∧ hp o = (k : Int) ∧ h2 = inF n hp u' k)) : h2 = h1 := by
  subst eu
  rcases d1 with ⟨a1, a2⟩ | ⟨a1, a2⟩ | ⟨o, k, a1, a2, a3, a4, a5⟩ <;> rcases d2 with ⟨b1, b2⟩ | ⟨b1, b2⟩ | ⟨o', k', b1, b2, b3, b4, b5⟩
  · rw [a2, b2]
  · omega
  · omega
  · omega
  · rw [a2, b2]
  · omega
  · omega
  · omega
  · have : o' = o := by omega
    subst this
    have : k' = k := by omega
    subst this
    rw [a5, b5]
set_option maxRecDepth 100000 in
theorem lc_weight (hL : L ≤ 2560) (hi : i + 5 ≤ L) (hC : CI n nb yr wt hp pr ga sh fe (bdL ba bb bm m) m s se sp σ) (hM : MI n nb yr wt hp pr ga sh fe m ba bb bm s se sp σ) (fin : ∀ σ' : jMem, jInv σ' → jV (jPL b L xs) 738 [some (.ref 37), some (.ref 0), some (.ref 24), some (.int (jI (i : Int)))] [] σ') : jV (jPL b L xs) 136 [some (.ref 37), some (.ref 0), some (.ref 24), some (.int (jI (i : Int)))] [] σ := by
  refine jr_aload_n (pc' := 137) gL dL_law_136 rfl rfl ?_
  refine jr_aload_n (pc' := 138) gL dL_law_137 rfl rfl ?_
  refine jr_iload_n (pc' := 139) gL dL_law_138 rfl rfl ?_
  refine jr_iconst (pc' := 140) gL dL_law_139 rfl ?_
  refine jr_iadd (pc' := 141) gL dL_law_140 rfl ?_
  refine jr_sld (pc' := 142) (i + 1) dL_law_141 rfl (by omega) (by omega) (by omega) ?_
  refine jr_aload_n (pc' := 143) gL dL_law_142 rfl rfl ?_
  refine jr_iload_n (pc' := 144) gL dL_law_143 rfl rfl ?_
  refine jr_iconst (pc' := 145) gL dL_law_144 rfl ?_
  refine jr_iadd (pc' := 146) gL dL_law_145 rfl ?_
  refine jr_sld (pc' := 147) (i + 2) dL_law_146 rfl (by omega) (by omega) (by omega) ?_
  refine jr_inv (pc' := 150) (as := [_, _]) gL dL_law_147 rfl kL_13 rfl rfl rfl (Nat.le_of_ble_eq_true rfl) ?_
  refine x_weight hC (jR_toInt _) (jR_toInt _) (fun no => ?_) (fun k e1 e2 e3 σ1 c1 f1 => ?_)
  · dsimp only [Option.toList, List.cons_append, List.nil_append]
    refine jr_aload_n (pc' := 151) gL dL_law_150 rfl rfl ?_
    refine jr_aload_n (pc' := 152) gL dL_law_151 rfl rfl ?_
    refine jr_iload_n (pc' := 153) gL dL_law_152 rfl rfl ?_
    refine jr_iconst (pc' := 154) gL dL_law_153 rfl ?_
    refine jr_iadd (pc' := 155) gL dL_law_154 rfl ?_
    refine jr_sld (pc' := 156) (i + 1) dL_law_155 rfl (by omega) (by omega) (by omega) ?_
    refine jr_aload_n (pc' := 157) gL dL_law_156 rfl rfl ?_
    refine jr_iload_n (pc' := 158) gL dL_law_157 rfl rfl ?_
    refine jr_iconst (pc' := 159) gL dL_law_158 rfl ?_
    refine jr_iadd (pc' := 160) gL dL_law_159 rfl ?_
    refine jr_sld (pc' := 161) (i + 2) dL_law_160 rfl (by omega) (by omega) (by omega) ?_
    refine jr_inv (pc' := 164) (as := [_, _]) gL dL_law_161 rfl kL_17 rfl rfl rfl (Nat.le_of_ble_eq_true rfl) ?_
    refine m_weight hM (jR_toInt _) (jR_toInt _) (fun _ => ?_) (fun k e1 e2 e3 => absurd ⟨⟨by omega, by omega⟩, e3⟩ no)
    dsimp only [Option.toList, List.cons_append, List.nil_append]
    refine jr_eqS (tgt := 738) gL dL_law_164 rfl ?_
    exact fin σ (jInv_of hC hM)
  · dsimp only [Option.toList, List.cons_append, List.nil_append]
    refine jr_aload_n (pc' := 151) gL dL_law_150 rfl rfl ?_
    refine jr_aload_n (pc' := 152) gL dL_law_151 rfl rfl ?_
    refine jr_iload_n (pc' := 153) gL dL_law_152 rfl rfl ?_
    refine jr_iconst (pc' := 154) gL dL_law_153 rfl ?_
    refine jr_iadd (pc' := 155) gL dL_law_154 rfl ?_
    refine jr_sld (pc' := 156) (i + 1) dL_law_155 rfl (by omega) (by omega) (by omega) ?_
    refine jr_aload_n (pc' := 157) gL dL_law_156 rfl rfl ?_
    refine jr_iload_n (pc' := 158) gL dL_law_157 rfl rfl ?_
    refine jr_iconst (pc' := 159) gL dL_law_158 rfl ?_
    refine jr_iadd (pc' := 160) gL dL_law_159 rfl ?_
    refine jr_sld (pc' := 161) (i + 2) dL_law_160 rfl (by omega) (by omega) (by omega) ?_
    refine jr_inv (pc' := 164) (as := [_, _]) gL dL_law_161 rfl kL_17 rfl rfl rfl (Nat.le_of_ble_eq_true rfl) ?_
    refine m_weight (hM.fr f1) (jR_toInt _) (jR_toInt _) (fun no => absurd ⟨⟨by omega, by omega⟩, e3⟩ no) (fun k' e1' e2' e3' σ2 m2 f2 => ?_)
    have ek : k' = k := by omega
    subst ek
    dsimp only [Option.toList, List.cons_append, List.nil_append]
    refine jr_eqS (tgt := 738) gL dL_law_164 rfl ?_
    exact fin σ2 (jInv_of (c1.fr f2) m2)
set_option maxRecDepth 100000 in
theorem lc_prices (hL : L ≤ 2560) (hi : i + 5 ≤ L) (hC : CI n nb yr wt hp pr ga sh fe (bdL ba bb bm m) m s se sp σ) (hM : MI n nb yr wt hp pr ga sh fe m ba bb bm s se sp σ) (fin : ∀ σ' : jMem, jInv σ' → jV (jPL b L xs) 738 [some (.ref 37), some (.ref 0), some (.ref 24), some (.int (jI (i : Int)))] [] σ') : jV (jPL b L xs) 169 [some (.ref 37), some (.ref 0), some (.ref 24), some (.int (jI (i : Int)))] [] σ := by
  refine jr_aload_n (pc' := 170) gL dL_law_169 rfl rfl ?_
  refine jr_aload_n (pc' := 171) gL dL_law_170 rfl rfl ?_
  refine jr_iload_n (pc' := 172) gL dL_law_171 rfl rfl ?_
  refine jr_iconst (pc' := 173) gL dL_law_172 rfl ?_
  refine jr_iadd (pc' := 174) gL dL_law_173 rfl ?_
  refine jr_sld (pc' := 175) (i + 1) dL_law_174 rfl (by omega) (by omega) (by omega) ?_
  refine jr_aload_n (pc' := 176) gL dL_law_175 rfl rfl ?_
  refine jr_iload_n (pc' := 177) gL dL_law_176 rfl rfl ?_
  refine jr_iconst (pc' := 178) gL dL_law_177 rfl ?_
  refine jr_iadd (pc' := 179) gL dL_law_178 rfl ?_
  refine jr_sld (pc' := 180) (i + 2) dL_law_179 rfl (by omega) (by omega) (by omega) ?_
  refine jr_inv (pc' := 183) (as := [_, _]) gL dL_law_180 rfl kL_18 rfl rfl rfl (Nat.le_of_ble_eq_true rfl) ?_
  refine x_prices hC (jR_toInt _) (jR_toInt _) (fun no => ?_) (fun e σ1 c1 f1 => ?_)
  · dsimp only [Option.toList, List.cons_append, List.nil_append]
    refine jr_aload_n (pc' := 184) gL dL_law_183 rfl rfl ?_
    refine jr_aload_n (pc' := 185) gL dL_law_184 rfl rfl ?_
    refine jr_iload_n (pc' := 186) gL dL_law_185 rfl rfl ?_
    refine jr_iconst (pc' := 187) gL dL_law_186 rfl ?_
    refine jr_iadd (pc' := 188) gL dL_law_187 rfl ?_
    refine jr_sld (pc' := 189) (i + 1) dL_law_188 rfl (by omega) (by omega) (by omega) ?_
    refine jr_aload_n (pc' := 190) gL dL_law_189 rfl rfl ?_
    refine jr_iload_n (pc' := 191) gL dL_law_190 rfl rfl ?_
    refine jr_iconst (pc' := 192) gL dL_law_191 rfl ?_
    refine jr_iadd (pc' := 193) gL dL_law_192 rfl ?_
    refine jr_sld (pc' := 194) (i + 2) dL_law_193 rfl (by omega) (by omega) (by omega) ?_
    refine jr_inv (pc' := 197) (as := [_, _]) gL dL_law_194 rfl kL_21 rfl rfl rfl (Nat.le_of_ble_eq_true rfl) ?_
    refine m_prices hM (jR_toInt _) (jR_toInt _) (fun _ => ?_) (fun e => absurd e no)
    dsimp only [Option.toList, List.cons_append, List.nil_append]
    refine jr_eqS (tgt := 738) gL dL_law_197 rfl ?_
    exact fin σ (jInv_of hC hM)
  · dsimp only [Option.toList, List.cons_append, List.nil_append]
    refine jr_aload_n (pc' := 184) gL dL_law_183 rfl rfl ?_
    refine jr_aload_n (pc' := 185) gL dL_law_184 rfl rfl ?_
    refine jr_iload_n (pc' := 186) gL dL_law_185 rfl rfl ?_
    refine jr_iconst (pc' := 187) gL dL_law_186 rfl ?_
    refine jr_iadd (pc' := 188) gL dL_law_187 rfl ?_
    refine jr_sld (pc' := 189) (i + 1) dL_law_188 rfl (by omega) (by omega) (by omega) ?_
    refine jr_aload_n (pc' := 190) gL dL_law_189 rfl rfl ?_
    refine jr_iload_n (pc' := 191) gL dL_law_190 rfl rfl ?_
    refine jr_iconst (pc' := 192) gL dL_law_191 rfl ?_
    refine jr_iadd (pc' := 193) gL dL_law_192 rfl ?_
    refine jr_sld (pc' := 194) (i + 2) dL_law_193 rfl (by omega) (by omega) (by omega) ?_
    refine jr_inv (pc' := 197) (as := [_, _]) gL dL_law_194 rfl kL_21 rfl rfl rfl (Nat.le_of_ble_eq_true rfl) ?_
    refine m_prices (hM.fr f1) (jR_toInt _) (jR_toInt _) (fun no => absurd e no) (fun _ σ2 m2 f2 => ?_)
    dsimp only [Option.toList, List.cons_append, List.nil_append]
    refine jr_eqS (tgt := 738) gL dL_law_197 rfl ?_
    exact fin σ2 (jInv_of (c1.fr f2) m2)
set_option maxRecDepth 100000 in
theorem lc_marks (hL : L ≤ 2560) (hi : i + 5 ≤ L) (hC : CI n nb yr wt hp pr ga sh fe (bdL ba bb bm m) m s se sp σ) (hM : MI n nb yr wt hp pr ga sh fe m ba bb bm s se sp σ) (fin : ∀ σ' : jMem, jInv σ' → jV (jPL b L xs) 738 [some (.ref 37), some (.ref 0), some (.ref 24), some (.int (jI (i : Int)))] [] σ') : jV (jPL b L xs) 202 [some (.ref 37), some (.ref 0), some (.ref 24), some (.int (jI (i : Int)))] [] σ := by
  refine jr_aload_n (pc' := 203) gL dL_law_202 rfl rfl ?_
  refine jr_aload_n (pc' := 204) gL dL_law_203 rfl rfl ?_
  refine jr_iload_n (pc' := 205) gL dL_law_204 rfl rfl ?_
  refine jr_iconst (pc' := 206) gL dL_law_205 rfl ?_
  refine jr_iadd (pc' := 207) gL dL_law_206 rfl ?_
  refine jr_sld (pc' := 208) (i + 1) dL_law_207 rfl (by omega) (by omega) (by omega) ?_
  refine jr_aload_n (pc' := 209) gL dL_law_208 rfl rfl ?_
  refine jr_iload_n (pc' := 210) gL dL_law_209 rfl rfl ?_
  refine jr_iconst (pc' := 211) gL dL_law_210 rfl ?_
  refine jr_iadd (pc' := 212) gL dL_law_211 rfl ?_
  refine jr_sld (pc' := 213) (i + 2) dL_law_212 rfl (by omega) (by omega) (by omega) ?_
  refine jr_inv (pc' := 216) (as := [_, _]) gL dL_law_213 rfl kL_22 rfl rfl rfl (Nat.le_of_ble_eq_true rfl) ?_
  refine x_marks hC (jR_toInt _) (jR_toInt _) (fun no => ?_) (fun e σ1 c1 f1 => ?_)
  · dsimp only [Option.toList, List.cons_append, List.nil_append]
    refine jr_aload_n (pc' := 217) gL dL_law_216 rfl rfl ?_
    refine jr_aload_n (pc' := 218) gL dL_law_217 rfl rfl ?_
    refine jr_iload_n (pc' := 219) gL dL_law_218 rfl rfl ?_
    refine jr_iconst (pc' := 220) gL dL_law_219 rfl ?_
    refine jr_iadd (pc' := 221) gL dL_law_220 rfl ?_
    refine jr_sld (pc' := 222) (i + 1) dL_law_221 rfl (by omega) (by omega) (by omega) ?_
    refine jr_aload_n (pc' := 223) gL dL_law_222 rfl rfl ?_
    refine jr_iload_n (pc' := 224) gL dL_law_223 rfl rfl ?_
    refine jr_iconst (pc' := 225) gL dL_law_224 rfl ?_
    refine jr_iadd (pc' := 226) gL dL_law_225 rfl ?_
    refine jr_sld (pc' := 227) (i + 2) dL_law_226 rfl (by omega) (by omega) (by omega) ?_
    refine jr_inv (pc' := 230) (as := [_, _]) gL dL_law_227 rfl kL_25 rfl rfl rfl (Nat.le_of_ble_eq_true rfl) ?_
    refine m_marks hM (jR_toInt _) (jR_toInt _) (fun _ => ?_) (fun e => absurd e no)
    dsimp only [Option.toList, List.cons_append, List.nil_append]
    refine jr_eqS (tgt := 738) gL dL_law_230 rfl ?_
    exact fin σ (jInv_of hC hM)
  · dsimp only [Option.toList, List.cons_append, List.nil_append]
    refine jr_aload_n (pc' := 217) gL dL_law_216 rfl rfl ?_
    refine jr_aload_n (pc' := 218) gL dL_law_217 rfl rfl ?_
    refine jr_iload_n (pc' := 219) gL dL_law_218 rfl rfl ?_
    refine jr_iconst (pc' := 220) gL dL_law_219 rfl ?_
    refine jr_iadd (pc' := 221) gL dL_law_220 rfl ?_
    refine jr_sld (pc' := 222) (i + 1) dL_law_221 rfl (by omega) (by omega) (by omega) ?_
    refine jr_aload_n (pc' := 223) gL dL_law_222 rfl rfl ?_
    refine jr_iload_n (pc' := 224) gL dL_law_223 rfl rfl ?_
    refine jr_iconst (pc' := 225) gL dL_law_224 rfl ?_
    refine jr_iadd (pc' := 226) gL dL_law_225 rfl ?_
    refine jr_sld (pc' := 227) (i + 2) dL_law_226 rfl (by omega) (by omega) (by omega) ?_
    refine jr_inv (pc' := 230) (as := [_, _]) gL dL_law_227 rfl kL_25 rfl rfl rfl (Nat.le_of_ble_eq_true rfl) ?_
    refine m_marks (hM.fr f1) (jR_toInt _) (jR_toInt _) (fun no => absurd e no) (fun _ σ2 m2 f2 => ?_)
    dsimp only [Option.toList, List.cons_append, List.nil_append]
    refine jr_eqS (tgt := 738) gL dL_law_230 rfl ?_
    exact fin σ2 (jInv_of (c1.fr f2) m2)
set_option maxRecDepth 100000 in
theorem lc_use (hL : L ≤ 2560) (hi : i + 5 ≤ L) (hC : CI n nb yr wt hp pr ga sh fe (bdL ba bb bm m) m s se sp σ) (hM : MI n nb yr wt hp pr ga sh fe m ba bb bm s se sp σ) (fin : ∀ σ' : jMem, jInv σ' → jV (jPL b L xs) 738 [some (.ref 37), some (.ref 0), some (.ref 24), some (.int (jI (i : Int)))] [] σ') : jV (jPL b L xs) 235 [some (.ref 37), some (.ref 0), some (.ref 24), some (.int (jI (i : Int)))] [] σ := by
  refine jr_aload_n (pc' := 236) gL dL_law_235 rfl rfl ?_
  refine jr_aload_n (pc' := 237) gL dL_law_236 rfl rfl ?_
  refine jr_iload_n (pc' := 238) gL dL_law_237 rfl rfl ?_
  refine jr_iconst (pc' := 239) gL dL_law_238 rfl ?_
  refine jr_iadd (pc' := 240) gL dL_law_239 rfl ?_
  refine jr_sld (pc' := 241) (i + 1) dL_law_240 rfl (by omega) (by omega) (by omega) ?_
  refine jr_aload_n (pc' := 242) gL dL_law_241 rfl rfl ?_
  refine jr_iload_n (pc' := 243) gL dL_law_242 rfl rfl ?_
  refine jr_iconst (pc' := 244) gL dL_law_243 rfl ?_
  refine jr_iadd (pc' := 245) gL dL_law_244 rfl ?_
  refine jr_sld (pc' := 246) (i + 2) dL_law_245 rfl (by omega) (by omega) (by omega) ?_
  refine jr_inv (pc' := 249) (as := [_, _]) gL dL_law_246 rfl kL_26 rfl rfl rfl (Nat.le_of_ble_eq_true rfl) ?_
  refine x_use hC (jR_toInt _) (jR_toInt _) (fun no => ?_) (fun a e1 e2 e3 e4 σ1 c1 f1 => ?_)
  · dsimp only [Option.toList, List.cons_append, List.nil_append]
    refine jr_aload_n (pc' := 250) gL dL_law_249 rfl rfl ?_
    refine jr_aload_n (pc' := 251) gL dL_law_250 rfl rfl ?_
    refine jr_iload_n (pc' := 252) gL dL_law_251 rfl rfl ?_
    refine jr_iconst (pc' := 253) gL dL_law_252 rfl ?_
    refine jr_iadd (pc' := 254) gL dL_law_253 rfl ?_
    refine jr_sld (pc' := 255) (i + 1) dL_law_254 rfl (by omega) (by omega) (by omega) ?_
    refine jr_aload_n (pc' := 256) gL dL_law_255 rfl rfl ?_
    refine jr_iload_n (pc' := 257) gL dL_law_256 rfl rfl ?_
    refine jr_iconst (pc' := 258) gL dL_law_257 rfl ?_
    refine jr_iadd (pc' := 259) gL dL_law_258 rfl ?_
    refine jr_sld (pc' := 260) (i + 2) dL_law_259 rfl (by omega) (by omega) (by omega) ?_
    refine jr_inv (pc' := 263) (as := [_, _]) gL dL_law_260 rfl kL_30 rfl rfl rfl (Nat.le_of_ble_eq_true rfl) ?_
    refine m_use hM (jR_toInt _) (jR_toInt _) (fun _ => ?_) (fun a e1 e2 e3 e4 => absurd ⟨⟨by omega, by omega⟩, e3, e4⟩ no)
    dsimp only [Option.toList, List.cons_append, List.nil_append]
    refine jr_eqS (tgt := 738) gL dL_law_263 rfl ?_
    exact fin σ (jInv_of hC hM)
  · dsimp only [Option.toList, List.cons_append, List.nil_append]
    refine jr_aload_n (pc' := 250) gL dL_law_249 rfl rfl ?_
    refine jr_aload_n (pc' := 251) gL dL_law_250 rfl rfl ?_
    refine jr_iload_n (pc' := 252) gL dL_law_251 rfl rfl ?_
    refine jr_iconst (pc' := 253) gL dL_law_252 rfl ?_
    refine jr_iadd (pc' := 254) gL dL_law_253 rfl ?_
    refine jr_sld (pc' := 255) (i + 1) dL_law_254 rfl (by omega) (by omega) (by omega) ?_
    refine jr_aload_n (pc' := 256) gL dL_law_255 rfl rfl ?_
    refine jr_iload_n (pc' := 257) gL dL_law_256 rfl rfl ?_
    refine jr_iconst (pc' := 258) gL dL_law_257 rfl ?_
    refine jr_iadd (pc' := 259) gL dL_law_258 rfl ?_
    refine jr_sld (pc' := 260) (i + 2) dL_law_259 rfl (by omega) (by omega) (by omega) ?_
    refine jr_inv (pc' := 263) (as := [_, _]) gL dL_law_260 rfl kL_30 rfl rfl rfl (Nat.le_of_ble_eq_true rfl) ?_
    refine m_use (hM.fr f1) (jR_toInt _) (jR_toInt _) (fun no => absurd ⟨⟨by omega, by omega⟩, e3, e4⟩ no) (fun a' e1' e2' e3' e4' σ2 m2 f2 => ?_)
    have ek : a' = a := by omega
    subst ek
    dsimp only [Option.toList, List.cons_append, List.nil_append]
    refine jr_eqS (tgt := 738) gL dL_law_263 rfl ?_
    exact fin σ2 (jInv_of (c1.fr f2) m2)
set_option maxRecDepth 100000 in
theorem lc_fix (hL : L ≤ 2560) (hi : i + 5 ≤ L) (hC : CI n nb yr wt hp pr ga sh fe (bdL ba bb bm m) m s se sp σ) (hM : MI n nb yr wt hp pr ga sh fe m ba bb bm s se sp σ) (fin : ∀ σ' : jMem, jInv σ' → jV (jPL b L xs) 738 [some (.ref 37), some (.ref 0), some (.ref 24), some (.int (jI (i : Int)))] [] σ') : jV (jPL b L xs) 268 [some (.ref 37), some (.ref 0), some (.ref 24), some (.int (jI (i : Int)))] [] σ := by
  have hn := hM.1.2
  refine jr_aload_n (pc' := 269) gL dL_law_268 rfl rfl ?_
  refine jr_aload_n (pc' := 270) gL dL_law_269 rfl rfl ?_
  refine jr_iload_n (pc' := 271) gL dL_law_270 rfl rfl ?_
  refine jr_iconst (pc' := 272) gL dL_law_271 rfl ?_
  refine jr_iadd (pc' := 273) gL dL_law_272 rfl ?_
  refine jr_sld (pc' := 274) (i + 1) dL_law_273 rfl (by omega) (by omega) (by omega) ?_
  refine jr_aload_n (pc' := 275) gL dL_law_274 rfl rfl ?_
  refine jr_iload_n (pc' := 276) gL dL_law_275 rfl rfl ?_
  refine jr_iconst (pc' := 277) gL dL_law_276 rfl ?_
  refine jr_iadd (pc' := 278) gL dL_law_277 rfl ?_
  refine jr_sld (pc' := 279) (i + 2) dL_law_278 rfl (by omega) (by omega) (by omega) ?_
  refine jr_inv (pc' := 282) (as := [_, _]) gL dL_law_279 rfl kL_31 rfl rfl rfl (Nat.le_of_ble_eq_true rfl) ?_
  refine x_fix hC (jR_toInt _) (jR_toInt _) (fun no => ?_) (fun u hp' e1 e2 e3 σ1 c1 f1 => ?_)
  · dsimp only [Option.toList, List.cons_append, List.nil_append]
    refine jr_aload_n (pc' := 283) gL dL_law_282 rfl rfl ?_
    refine jr_aload_n (pc' := 284) gL dL_law_283 rfl rfl ?_
    refine jr_iload_n (pc' := 285) gL dL_law_284 rfl rfl ?_
    refine jr_iconst (pc' := 286) gL dL_law_285 rfl ?_
    refine jr_iadd (pc' := 287) gL dL_law_286 rfl ?_
    refine jr_sld (pc' := 288) (i + 1) dL_law_287 rfl (by omega) (by omega) (by omega) ?_
    refine jr_aload_n (pc' := 289) gL dL_law_288 rfl rfl ?_
    refine jr_iload_n (pc' := 290) gL dL_law_289 rfl rfl ?_
    refine jr_iconst (pc' := 291) gL dL_law_290 rfl ?_
    refine jr_iadd (pc' := 292) gL dL_law_291 rfl ?_
    refine jr_sld (pc' := 293) (i + 2) dL_law_292 rfl (by omega) (by omega) (by omega) ?_
    refine jr_inv (pc' := 296) (as := [_, _]) gL dL_law_293 rfl kL_34 rfl rfl rfl (Nat.le_of_ble_eq_true rfl) ?_
    refine m_fix hM (jR_toInt _) (jR_toInt _) (fun _ => ?_) (fun u hp' e1 e2 e3 => ?_)
    · dsimp only [Option.toList, List.cons_append, List.nil_append]
      refine jr_eqS (tgt := 738) gL dL_law_296 rfl ?_
      exact fin σ (jInv_of hC hM)
    · exfalso
      rcases no with q | ⟨q1, q2, q3⟩
      · exact q (by omega)
      · rcases e3 with ⟨z, -⟩ | ⟨z, -⟩ | ⟨o, k, z1, z2, z3, z4, -⟩
        · omega
        · omega
        · rcases q3 with q3 | q3
          · omega
          · rw [z1, show ((o : Int)).toNat = o from rfl] at q3
            omega
  · dsimp only [Option.toList, List.cons_append, List.nil_append]
    refine jr_aload_n (pc' := 283) gL dL_law_282 rfl rfl ?_
    refine jr_aload_n (pc' := 284) gL dL_law_283 rfl rfl ?_
    refine jr_iload_n (pc' := 285) gL dL_law_284 rfl rfl ?_
    refine jr_iconst (pc' := 286) gL dL_law_285 rfl ?_
    refine jr_iadd (pc' := 287) gL dL_law_286 rfl ?_
    refine jr_sld (pc' := 288) (i + 1) dL_law_287 rfl (by omega) (by omega) (by omega) ?_
    refine jr_aload_n (pc' := 289) gL dL_law_288 rfl rfl ?_
    refine jr_iload_n (pc' := 290) gL dL_law_289 rfl rfl ?_
    refine jr_iconst (pc' := 291) gL dL_law_290 rfl ?_
    refine jr_iadd (pc' := 292) gL dL_law_291 rfl ?_
    refine jr_sld (pc' := 293) (i + 2) dL_law_292 rfl (by omega) (by omega) (by omega) ?_
    refine jr_inv (pc' := 296) (as := [_, _]) gL dL_law_293 rfl kL_34 rfl rfl rfl (Nat.le_of_ble_eq_true rfl) ?_
    refine m_fix (hM.fr f1) (jR_toInt _) (jR_toInt _) (fun no => ?_) (fun u' hp'' e1' e2' e3' σ2 m2 f2 => ?_)
    · exfalso
      rcases no with q | ⟨q1, q2, q3⟩
      · exact q (by omega)
      · rcases e3 with ⟨z, -⟩ | ⟨z, -⟩ | ⟨o, k, z1, z2, z3, z4, -⟩
        · omega
        · omega
        · rcases q3 with q3 | q3
          · omega
          · rw [z1, show ((o : Int)).toNat = o from rfl] at q3
            omega
    · have eh := fix_uni (show u' = u by omega) e3 e3'
      subst eh
      dsimp only [Option.toList, List.cons_append, List.nil_append]
      refine jr_eqS (tgt := 738) gL dL_law_296 rfl ?_
      exact fin σ2 (jInv_of (c1.fr f2) m2)
set_option maxRecDepth 100000 in
theorem lc_bond (hL : L ≤ 2560) (hi : i + 5 ≤ L) (hC : CI n nb yr wt hp pr ga sh fe (bdL ba bb bm m) m s se sp σ) (hM : MI n nb yr wt hp pr ga sh fe m ba bb bm s se sp σ) (fin : ∀ σ' : jMem, jInv σ' → jV (jPL b L xs) 738 [some (.ref 37), some (.ref 0), some (.ref 24), some (.int (jI (i : Int)))] [] σ') : jV (jPL b L xs) 301 [some (.ref 37), some (.ref 0), some (.ref 24), some (.int (jI (i : Int)))] [] σ := by
  have call : ∀ v : Int, v = 0 ∨ v = 1 → ((xs (i + 3)).toInt = 0 ↔ v = 0) → jV (jPL b L xs) 325 [some (.ref 37), some (.ref 0), some (.ref 24), some (.int (jI (i : Int)))] [.int (jI v), .int (jI (xs (i + 2)).toInt), .int (jI (xs (i + 1)).toInt), .ref 0] σ := by
    intro v hv hxv
    have r3 := jR_toInt (xs (i + 3))
    have mod : ∀ (σ1 : jMem) (ans : Int32), (∀ z, jRun 29 mX8_bond [.ref 24, .int (jI (xs (i + 1)).toInt), .int (jI (xs (i + 2)).toInt), .int (jI v)] σ1 z → jRun 29 mX8_bond [.ref 24, .int (jI (xs (i + 1)).toInt), .int (jI (xs (i + 2)).toInt), .int (jI v)] σ1 z) → jRun 29 mX8_bond [.ref 24, .int (jI (xs (i + 1)).toInt), .int (jI (xs (i + 2)).toInt), .int (jI v)] σ1 (fun r σ' => jV (jPL b L xs) 355 [some (.ref 37), some (.ref 0), some (.ref 24), some (.int (jI (i : Int)))] (r.toList ++ [.int ans]) σ') → jV (jPL b L xs) 328 [some (.ref 37), some (.ref 0), some (.ref 24), some (.int (jI (i : Int)))] [.int ans] σ1 := by
      intro σ1 ans _ hrun
      refine jr_aload_n (pc' := 329) gL dL_law_328 rfl rfl ?_
      refine jr_aload_n (pc' := 330) gL dL_law_329 rfl rfl ?_
      refine jr_iload_n (pc' := 331) gL dL_law_330 rfl rfl ?_
      refine jr_iconst (pc' := 332) gL dL_law_331 rfl ?_
      refine jr_iadd (pc' := 333) gL dL_law_332 rfl ?_
      refine jr_sld (pc' := 334) (i + 1) dL_law_333 rfl (by omega) (by omega) (by omega) ?_
      refine jr_aload_n (pc' := 335) gL dL_law_334 rfl rfl ?_
      refine jr_iload_n (pc' := 336) gL dL_law_335 rfl rfl ?_
      refine jr_iconst (pc' := 337) gL dL_law_336 rfl ?_
      refine jr_iadd (pc' := 338) gL dL_law_337 rfl ?_
      refine jr_sld (pc' := 339) (i + 2) dL_law_338 rfl (by omega) (by omega) (by omega) ?_
      refine jr_aload_n (pc' := 340) gL dL_law_339 rfl rfl ?_
      refine jr_iload_n (pc' := 341) gL dL_law_340 rfl rfl ?_
      refine jr_iconst (pc' := 342) gL dL_law_341 rfl ?_
      refine jr_iadd (pc' := 343) gL dL_law_342 rfl ?_
      refine jr_sld (pc' := 344) (i + 3) dL_law_343 rfl (by omega) (by omega) (by omega) ?_
      refine jr_if_eq (tgt := 351) (pc' := 347) gL dL_law_344 rfl rfl ⟨by omega, by omega⟩ (fun c344 => ?_) (fun c344 => ?_)
      · have ev : v = 0 := hxv.mp c344
        subst ev
        refine jr_iconst (pc' := 352) gL dL_law_351 rfl ?_
        refine jr_inv (pc' := 355) (as := [_, _, _]) gL dL_law_352 rfl kL_39 rfl rfl rfl (Nat.le_of_ble_eq_true rfl) ?_
        exact hrun
      · have ev : v = 1 := by
          have : v ≠ 0 := fun q => c344 (hxv.mpr q)
          omega
        subst ev
        refine jr_iconst (pc' := 348) gL dL_law_347 rfl ?_
        refine jr_goto (tgt := 352) gL dL_law_348 rfl ?_
        refine jr_inv (pc' := 355) (as := [_, _, _]) gL dL_law_352 rfl kL_39 rfl rfl rfl (Nat.le_of_ble_eq_true rfl) ?_
        exact hrun
    refine jr_inv (pc' := 328) (as := [_, _, _]) gL dL_law_325 rfl kL_35 rfl rfl rfl (Nat.le_of_ble_eq_true rfl) ?_
    refine x_bond hC (jR_toInt _) (jR_toInt _) hv (fun no => ?_) (fun a c e1 e2 e3 e4 e5 e6 σ1 c1 f1 => ?_)
    · dsimp only [Option.toList, List.cons_append, List.nil_append]
      refine mod σ _ (fun _ q => q) ?_
      refine m_bond hM (jR_toInt _) (jR_toInt _) hv (fun _ => ?_) (fun a c e1 e2 e3 e4 e5 e6 => ?_)
      · dsimp only [Option.toList, List.cons_append, List.nil_append]
        refine jr_eqS (tgt := 738) gL dL_law_355 rfl ?_
        exact fin σ (jInv_of hC hM)
      · exfalso
        rcases no with q | q
        · exact q (by omega)
        · rw [e1, e2] at q
          exact e6 q
    · dsimp only [Option.toList, List.cons_append, List.nil_append]
      refine mod σ1 _ (fun _ q => q) ?_
      refine m_bond (hM.fr f1) (jR_toInt _) (jR_toInt _) hv (fun no => ?_) (fun a' c' e1' e2' e3' e4' e5' e6' m' ba' bb' bm' σ2 m2 w1 w2 f2 => ?_)
      · exfalso
        rcases no with q | q
        · exact q (by omega)
        · rw [e1, e2] at q
          exact e6 q
      · have ea : a' = a := by omega
        have ec : c' = c := by omega
        subst ea
        subst ec
        rw [← w1, ← w2] at c1
        dsimp only [Option.toList, List.cons_append, List.nil_append]
        refine jr_eqS (tgt := 738) gL dL_law_355 rfl ?_
        exact fin σ2 (jInv_of (c1.fr f2) m2)
  have r3 := jR_toInt (xs (i + 3))
  refine jr_aload_n (pc' := 302) gL dL_law_301 rfl rfl ?_
  refine jr_aload_n (pc' := 303) gL dL_law_302 rfl rfl ?_
  refine jr_iload_n (pc' := 304) gL dL_law_303 rfl rfl ?_
  refine jr_iconst (pc' := 305) gL dL_law_304 rfl ?_
  refine jr_iadd (pc' := 306) gL dL_law_305 rfl ?_
  refine jr_sld (pc' := 307) (i + 1) dL_law_306 rfl (by omega) (by omega) (by omega) ?_
  refine jr_aload_n (pc' := 308) gL dL_law_307 rfl rfl ?_
  refine jr_iload_n (pc' := 309) gL dL_law_308 rfl rfl ?_
  refine jr_iconst (pc' := 310) gL dL_law_309 rfl ?_
  refine jr_iadd (pc' := 311) gL dL_law_310 rfl ?_
  refine jr_sld (pc' := 312) (i + 2) dL_law_311 rfl (by omega) (by omega) (by omega) ?_
  refine jr_aload_n (pc' := 313) gL dL_law_312 rfl rfl ?_
  refine jr_iload_n (pc' := 314) gL dL_law_313 rfl rfl ?_
  refine jr_iconst (pc' := 315) gL dL_law_314 rfl ?_
  refine jr_iadd (pc' := 316) gL dL_law_315 rfl ?_
  refine jr_sld (pc' := 317) (i + 3) dL_law_316 rfl (by omega) (by omega) (by omega) ?_
  refine jr_if_eq (tgt := 324) (pc' := 320) gL dL_law_317 rfl rfl ⟨by omega, by omega⟩ (fun c317 => ?_) (fun c317 => ?_)
  · refine jr_iconst (pc' := 325) gL dL_law_324 rfl ?_
    exact call 0 (Or.inl rfl) ⟨fun _ => rfl, fun _ => c317⟩
  · refine jr_iconst (pc' := 321) gL dL_law_320 rfl ?_
    refine jr_goto (tgt := 325) gL dL_law_321 rfl ?_
    exact call 1 (Or.inr rfl) ⟨fun q => absurd q c317, fun q => absurd q (by decide)⟩
set_option maxRecDepth 100000 in
theorem lc_free (hL : L ≤ 2560) (hi : i + 5 ≤ L) (hC : CI n nb yr wt hp pr ga sh fe (bdL ba bb bm m) m s se sp σ) (hM : MI n nb yr wt hp pr ga sh fe m ba bb bm s se sp σ) (fin : ∀ σ' : jMem, jInv σ' → jV (jPL b L xs) 738 [some (.ref 37), some (.ref 0), some (.ref 24), some (.int (jI (i : Int)))] [] σ') : jV (jPL b L xs) 360 [some (.ref 37), some (.ref 0), some (.ref 24), some (.int (jI (i : Int)))] [] σ := by
  have hB := hM.2.2.2.2.2.2.2.1.2
  refine jr_aload_n (pc' := 361) gL dL_law_360 rfl rfl ?_
  refine jr_aload_n (pc' := 362) gL dL_law_361 rfl rfl ?_
  refine jr_iload_n (pc' := 363) gL dL_law_362 rfl rfl ?_
  refine jr_iconst (pc' := 364) gL dL_law_363 rfl ?_
  refine jr_iadd (pc' := 365) gL dL_law_364 rfl ?_
  refine jr_sld (pc' := 366) (i + 1) dL_law_365 rfl (by omega) (by omega) (by omega) ?_
  refine jr_aload_n (pc' := 367) gL dL_law_366 rfl rfl ?_
  refine jr_iload_n (pc' := 368) gL dL_law_367 rfl rfl ?_
  refine jr_iconst (pc' := 369) gL dL_law_368 rfl ?_
  refine jr_iadd (pc' := 370) gL dL_law_369 rfl ?_
  refine jr_sld (pc' := 371) (i + 2) dL_law_370 rfl (by omega) (by omega) (by omega) ?_
  refine jr_inv (pc' := 374) (as := [_, _]) gL dL_law_371 rfl kL_40 rfl rfl rfl (Nat.le_of_ble_eq_true rfl) ?_
  refine x_free hC (jR_toInt _) (jR_toInt _) (fun a c h1 h2 => BL_two hB h1 h2) (fun no => ?_) (fun a c e1 e2 e3 e4 e5 e6 σ1 c1 f1 => ?_)
  · dsimp only [Option.toList, List.cons_append, List.nil_append]
    refine jr_aload_n (pc' := 375) gL dL_law_374 rfl rfl ?_
    refine jr_aload_n (pc' := 376) gL dL_law_375 rfl rfl ?_
    refine jr_iload_n (pc' := 377) gL dL_law_376 rfl rfl ?_
    refine jr_iconst (pc' := 378) gL dL_law_377 rfl ?_
    refine jr_iadd (pc' := 379) gL dL_law_378 rfl ?_
    refine jr_sld (pc' := 380) (i + 1) dL_law_379 rfl (by omega) (by omega) (by omega) ?_
    refine jr_aload_n (pc' := 381) gL dL_law_380 rfl rfl ?_
    refine jr_iload_n (pc' := 382) gL dL_law_381 rfl rfl ?_
    refine jr_iconst (pc' := 383) gL dL_law_382 rfl ?_
    refine jr_iadd (pc' := 384) gL dL_law_383 rfl ?_
    refine jr_sld (pc' := 385) (i + 2) dL_law_384 rfl (by omega) (by omega) (by omega) ?_
    refine jr_inv (pc' := 388) (as := [_, _]) gL dL_law_385 rfl kL_43 rfl rfl rfl (Nat.le_of_ble_eq_true rfl) ?_
    refine m_free hM (jR_toInt _) (jR_toInt _) (fun _ => ?_) (fun a c e1 e2 e3 e4 e5 e6 => ?_)
    · dsimp only [Option.toList, List.cons_append, List.nil_append]
      refine jr_eqS (tgt := 738) gL dL_law_388 rfl ?_
      exact fin σ (jInv_of hC hM)
    · exfalso
      rcases no with q | q
      · exact q (by omega)
      · rw [e1, e2] at q
        exact e6 q
  · dsimp only [Option.toList, List.cons_append, List.nil_append]
    refine jr_aload_n (pc' := 375) gL dL_law_374 rfl rfl ?_
    refine jr_aload_n (pc' := 376) gL dL_law_375 rfl rfl ?_
    refine jr_iload_n (pc' := 377) gL dL_law_376 rfl rfl ?_
    refine jr_iconst (pc' := 378) gL dL_law_377 rfl ?_
    refine jr_iadd (pc' := 379) gL dL_law_378 rfl ?_
    refine jr_sld (pc' := 380) (i + 1) dL_law_379 rfl (by omega) (by omega) (by omega) ?_
    refine jr_aload_n (pc' := 381) gL dL_law_380 rfl rfl ?_
    refine jr_iload_n (pc' := 382) gL dL_law_381 rfl rfl ?_
    refine jr_iconst (pc' := 383) gL dL_law_382 rfl ?_
    refine jr_iadd (pc' := 384) gL dL_law_383 rfl ?_
    refine jr_sld (pc' := 385) (i + 2) dL_law_384 rfl (by omega) (by omega) (by omega) ?_
    refine jr_inv (pc' := 388) (as := [_, _]) gL dL_law_385 rfl kL_43 rfl rfl rfl (Nat.le_of_ble_eq_true rfl) ?_
    refine m_free (hM.fr f1) (jR_toInt _) (jR_toInt _) (fun no => ?_) (fun a' c' e1' e2' e3' e4' e5' e6' m' ba' bb' bm' σ2 m2 w1 w2 f2 => ?_)
    · exfalso
      rcases no with q | q
      · exact q (by omega)
      · rw [e1, e2] at q
        exact e6 q
    · have ea : a' = a := by omega
      have ec : c' = c := by omega
      subst ea
      subst ec
      rw [← w1, ← w2] at c1
      dsimp only [Option.toList, List.cons_append, List.nil_append]
      refine jr_eqS (tgt := 738) gL dL_law_388 rfl ?_
      exact fin σ2 (jInv_of (c1.fr f2) m2)
set_option maxRecDepth 100000 in
theorem lc_settle (hL : L ≤ 2560) (hi : i + 5 ≤ L) (hC : CI n nb yr wt hp pr ga sh fe (bdL ba bb bm m) m s se sp σ) (hM : MI n nb yr wt hp pr ga sh fe m ba bb bm s se sp σ) (fin : ∀ σ' : jMem, jInv σ' → jV (jPL b L xs) 738 [some (.ref 37), some (.ref 0), some (.ref 24), some (.int (jI (i : Int)))] [] σ') : jV (jPL b L xs) 393 [some (.ref 37), some (.ref 0), some (.ref 24), some (.int (jI (i : Int)))] [] σ := by
  refine jr_aload_n (pc' := 394) gL dL_law_393 rfl rfl ?_
  refine jr_aload_n (pc' := 395) gL dL_law_394 rfl rfl ?_
  refine jr_iload_n (pc' := 396) gL dL_law_395 rfl rfl ?_
  refine jr_iconst (pc' := 397) gL dL_law_396 rfl ?_
  refine jr_iadd (pc' := 398) gL dL_law_397 rfl ?_
  refine jr_sld (pc' := 399) (i + 1) dL_law_398 rfl (by omega) (by omega) (by omega) ?_
  refine jr_inv (pc' := 402) (as := [_]) gL dL_law_399 rfl kL_44 rfl rfl rfl (Nat.le_of_ble_eq_true rfl) ?_
  refine x_settle hC (jR_toInt _) (fun no => ?_) (fun t e1 e2 σ1 c1 f1 => ?_)
  · dsimp only [Option.toList, List.cons_append, List.nil_append]
    refine jr_aload_n (pc' := 403) gL dL_law_402 rfl rfl ?_
    refine jr_aload_n (pc' := 404) gL dL_law_403 rfl rfl ?_
    refine jr_iload_n (pc' := 405) gL dL_law_404 rfl rfl ?_
    refine jr_iconst (pc' := 406) gL dL_law_405 rfl ?_
    refine jr_iadd (pc' := 407) gL dL_law_406 rfl ?_
    refine jr_sld (pc' := 408) (i + 1) dL_law_407 rfl (by omega) (by omega) (by omega) ?_
    refine jr_inv (pc' := 411) (as := [_]) gL dL_law_408 rfl kL_48 rfl rfl rfl (Nat.le_of_ble_eq_true rfl) ?_
    refine m_settle hM (jR_toInt _) (fun _ => ?_) (fun t e1 e2 => absurd ⟨by omega, by omega⟩ no)
    dsimp only [Option.toList, List.cons_append, List.nil_append]
    refine jr_eqS (tgt := 738) gL dL_law_411 rfl ?_
    exact fin σ (jInv_of hC hM)
  · dsimp only [Option.toList, List.cons_append, List.nil_append]
    refine jr_aload_n (pc' := 403) gL dL_law_402 rfl rfl ?_
    refine jr_aload_n (pc' := 404) gL dL_law_403 rfl rfl ?_
    refine jr_iload_n (pc' := 405) gL dL_law_404 rfl rfl ?_
    refine jr_iconst (pc' := 406) gL dL_law_405 rfl ?_
    refine jr_iadd (pc' := 407) gL dL_law_406 rfl ?_
    refine jr_sld (pc' := 408) (i + 1) dL_law_407 rfl (by omega) (by omega) (by omega) ?_
    refine jr_inv (pc' := 411) (as := [_]) gL dL_law_408 rfl kL_48 rfl rfl rfl (Nat.le_of_ble_eq_true rfl) ?_
    refine m_settle (hM.fr f1) (jR_toInt _) (fun no => absurd ⟨by omega, by omega⟩ no) (fun t' e1' e2' σ2 m2 f2 => ?_)
    have ek : t' = t := by omega
    subst ek
    dsimp only [Option.toList, List.cons_append, List.nil_append]
    refine jr_eqS (tgt := 738) gL dL_law_411 rfl ?_
    exact fin σ2 (jInv_of (c1.fr f2) m2)
set_option maxRecDepth 100000 in
theorem lc_heap (hL : L ≤ 2560) (hi : i + 5 ≤ L) (hC : CI n nb yr wt hp pr ga sh fe (bdL ba bb bm m) m s se sp σ) (hM : MI n nb yr wt hp pr ga sh fe m ba bb bm s se sp σ) (fin : ∀ σ' : jMem, jInv σ' → jV (jPL b L xs) 738 [some (.ref 37), some (.ref 0), some (.ref 24), some (.int (jI (i : Int)))] [] σ') : jV (jPL b L xs) 416 [some (.ref 37), some (.ref 0), some (.ref 24), some (.int (jI (i : Int)))] [] σ := by
  refine jr_aload_n (pc' := 417) gL dL_law_416 rfl rfl ?_
  refine jr_aload_n (pc' := 418) gL dL_law_417 rfl rfl ?_
  refine jr_iload_n (pc' := 419) gL dL_law_418 rfl rfl ?_
  refine jr_iconst (pc' := 420) gL dL_law_419 rfl ?_
  refine jr_iadd (pc' := 421) gL dL_law_420 rfl ?_
  refine jr_sld (pc' := 422) (i + 1) dL_law_421 rfl (by omega) (by omega) (by omega) ?_
  refine jr_inv (pc' := 425) (as := [_]) gL dL_law_422 rfl kL_49 rfl rfl rfl (Nat.le_of_ble_eq_true rfl) ?_
  refine x_heap hC (jR_toInt _) ?_
  dsimp only [Option.toList, List.cons_append, List.nil_append]
  refine jr_aload_n (pc' := 426) gL dL_law_425 rfl rfl ?_
  refine jr_aload_n (pc' := 427) gL dL_law_426 rfl rfl ?_
  refine jr_iload_n (pc' := 428) gL dL_law_427 rfl rfl ?_
  refine jr_iconst (pc' := 429) gL dL_law_428 rfl ?_
  refine jr_iadd (pc' := 430) gL dL_law_429 rfl ?_
  refine jr_sld (pc' := 431) (i + 1) dL_law_430 rfl (by omega) (by omega) (by omega) ?_
  refine jr_inv (pc' := 434) (as := [_]) gL dL_law_431 rfl kL_52 rfl rfl rfl (Nat.le_of_ble_eq_true rfl) ?_
  refine m_heap hM (jR_toInt _) ?_
  dsimp only [Option.toList, List.cons_append, List.nil_append]
  refine jr_eqS (tgt := 738) gL dL_law_434 rfl ?_
  exact fin σ (jInv_of hC hM)
set_option maxRecDepth 100000 in
theorem lc_size (hL : L ≤ 2560) (hi : i + 5 ≤ L) (hC : CI n nb yr wt hp pr ga sh fe (bdL ba bb bm m) m s se sp σ) (hM : MI n nb yr wt hp pr ga sh fe m ba bb bm s se sp σ) (fin : ∀ σ' : jMem, jInv σ' → jV (jPL b L xs) 738 [some (.ref 37), some (.ref 0), some (.ref 24), some (.int (jI (i : Int)))] [] σ') : jV (jPL b L xs) 439 [some (.ref 37), some (.ref 0), some (.ref 24), some (.int (jI (i : Int)))] [] σ := by
  refine jr_aload_n (pc' := 440) gL dL_law_439 rfl rfl ?_
  refine jr_aload_n (pc' := 441) gL dL_law_440 rfl rfl ?_
  refine jr_iload_n (pc' := 442) gL dL_law_441 rfl rfl ?_
  refine jr_iconst (pc' := 443) gL dL_law_442 rfl ?_
  refine jr_iadd (pc' := 444) gL dL_law_443 rfl ?_
  refine jr_sld (pc' := 445) (i + 1) dL_law_444 rfl (by omega) (by omega) (by omega) ?_
  refine jr_inv (pc' := 448) (as := [_]) gL dL_law_445 rfl kL_53 rfl rfl rfl (Nat.le_of_ble_eq_true rfl) ?_
  refine x_size hC (jR_toInt _) ?_
  dsimp only [Option.toList, List.cons_append, List.nil_append]
  refine jr_aload_n (pc' := 449) gL dL_law_448 rfl rfl ?_
  refine jr_aload_n (pc' := 450) gL dL_law_449 rfl rfl ?_
  refine jr_iload_n (pc' := 451) gL dL_law_450 rfl rfl ?_
  refine jr_iconst (pc' := 452) gL dL_law_451 rfl ?_
  refine jr_iadd (pc' := 453) gL dL_law_452 rfl ?_
  refine jr_sld (pc' := 454) (i + 1) dL_law_453 rfl (by omega) (by omega) (by omega) ?_
  refine jr_inv (pc' := 457) (as := [_]) gL dL_law_454 rfl kL_56 rfl rfl rfl (Nat.le_of_ble_eq_true rfl) ?_
  refine m_size hM (jR_toInt _) ?_
  dsimp only [Option.toList, List.cons_append, List.nil_append]
  refine jr_eqS (tgt := 738) gL dL_law_457 rfl ?_
  exact fin σ (jInv_of hC hM)
set_option maxRecDepth 100000 in
theorem lc_far (hL : L ≤ 2560) (hi : i + 5 ≤ L) (hC : CI n nb yr wt hp pr ga sh fe (bdL ba bb bm m) m s se sp σ) (hM : MI n nb yr wt hp pr ga sh fe m ba bb bm s se sp σ) (fin : ∀ σ' : jMem, jInv σ' → jV (jPL b L xs) 738 [some (.ref 37), some (.ref 0), some (.ref 24), some (.int (jI (i : Int)))] [] σ') : jV (jPL b L xs) 462 [some (.ref 37), some (.ref 0), some (.ref 24), some (.int (jI (i : Int)))] [] σ := by
  refine jr_aload_n (pc' := 463) gL dL_law_462 rfl rfl ?_
  refine jr_aload_n (pc' := 464) gL dL_law_463 rfl rfl ?_
  refine jr_iload_n (pc' := 465) gL dL_law_464 rfl rfl ?_
  refine jr_iconst (pc' := 466) gL dL_law_465 rfl ?_
  refine jr_iadd (pc' := 467) gL dL_law_466 rfl ?_
  refine jr_sld (pc' := 468) (i + 1) dL_law_467 rfl (by omega) (by omega) (by omega) ?_
  refine jr_aload_n (pc' := 469) gL dL_law_468 rfl rfl ?_
  refine jr_iload_n (pc' := 470) gL dL_law_469 rfl rfl ?_
  refine jr_iconst (pc' := 471) gL dL_law_470 rfl ?_
  refine jr_iadd (pc' := 472) gL dL_law_471 rfl ?_
  refine jr_sld (pc' := 473) (i + 2) dL_law_472 rfl (by omega) (by omega) (by omega) ?_
  refine jr_inv (pc' := 476) (as := [_, _]) gL dL_law_473 rfl kL_57 rfl rfl rfl (Nat.le_of_ble_eq_true rfl) ?_
  refine x_far hC (jR_toInt _) (jR_toInt _) ?_
  dsimp only [Option.toList, List.cons_append, List.nil_append]
  refine jr_aload_n (pc' := 477) gL dL_law_476 rfl rfl ?_
  refine jr_aload_n (pc' := 478) gL dL_law_477 rfl rfl ?_
  refine jr_iload_n (pc' := 479) gL dL_law_478 rfl rfl ?_
  refine jr_iconst (pc' := 480) gL dL_law_479 rfl ?_
  refine jr_iadd (pc' := 481) gL dL_law_480 rfl ?_
  refine jr_sld (pc' := 482) (i + 1) dL_law_481 rfl (by omega) (by omega) (by omega) ?_
  refine jr_aload_n (pc' := 483) gL dL_law_482 rfl rfl ?_
  refine jr_iload_n (pc' := 484) gL dL_law_483 rfl rfl ?_
  refine jr_iconst (pc' := 485) gL dL_law_484 rfl ?_
  refine jr_iadd (pc' := 486) gL dL_law_485 rfl ?_
  refine jr_sld (pc' := 487) (i + 2) dL_law_486 rfl (by omega) (by omega) (by omega) ?_
  refine jr_inv (pc' := 490) (as := [_, _]) gL dL_law_487 rfl kL_60 rfl rfl rfl (Nat.le_of_ble_eq_true rfl) ?_
  refine m_far hM (jR_toInt _) (jR_toInt _) ?_
  dsimp only [Option.toList, List.cons_append, List.nil_append]
  refine jr_eqS (tgt := 738) gL dL_law_490 rfl ?_
  exact fin σ (jInv_of hC hM)
set_option maxRecDepth 100000 in
theorem lc_cost (hL : L ≤ 2560) (hi : i + 5 ≤ L) (hC : CI n nb yr wt hp pr ga sh fe (bdL ba bb bm m) m s se sp σ) (hM : MI n nb yr wt hp pr ga sh fe m ba bb bm s se sp σ) (fin : ∀ σ' : jMem, jInv σ' → jV (jPL b L xs) 738 [some (.ref 37), some (.ref 0), some (.ref 24), some (.int (jI (i : Int)))] [] σ') : jV (jPL b L xs) 495 [some (.ref 37), some (.ref 0), some (.ref 24), some (.int (jI (i : Int)))] [] σ := by
  refine jr_aload_n (pc' := 496) gL dL_law_495 rfl rfl ?_
  refine jr_inv (pc' := 499) (as := []) gL dL_law_496 rfl kL_61 rfl rfl rfl (Nat.le_of_ble_eq_true rfl) ?_
  refine x_cost hC ?_
  rw [csF_eq (n := n) (hp := hp) (pr := pr) (fr := fun a b => jfar wt (nb a) (nb b)) (fun u v => jfar_symm _ _ _) (fun u => jfar_self _ _)]
  dsimp only [Option.toList, List.cons_append, List.nil_append]
  refine jr_aload_n (pc' := 500) gL dL_law_499 rfl rfl ?_
  refine jr_inv (pc' := 503) (as := []) gL dL_law_500 rfl kL_65 rfl rfl rfl (Nat.le_of_ble_eq_true rfl) ?_
  refine m_cost hM ?_
  dsimp only [Option.toList, List.cons_append, List.nil_append]
  refine jr_eqS (tgt := 738) gL dL_law_503 rfl ?_
  exact fin σ (jInv_of hC hM)
set_option maxRecDepth 100000 in
theorem lc_broken (hL : L ≤ 2560) (hi : i + 5 ≤ L) (hC : CI n nb yr wt hp pr ga sh fe (bdL ba bb bm m) m s se sp σ) (hM : MI n nb yr wt hp pr ga sh fe m ba bb bm s se sp σ) (fin : ∀ σ' : jMem, jInv σ' → jV (jPL b L xs) 738 [some (.ref 37), some (.ref 0), some (.ref 24), some (.int (jI (i : Int)))] [] σ') : jV (jPL b L xs) 508 [some (.ref 37), some (.ref 0), some (.ref 24), some (.int (jI (i : Int)))] [] σ := by
  refine jr_aload_n (pc' := 509) gL dL_law_508 rfl rfl ?_
  refine jr_inv (pc' := 512) (as := []) gL dL_law_509 rfl kL_66 rfl rfl rfl (Nat.le_of_ble_eq_true rfl) ?_
  refine x_broken hC ?_
  change jV (jPL b L xs) 512 _ ((some (Value.int (jI (brS (bdL ba bb bm m) hp / 2)))).toList ++ _) σ
  dsimp only [Option.toList, List.cons_append, List.nil_append]
  refine jr_aload_n (pc' := 513) gL dL_law_512 rfl rfl ?_
  refine jr_inv (pc' := 516) (as := []) gL dL_law_513 rfl kL_69 rfl rfl rfl (Nat.le_of_ble_eq_true rfl) ?_
  refine m_broken hM ?_
  dsimp only [Option.toList, List.cons_append, List.nil_append]
  refine jr_eqS (tgt := 738) gL dL_law_516 rfl ?_
  exact fin σ (jInv_of hC hM)
set_option maxRecDepth 100000 in
theorem lc_best (hL : L ≤ 2560) (hi : i + 5 ≤ L) (hC : CI n nb yr wt hp pr ga sh fe (bdL ba bb bm m) m s se sp σ) (hM : MI n nb yr wt hp pr ga sh fe m ba bb bm s se sp σ) (fin : ∀ σ' : jMem, jInv σ' → jV (jPL b L xs) 738 [some (.ref 37), some (.ref 0), some (.ref 24), some (.int (jI (i : Int)))] [] σ') : jV (jPL b L xs) 521 [some (.ref 37), some (.ref 0), some (.ref 24), some (.int (jI (i : Int)))] [] σ := by
  refine jr_aload_n (pc' := 522) gL dL_law_521 rfl rfl ?_
  refine jr_inv (pc' := 525) (as := []) gL dL_law_522 rfl kL_70 rfl rfl rfl (Nat.le_of_ble_eq_true rfl) ?_
  refine x_best hC (fun no => ?_) (fun e σ1 c1 f1 => ?_)
  · dsimp only [Option.toList, List.cons_append, List.nil_append]
    refine jr_aload_n (pc' := 526) gL dL_law_525 rfl rfl ?_
    refine jr_inv (pc' := 529) (as := []) gL dL_law_526 rfl kL_73 rfl rfl rfl (Nat.le_of_ble_eq_true rfl) ?_
    refine m_best hM (fun _ => ?_) (fun e => absurd e no)
    dsimp only [Option.toList, List.cons_append, List.nil_append]
    refine jr_eqS (tgt := 738) gL dL_law_529 rfl ?_
    exact fin σ (jInv_of hC hM)
  · dsimp only [Option.toList, List.cons_append, List.nil_append]
    refine jr_aload_n (pc' := 526) gL dL_law_525 rfl rfl ?_
    refine jr_inv (pc' := 529) (as := []) gL dL_law_526 rfl kL_73 rfl rfl rfl (Nat.le_of_ble_eq_true rfl) ?_
    refine m_best (hM.fr f1) (fun no => absurd e no) (fun _ σ2 m2 f2 => ?_)
    dsimp only [Option.toList, List.cons_append, List.nil_append]
    refine jr_eqS (tgt := 738) gL dL_law_529 rfl ?_
    exact fin σ2 (jInv_of (c1.fr f2) m2)
set_option maxRecDepth 100000 in
theorem lc_name (hL : L ≤ 2560) (hi : i + 5 ≤ L) (hC : CI n nb yr wt hp pr ga sh fe (bdL ba bb bm m) m s se sp σ) (hM : MI n nb yr wt hp pr ga sh fe m ba bb bm s se sp σ) (fin : ∀ σ' : jMem, jInv σ' → jV (jPL b L xs) 738 [some (.ref 37), some (.ref 0), some (.ref 24), some (.int (jI (i : Int)))] [] σ') : jV (jPL b L xs) 534 [some (.ref 37), some (.ref 0), some (.ref 24), some (.int (jI (i : Int)))] [] σ := by
  refine jr_aload_n (pc' := 535) gL dL_law_534 rfl rfl ?_
  refine jr_aload_n (pc' := 536) gL dL_law_535 rfl rfl ?_
  refine jr_iload_n (pc' := 537) gL dL_law_536 rfl rfl ?_
  refine jr_iconst (pc' := 538) gL dL_law_537 rfl ?_
  refine jr_iadd (pc' := 539) gL dL_law_538 rfl ?_
  refine jr_sld (pc' := 540) (i + 1) dL_law_539 rfl (by omega) (by omega) (by omega) ?_
  refine jr_inv (pc' := 543) (as := [_]) gL dL_law_540 rfl kL_74 rfl rfl rfl (Nat.le_of_ble_eq_true rfl) ?_
  refine x_name hC (jR_toInt _) (fun no => ?_) (fun e => ?_)
  · dsimp only [Option.toList, List.cons_append, List.nil_append]
    refine jr_aload_n (pc' := 544) gL dL_law_543 rfl rfl ?_
    refine jr_aload_n (pc' := 545) gL dL_law_544 rfl rfl ?_
    refine jr_iload_n (pc' := 546) gL dL_law_545 rfl rfl ?_
    refine jr_iconst (pc' := 547) gL dL_law_546 rfl ?_
    refine jr_iadd (pc' := 548) gL dL_law_547 rfl ?_
    refine jr_sld (pc' := 549) (i + 1) dL_law_548 rfl (by omega) (by omega) (by omega) ?_
    refine jr_inv (pc' := 552) (as := [_]) gL dL_law_549 rfl kL_77 rfl rfl rfl (Nat.le_of_ble_eq_true rfl) ?_
    refine m_name hM (jR_toInt _) (fun _ => ?_) (fun e => absurd e no)
    dsimp only [Option.toList, List.cons_append, List.nil_append]
    refine jr_eqS (tgt := 738) gL dL_law_552 rfl ?_
    exact fin σ (jInv_of hC hM)
  · dsimp only [Option.toList, List.cons_append, List.nil_append]
    refine jr_aload_n (pc' := 544) gL dL_law_543 rfl rfl ?_
    refine jr_aload_n (pc' := 545) gL dL_law_544 rfl rfl ?_
    refine jr_iload_n (pc' := 546) gL dL_law_545 rfl rfl ?_
    refine jr_iconst (pc' := 547) gL dL_law_546 rfl ?_
    refine jr_iadd (pc' := 548) gL dL_law_547 rfl ?_
    refine jr_sld (pc' := 549) (i + 1) dL_law_548 rfl (by omega) (by omega) (by omega) ?_
    refine jr_inv (pc' := 552) (as := [_]) gL dL_law_549 rfl kL_77 rfl rfl rfl (Nat.le_of_ble_eq_true rfl) ?_
    refine m_name hM (jR_toInt _) (fun no => absurd e no) (fun _ => ?_)
    dsimp only [Option.toList, List.cons_append, List.nil_append]
    refine jr_eqS (tgt := 738) gL dL_law_552 rfl ?_
    exact fin σ (jInv_of hC hM)
set_option maxRecDepth 100000 in
theorem lc_core (hL : L ≤ 2560) (hi : i + 5 ≤ L) (hC : CI n nb yr wt hp pr ga sh fe (bdL ba bb bm m) m s se sp σ) (hM : MI n nb yr wt hp pr ga sh fe m ba bb bm s se sp σ) (fin : ∀ σ' : jMem, jInv σ' → jV (jPL b L xs) 738 [some (.ref 37), some (.ref 0), some (.ref 24), some (.int (jI (i : Int)))] [] σ') : jV (jPL b L xs) 557 [some (.ref 37), some (.ref 0), some (.ref 24), some (.int (jI (i : Int)))] [] σ := by
  refine jr_aload_n (pc' := 558) gL dL_law_557 rfl rfl ?_
  refine jr_aload_n (pc' := 559) gL dL_law_558 rfl rfl ?_
  refine jr_iload_n (pc' := 560) gL dL_law_559 rfl rfl ?_
  refine jr_iconst (pc' := 561) gL dL_law_560 rfl ?_
  refine jr_iadd (pc' := 562) gL dL_law_561 rfl ?_
  refine jr_sld (pc' := 563) (i + 1) dL_law_562 rfl (by omega) (by omega) (by omega) ?_
  refine jr_inv (pc' := 566) (as := [_]) gL dL_law_563 rfl kL_78 rfl rfl rfl (Nat.le_of_ble_eq_true rfl) ?_
  refine x_core hC (jR_toInt _) (fun no => ?_) (fun e => ?_)
  · dsimp only [Option.toList, List.cons_append, List.nil_append]
    refine jr_aload_n (pc' := 567) gL dL_law_566 rfl rfl ?_
    refine jr_aload_n (pc' := 568) gL dL_law_567 rfl rfl ?_
    refine jr_iload_n (pc' := 569) gL dL_law_568 rfl rfl ?_
    refine jr_iconst (pc' := 570) gL dL_law_569 rfl ?_
    refine jr_iadd (pc' := 571) gL dL_law_570 rfl ?_
    refine jr_sld (pc' := 572) (i + 1) dL_law_571 rfl (by omega) (by omega) (by omega) ?_
    refine jr_inv (pc' := 575) (as := [_]) gL dL_law_572 rfl kL_81 rfl rfl rfl (Nat.le_of_ble_eq_true rfl) ?_
    refine m_core hM (jR_toInt _) (fun _ => ?_) (fun e => absurd e no)
    dsimp only [Option.toList, List.cons_append, List.nil_append]
    refine jr_eqS (tgt := 738) gL dL_law_575 rfl ?_
    exact fin σ (jInv_of hC hM)
  · dsimp only [Option.toList, List.cons_append, List.nil_append]
    refine jr_aload_n (pc' := 567) gL dL_law_566 rfl rfl ?_
    refine jr_aload_n (pc' := 568) gL dL_law_567 rfl rfl ?_
    refine jr_iload_n (pc' := 569) gL dL_law_568 rfl rfl ?_
    refine jr_iconst (pc' := 570) gL dL_law_569 rfl ?_
    refine jr_iadd (pc' := 571) gL dL_law_570 rfl ?_
    refine jr_sld (pc' := 572) (i + 1) dL_law_571 rfl (by omega) (by omega) (by omega) ?_
    refine jr_inv (pc' := 575) (as := [_]) gL dL_law_572 rfl kL_81 rfl rfl rfl (Nat.le_of_ble_eq_true rfl) ?_
    refine m_core hM (jR_toInt _) (fun no => absurd e no) (fun _ => ?_)
    dsimp only [Option.toList, List.cons_append, List.nil_append]
    refine jr_eqS (tgt := 738) gL dL_law_575 rfl ?_
    exact fin σ (jInv_of hC hM)
set_option maxRecDepth 100000 in
theorem lc_first (hL : L ≤ 2560) (hi : i + 5 ≤ L) (hC : CI n nb yr wt hp pr ga sh fe (bdL ba bb bm m) m s se sp σ) (hM : MI n nb yr wt hp pr ga sh fe m ba bb bm s se sp σ) (fin : ∀ σ' : jMem, jInv σ' → jV (jPL b L xs) 738 [some (.ref 37), some (.ref 0), some (.ref 24), some (.int (jI (i : Int)))] [] σ') : jV (jPL b L xs) 692 [some (.ref 37), some (.ref 0), some (.ref 24), some (.int (jI (i : Int)))] [] σ := by
  refine jr_aload_n (pc' := 693) gL dL_law_692 rfl rfl ?_
  refine jr_aload_n (pc' := 694) gL dL_law_693 rfl rfl ?_
  refine jr_iload_n (pc' := 695) gL dL_law_694 rfl rfl ?_
  refine jr_iconst (pc' := 696) gL dL_law_695 rfl ?_
  refine jr_iadd (pc' := 697) gL dL_law_696 rfl ?_
  refine jr_sld (pc' := 698) (i + 1) dL_law_697 rfl (by omega) (by omega) (by omega) ?_
  refine jr_inv (pc' := 701) (as := [_]) gL dL_law_698 rfl kL_99 rfl rfl rfl (Nat.le_of_ble_eq_true rfl) ?_
  refine x_first hC (jR_toInt _) (fun no => ?_) (fun e => ?_)
  · dsimp only [Option.toList, List.cons_append, List.nil_append]
    refine jr_aload_n (pc' := 702) gL dL_law_701 rfl rfl ?_
    refine jr_aload_n (pc' := 703) gL dL_law_702 rfl rfl ?_
    refine jr_iload_n (pc' := 704) gL dL_law_703 rfl rfl ?_
    refine jr_iconst (pc' := 705) gL dL_law_704 rfl ?_
    refine jr_iadd (pc' := 706) gL dL_law_705 rfl ?_
    refine jr_sld (pc' := 707) (i + 1) dL_law_706 rfl (by omega) (by omega) (by omega) ?_
    refine jr_inv (pc' := 710) (as := [_]) gL dL_law_707 rfl kL_102 rfl rfl rfl (Nat.le_of_ble_eq_true rfl) ?_
    refine m_first hM (jR_toInt _) (fun _ => ?_) (fun e => absurd e no)
    dsimp only [Option.toList, List.cons_append, List.nil_append]
    refine jr_eqS (tgt := 738) gL dL_law_710 rfl ?_
    exact fin σ (jInv_of hC hM)
  · dsimp only [Option.toList, List.cons_append, List.nil_append]
    refine jr_aload_n (pc' := 702) gL dL_law_701 rfl rfl ?_
    refine jr_aload_n (pc' := 703) gL dL_law_702 rfl rfl ?_
    refine jr_iload_n (pc' := 704) gL dL_law_703 rfl rfl ?_
    refine jr_iconst (pc' := 705) gL dL_law_704 rfl ?_
    refine jr_iadd (pc' := 706) gL dL_law_705 rfl ?_
    refine jr_sld (pc' := 707) (i + 1) dL_law_706 rfl (by omega) (by omega) (by omega) ?_
    refine jr_inv (pc' := 710) (as := [_]) gL dL_law_707 rfl kL_102 rfl rfl rfl (Nat.le_of_ble_eq_true rfl) ?_
    refine m_first hM (jR_toInt _) (fun no => absurd e no) (fun _ => ?_)
    dsimp only [Option.toList, List.cons_append, List.nil_append]
    refine jr_eqS (tgt := 738) gL dL_law_710 rfl ?_
    exact fin σ (jInv_of hC hM)
set_option maxRecDepth 100000 in
theorem lc_sense (hL : L ≤ 2560) (hi : i + 5 ≤ L) (hC : CI n nb yr wt hp pr ga sh fe (bdL ba bb bm m) m s se sp σ) (hM : MI n nb yr wt hp pr ga sh fe m ba bb bm s se sp σ) (fin : ∀ σ' : jMem, jInv σ' → jV (jPL b L xs) 738 [some (.ref 37), some (.ref 0), some (.ref 24), some (.int (jI (i : Int)))] [] σ') : jV (jPL b L xs) 580 [some (.ref 37), some (.ref 0), some (.ref 24), some (.int (jI (i : Int)))] [] σ := by
  refine jr_aload_n (pc' := 581) gL dL_law_580 rfl rfl ?_
  refine jr_aload_n (pc' := 582) gL dL_law_581 rfl rfl ?_
  refine jr_iload_n (pc' := 583) gL dL_law_582 rfl rfl ?_
  refine jr_iconst (pc' := 584) gL dL_law_583 rfl ?_
  refine jr_iadd (pc' := 585) gL dL_law_584 rfl ?_
  refine jr_sld (pc' := 586) (i + 1) dL_law_585 rfl (by omega) (by omega) (by omega) ?_
  refine jr_inv (pc' := 589) (as := [_]) gL dL_law_586 rfl kL_82 rfl rfl rfl (Nat.le_of_ble_eq_true rfl) ?_
  refine x_sense hC (jR_toInt _) (fun no => ?_) (fun a e1 e2 e3 σ1 c1 f1 => ?_)
  · dsimp only [Option.toList, List.cons_append, List.nil_append]
    refine jr_aload_n (pc' := 590) gL dL_law_589 rfl rfl ?_
    refine jr_aload_n (pc' := 591) gL dL_law_590 rfl rfl ?_
    refine jr_iload_n (pc' := 592) gL dL_law_591 rfl rfl ?_
    refine jr_iconst (pc' := 593) gL dL_law_592 rfl ?_
    refine jr_iadd (pc' := 594) gL dL_law_593 rfl ?_
    refine jr_sld (pc' := 595) (i + 1) dL_law_594 rfl (by omega) (by omega) (by omega) ?_
    refine jr_inv (pc' := 598) (as := [_]) gL dL_law_595 rfl kL_85 rfl rfl rfl (Nat.le_of_ble_eq_true rfl) ?_
    refine m_sense hM (jR_toInt _) (fun _ => ?_) (fun a e1 e2 e3 => absurd ⟨⟨by omega, by omega⟩, e3⟩ no)
    dsimp only [Option.toList, List.cons_append, List.nil_append]
    refine jr_eqS (tgt := 738) gL dL_law_598 rfl ?_
    exact fin σ (jInv_of hC hM)
  · dsimp only [Option.toList, List.cons_append, List.nil_append]
    refine jr_aload_n (pc' := 590) gL dL_law_589 rfl rfl ?_
    refine jr_aload_n (pc' := 591) gL dL_law_590 rfl rfl ?_
    refine jr_iload_n (pc' := 592) gL dL_law_591 rfl rfl ?_
    refine jr_iconst (pc' := 593) gL dL_law_592 rfl ?_
    refine jr_iadd (pc' := 594) gL dL_law_593 rfl ?_
    refine jr_sld (pc' := 595) (i + 1) dL_law_594 rfl (by omega) (by omega) (by omega) ?_
    refine jr_inv (pc' := 598) (as := [_]) gL dL_law_595 rfl kL_85 rfl rfl rfl (Nat.le_of_ble_eq_true rfl) ?_
    refine m_sense (hM.fr f1) (jR_toInt _) (fun no => absurd ⟨⟨by omega, by omega⟩, e3⟩ no) (fun a' e1' e2' e3' σ2 m2 f2 => ?_)
    have ek : a' = a := by omega
    subst ek
    dsimp only [Option.toList, List.cons_append, List.nil_append]
    refine jr_eqS (tgt := 738) gL dL_law_598 rfl ?_
    exact fin σ2 (jInv_of (c1.fr f2) m2)
set_option maxRecDepth 100000 in
theorem lc_matched (hL : L ≤ 2560) (hi : i + 5 ≤ L) (hC : CI n nb yr wt hp pr ga sh fe (bdL ba bb bm m) m s se sp σ) (hM : MI n nb yr wt hp pr ga sh fe m ba bb bm s se sp σ) (fin : ∀ σ' : jMem, jInv σ' → jV (jPL b L xs) 738 [some (.ref 37), some (.ref 0), some (.ref 24), some (.int (jI (i : Int)))] [] σ') : jV (jPL b L xs) 603 [some (.ref 37), some (.ref 0), some (.ref 24), some (.int (jI (i : Int)))] [] σ := by
  refine jr_aload_n (pc' := 604) gL dL_law_603 rfl rfl ?_
  refine jr_aload_n (pc' := 605) gL dL_law_604 rfl rfl ?_
  refine jr_iload_n (pc' := 606) gL dL_law_605 rfl rfl ?_
  refine jr_iconst (pc' := 607) gL dL_law_606 rfl ?_
  refine jr_iadd (pc' := 608) gL dL_law_607 rfl ?_
  refine jr_sld (pc' := 609) (i + 1) dL_law_608 rfl (by omega) (by omega) (by omega) ?_
  refine jr_inv (pc' := 612) (as := [_]) gL dL_law_609 rfl kL_86 rfl rfl rfl (Nat.le_of_ble_eq_true rfl) ?_
  refine x_matched hC (jR_toInt _) (fun no => ?_) (fun e σ1 c1 f1 => ?_)
  · dsimp only [Option.toList, List.cons_append, List.nil_append]
    refine jr_aload_n (pc' := 613) gL dL_law_612 rfl rfl ?_
    refine jr_aload_n (pc' := 614) gL dL_law_613 rfl rfl ?_
    refine jr_iload_n (pc' := 615) gL dL_law_614 rfl rfl ?_
    refine jr_iconst (pc' := 616) gL dL_law_615 rfl ?_
    refine jr_iadd (pc' := 617) gL dL_law_616 rfl ?_
    refine jr_sld (pc' := 618) (i + 1) dL_law_617 rfl (by omega) (by omega) (by omega) ?_
    refine jr_inv (pc' := 621) (as := [_]) gL dL_law_618 rfl kL_89 rfl rfl rfl (Nat.le_of_ble_eq_true rfl) ?_
    refine m_matched (σ 23) hM (jR_toInt _) (fun _ => ?_) (fun e => absurd e no)
    dsimp only [Option.toList, List.cons_append, List.nil_append]
    refine jr_eqS (tgt := 738) gL dL_law_621 rfl ?_
    exact fin σ (jInv_of hC hM)
  · dsimp only [Option.toList, List.cons_append, List.nil_append]
    refine jr_aload_n (pc' := 613) gL dL_law_612 rfl rfl ?_
    refine jr_aload_n (pc' := 614) gL dL_law_613 rfl rfl ?_
    refine jr_iload_n (pc' := 615) gL dL_law_614 rfl rfl ?_
    refine jr_iconst (pc' := 616) gL dL_law_615 rfl ?_
    refine jr_iadd (pc' := 617) gL dL_law_616 rfl ?_
    refine jr_sld (pc' := 618) (i + 1) dL_law_617 rfl (by omega) (by omega) (by omega) ?_
    refine jr_inv (pc' := 621) (as := [_]) gL dL_law_618 rfl kL_89 rfl rfl rfl (Nat.le_of_ble_eq_true rfl) ?_
    refine m_matched (σ 23) (hM.fr f1) (jR_toInt _) (fun no => absurd e no) (fun _ σ2 m2 f2 => ?_)
    dsimp only [Option.toList, List.cons_append, List.nil_append]
    refine jr_eqS (tgt := 738) gL dL_law_621 rfl ?_
    exact fin σ2 (jInv_of (c1.fr f2) m2)
set_option maxRecDepth 100000 in
theorem lc_sum (hL : L ≤ 2560) (hi : i + 5 ≤ L) (hC : CI n nb yr wt hp pr ga sh fe (bdL ba bb bm m) m s se sp σ) (hM : MI n nb yr wt hp pr ga sh fe m ba bb bm s se sp σ) (fin : ∀ σ' : jMem, jInv σ' → jV (jPL b L xs) 738 [some (.ref 37), some (.ref 0), some (.ref 24), some (.int (jI (i : Int)))] [] σ') : jV (jPL b L xs) 626 [some (.ref 37), some (.ref 0), some (.ref 24), some (.int (jI (i : Int)))] [] σ := by
  refine jr_aload_n (pc' := 627) gL dL_law_626 rfl rfl ?_
  refine jr_inv (pc' := 630) (as := []) gL dL_law_627 rfl kL_90 rfl rfl rfl (Nat.le_of_ble_eq_true rfl) ?_
  refine x_sum hC (fun σ1 c1 f1 => ?_)
  dsimp only [Option.toList, List.cons_append, List.nil_append]
  refine jr_aload_n (pc' := 631) gL dL_law_630 rfl rfl ?_
  refine jr_inv (pc' := 634) (as := []) gL dL_law_631 rfl kL_93 rfl rfl rfl (Nat.le_of_ble_eq_true rfl) ?_
  refine m_sum (σ 23) (hM.fr f1) (fun σ2 m2 f2 => ?_)
  dsimp only [Option.toList, List.cons_append, List.nil_append]
  refine jr_eqS (tgt := 738) gL dL_law_634 rfl ?_
  exact fin σ2 (jInv_of (c1.fr f2) m2)
set_option maxRecDepth 100000 in
theorem lc_share (hL : L ≤ 2560) (hi : i + 5 ≤ L) (hC : CI n nb yr wt hp pr ga sh fe (bdL ba bb bm m) m s se sp σ) (hM : MI n nb yr wt hp pr ga sh fe m ba bb bm s se sp σ) (fin : ∀ σ' : jMem, jInv σ' → jV (jPL b L xs) 738 [some (.ref 37), some (.ref 0), some (.ref 24), some (.int (jI (i : Int)))] [] σ') : jV (jPL b L xs) 639 [some (.ref 37), some (.ref 0), some (.ref 24), some (.int (jI (i : Int)))] [] σ := by
  refine jr_aload_n (pc' := 640) gL dL_law_639 rfl rfl ?_
  refine jr_aload_n (pc' := 641) gL dL_law_640 rfl rfl ?_
  refine jr_iload_n (pc' := 642) gL dL_law_641 rfl rfl ?_
  refine jr_iconst (pc' := 643) gL dL_law_642 rfl ?_
  refine jr_iadd (pc' := 644) gL dL_law_643 rfl ?_
  refine jr_sld (pc' := 645) (i + 1) dL_law_644 rfl (by omega) (by omega) (by omega) ?_
  refine jr_aload_n (pc' := 646) gL dL_law_645 rfl rfl ?_
  refine jr_iload_n (pc' := 647) gL dL_law_646 rfl rfl ?_
  refine jr_iconst (pc' := 648) gL dL_law_647 rfl ?_
  refine jr_iadd (pc' := 649) gL dL_law_648 rfl ?_
  refine jr_sld (pc' := 650) (i + 2) dL_law_649 rfl (by omega) (by omega) (by omega) ?_
  refine jr_aload_n (pc' := 651) gL dL_law_650 rfl rfl ?_
  refine jr_iload_n (pc' := 652) gL dL_law_651 rfl rfl ?_
  refine jr_iconst (pc' := 653) gL dL_law_652 rfl ?_
  refine jr_iadd (pc' := 654) gL dL_law_653 rfl ?_
  refine jr_sld (pc' := 655) (i + 3) dL_law_654 rfl (by omega) (by omega) (by omega) ?_
  refine jr_aload_n (pc' := 656) gL dL_law_655 rfl rfl ?_
  refine jr_iload_n (pc' := 657) gL dL_law_656 rfl rfl ?_
  refine jr_iconst (pc' := 658) gL dL_law_657 rfl ?_
  refine jr_iadd (pc' := 659) gL dL_law_658 rfl ?_
  refine jr_sld (pc' := 660) (i + 4) dL_law_659 rfl (by omega) (by omega) (by omega) ?_
  refine jr_inv (pc' := 663) (as := [_, _, _, _]) gL dL_law_660 rfl kL_94 rfl rfl rfl (Nat.le_of_ble_eq_true rfl) ?_
  refine x_share hC (jR_toInt _) (jR_toInt _) (jR_toInt _) (jR_toInt _) (fun no => ?_) (fun e => ?_)
  · dsimp only [Option.toList, List.cons_append, List.nil_append]
    refine jr_aload_n (pc' := 664) gL dL_law_663 rfl rfl ?_
    refine jr_aload_n (pc' := 665) gL dL_law_664 rfl rfl ?_
    refine jr_iload_n (pc' := 666) gL dL_law_665 rfl rfl ?_
    refine jr_iconst (pc' := 667) gL dL_law_666 rfl ?_
    refine jr_iadd (pc' := 668) gL dL_law_667 rfl ?_
    refine jr_sld (pc' := 669) (i + 1) dL_law_668 rfl (by omega) (by omega) (by omega) ?_
    refine jr_aload_n (pc' := 670) gL dL_law_669 rfl rfl ?_
    refine jr_iload_n (pc' := 671) gL dL_law_670 rfl rfl ?_
    refine jr_iconst (pc' := 672) gL dL_law_671 rfl ?_
    refine jr_iadd (pc' := 673) gL dL_law_672 rfl ?_
    refine jr_sld (pc' := 674) (i + 2) dL_law_673 rfl (by omega) (by omega) (by omega) ?_
    refine jr_aload_n (pc' := 675) gL dL_law_674 rfl rfl ?_
    refine jr_iload_n (pc' := 676) gL dL_law_675 rfl rfl ?_
    refine jr_iconst (pc' := 677) gL dL_law_676 rfl ?_
    refine jr_iadd (pc' := 678) gL dL_law_677 rfl ?_
    refine jr_sld (pc' := 679) (i + 3) dL_law_678 rfl (by omega) (by omega) (by omega) ?_
    refine jr_aload_n (pc' := 680) gL dL_law_679 rfl rfl ?_
    refine jr_iload_n (pc' := 681) gL dL_law_680 rfl rfl ?_
    refine jr_iconst (pc' := 682) gL dL_law_681 rfl ?_
    refine jr_iadd (pc' := 683) gL dL_law_682 rfl ?_
    refine jr_sld (pc' := 684) (i + 4) dL_law_683 rfl (by omega) (by omega) (by omega) ?_
    refine jr_inv (pc' := 687) (as := [_, _, _, _]) gL dL_law_684 rfl kL_98 rfl rfl rfl (Nat.le_of_ble_eq_true rfl) ?_
    refine m_share hM (jR_toInt _) (jR_toInt _) (jR_toInt _) (jR_toInt _) (fun _ => ?_) (fun e => absurd e no)
    dsimp only [Option.toList, List.cons_append, List.nil_append]
    refine jr_eqS (tgt := 738) gL dL_law_687 rfl ?_
    exact fin σ (jInv_of hC hM)
  · dsimp only [Option.toList, List.cons_append, List.nil_append]
    refine jr_aload_n (pc' := 664) gL dL_law_663 rfl rfl ?_
    refine jr_aload_n (pc' := 665) gL dL_law_664 rfl rfl ?_
    refine jr_iload_n (pc' := 666) gL dL_law_665 rfl rfl ?_
    refine jr_iconst (pc' := 667) gL dL_law_666 rfl ?_
    refine jr_iadd (pc' := 668) gL dL_law_667 rfl ?_
    refine jr_sld (pc' := 669) (i + 1) dL_law_668 rfl (by omega) (by omega) (by omega) ?_
    refine jr_aload_n (pc' := 670) gL dL_law_669 rfl rfl ?_
    refine jr_iload_n (pc' := 671) gL dL_law_670 rfl rfl ?_
    refine jr_iconst (pc' := 672) gL dL_law_671 rfl ?_
    refine jr_iadd (pc' := 673) gL dL_law_672 rfl ?_
    refine jr_sld (pc' := 674) (i + 2) dL_law_673 rfl (by omega) (by omega) (by omega) ?_
    refine jr_aload_n (pc' := 675) gL dL_law_674 rfl rfl ?_
    refine jr_iload_n (pc' := 676) gL dL_law_675 rfl rfl ?_
    refine jr_iconst (pc' := 677) gL dL_law_676 rfl ?_
    refine jr_iadd (pc' := 678) gL dL_law_677 rfl ?_
    refine jr_sld (pc' := 679) (i + 3) dL_law_678 rfl (by omega) (by omega) (by omega) ?_
    refine jr_aload_n (pc' := 680) gL dL_law_679 rfl rfl ?_
    refine jr_iload_n (pc' := 681) gL dL_law_680 rfl rfl ?_
    refine jr_iconst (pc' := 682) gL dL_law_681 rfl ?_
    refine jr_iadd (pc' := 683) gL dL_law_682 rfl ?_
    refine jr_sld (pc' := 684) (i + 4) dL_law_683 rfl (by omega) (by omega) (by omega) ?_
    refine jr_inv (pc' := 687) (as := [_, _, _, _]) gL dL_law_684 rfl kL_98 rfl rfl rfl (Nat.le_of_ble_eq_true rfl) ?_
    refine m_share hM (jR_toInt _) (jR_toInt _) (jR_toInt _) (jR_toInt _) (fun no => absurd e no) (fun _ => ?_)
    dsimp only [Option.toList, List.cons_append, List.nil_append]
    refine jr_eqS (tgt := 738) gL dL_law_687 rfl ?_
    exact fin σ (jInv_of hC hM)
set_option maxRecDepth 100000 in
theorem lc_count (hL : L ≤ 2560) (hi : i + 5 ≤ L) (hC : CI n nb yr wt hp pr ga sh fe (bdL ba bb bm m) m s se sp σ) (hM : MI n nb yr wt hp pr ga sh fe m ba bb bm s se sp σ) (fin : ∀ σ' : jMem, jInv σ' → jV (jPL b L xs) 738 [some (.ref 37), some (.ref 0), some (.ref 24), some (.int (jI (i : Int)))] [] σ') : jV (jPL b L xs) 715 [some (.ref 37), some (.ref 0), some (.ref 24), some (.int (jI (i : Int)))] [] σ := by
  refine jr_aload_n (pc' := 716) gL dL_law_715 rfl rfl ?_
  refine jr_aload_n (pc' := 717) gL dL_law_716 rfl rfl ?_
  refine jr_iload_n (pc' := 718) gL dL_law_717 rfl rfl ?_
  refine jr_iconst (pc' := 719) gL dL_law_718 rfl ?_
  refine jr_iadd (pc' := 720) gL dL_law_719 rfl ?_
  refine jr_sld (pc' := 721) (i + 1) dL_law_720 rfl (by omega) (by omega) (by omega) ?_
  refine jr_inv (pc' := 724) (as := [_]) gL dL_law_721 rfl kL_103 rfl rfl rfl (Nat.le_of_ble_eq_true rfl) ?_
  refine x_count hC (jR_toInt _) ?_
  dsimp only [Option.toList, List.cons_append, List.nil_append]
  refine jr_aload_n (pc' := 725) gL dL_law_724 rfl rfl ?_
  refine jr_aload_n (pc' := 726) gL dL_law_725 rfl rfl ?_
  refine jr_iload_n (pc' := 727) gL dL_law_726 rfl rfl ?_
  refine jr_iconst (pc' := 728) gL dL_law_727 rfl ?_
  refine jr_iadd (pc' := 729) gL dL_law_728 rfl ?_
  refine jr_sld (pc' := 730) (i + 1) dL_law_729 rfl (by omega) (by omega) (by omega) ?_
  refine jr_inv (pc' := 733) (as := [_]) gL dL_law_730 rfl kL_106 rfl rfl rfl (Nat.le_of_ble_eq_true rfl) ?_
  refine m_count hM (jR_toInt _) ?_
  dsimp only [Option.toList, List.cons_append, List.nil_append]
  refine jr_eqS (tgt := 738) gL dL_law_733 rfl ?_
  exact fin σ (jInv_of hC hM)
end jLc
