/-! ===== out of kit/laws/BITS.to-paste and NUMBERS.to-paste: wb_, pf_shr, nx_, s_l, fa_or ===== -/
/-! ===== lN n to 2^64: shifts, and, or, masks, one bit ===== -/
theorem wb_tb (n : Nat) : (lN n).toBitVec = BitVec.ofNat 64 n := rfl
theorem wb_inj {a b : Int64} (h : a.toBitVec = b.toBitVec) : a = b := Int64.toBitVec_inj.mp h
theorem wb_tn {n : Nat} (h : n < 2 ^ 64) : (lN n).toBitVec.toNat = n := by rw [wb_tb, BitVec.toNat_ofNat, Nat.mod_eq_of_lt h]
theorem wb_of (x : Int64) : ∃ n, n < 2 ^ 64 ∧ x = lN n := ⟨x.toBitVec.toNat, x.toBitVec.isLt, wb_inj (by rw [wb_tb]; simp)⟩
theorem wb_of32 (x : Int32) : ∃ n, n < 2 ^ 32 ∧ x = nI n := ⟨x.toBitVec.toNat, x.toBitVec.isLt, Int32.toBitVec_inj.mp (by show _ = BitVec.ofNat 32 _; simp)⟩
theorem wb_c : ∀ k, k < 64 → ((nI k).toInt64 &&& 63) = lN k := by decide +kernel
theorem wb_cu : ∀ k, k < 64 → ((nI k).toInt64.toUInt64 &&& Int64.toUInt64 63) = UInt64.ofNat k := by decide +kernel
theorem wb_sm : ∀ k, k < 64 → (BitVec.ofNat 64 k).smod 64 = BitVec.ofNat 64 k := by decide +kernel
theorem wb_pw {a b : Nat} (h : a ≤ b) : 2 ^ b = 2 ^ a * 2 ^ (b - a) := by rw [← Nat.pow_add]; congr 1; omega
theorem wb_lt2 {a b : Nat} (h : a < b) : 2 ^ a < 2 ^ b := Nat.pow_lt_pow_right (by decide) h
theorem wb_mod (n : Nat) : lN n = lN (n % 2 ^ 64) := wb_inj (by rw [wb_tb, wb_tb]; apply BitVec.eq_of_toNat_eq; rw [BitVec.toNat_ofNat, BitVec.toNat_ofNat, Nat.mod_mod])
theorem wb_shr {n k : Nat} (hn : n < 2 ^ 64) (hk : k < 64) : ((lN n).toUInt64 >>> ((nI k).toInt64.toUInt64 &&& Int64.toUInt64 63)).toInt64 = lN (n / 2 ^ k) := by
  rw [wb_cu k hk]
  apply wb_inj
  apply BitVec.eq_of_toNat_eq
  show ((lN n).toUInt64 >>> UInt64.ofNat k).toNat = (BitVec.ofNat 64 _).toNat
  have h1 : (UInt64.ofNat k).toNat = k := by
    show (BitVec.ofNat 64 k).toNat = k
    rw [BitVec.toNat_ofNat, Nat.mod_eq_of_lt (by omega)]
  have h2 : (lN n).toUInt64.toNat = n := wb_tn hn
  rw [UInt64.toNat_shiftRight, h1, h2, Nat.mod_eq_of_lt hk, Nat.shiftRight_eq_div_pow, BitVec.toNat_ofNat, Nat.mod_eq_of_lt (Nat.lt_of_le_of_lt (Nat.div_le_self _ _) hn)]
theorem wb_shl (n : Nat) {k : Nat} (hk : k < 64) : lN n <<< ((nI k).toInt64 &&& 63) = lN (n * 2 ^ k) := by
  rw [wb_c k hk]
  apply wb_inj
  rw [Int64.toBitVec_shiftLeft, wb_tb, wb_tb, wb_tb, wb_sm k hk]
  apply BitVec.eq_of_toNat_eq
  rw [BitVec.shiftLeft_eq', BitVec.toNat_shiftLeft, BitVec.toNat_ofNat, BitVec.toNat_ofNat, BitVec.toNat_ofNat, Nat.mod_eq_of_lt (show k < 2 ^ 64 by omega), Nat.shiftLeft_eq, Nat.mul_mod, Nat.mod_mod, ← Nat.mul_mod]
theorem wb_and {a b : Nat} (ha : a < 2 ^ 64) (hb : b < 2 ^ 64) : lN a &&& lN b = lN (a &&& b) := by
  apply wb_inj
  rw [Int64.toBitVec_and, wb_tb, wb_tb, wb_tb]
  apply BitVec.eq_of_toNat_eq
  rw [BitVec.toNat_and, BitVec.toNat_ofNat, BitVec.toNat_ofNat, BitVec.toNat_ofNat, Nat.mod_eq_of_lt ha, Nat.mod_eq_of_lt hb, Nat.mod_eq_of_lt (Nat.and_lt_two_pow _ hb)]
theorem wb_or {a b : Nat} (ha : a < 2 ^ 64) (hb : b < 2 ^ 64) : lN a ||| lN b = lN (a ||| b) := by
  apply wb_inj
  rw [Int64.toBitVec_or, wb_tb, wb_tb, wb_tb]
  apply BitVec.eq_of_toNat_eq
  rw [BitVec.toNat_or, BitVec.toNat_ofNat, BitVec.toNat_ofNat, BitVec.toNat_ofNat, Nat.mod_eq_of_lt ha, Nat.mod_eq_of_lt hb, Nat.mod_eq_of_lt (Nat.or_lt_two_pow ha hb)]
theorem wb_mask {n k : Nat} (hn : n < 2 ^ 64) (hk : k < 64) : lN n &&& lN (2 ^ k - 1) = lN (n % 2 ^ k) := by
  rw [wb_and hn (by have := wb_lt2 hk; omega), Nat.and_two_pow_sub_one_eq_mod]
theorem wb_a1 {n : Nat} (hn : n < 2 ^ 64) : lN n &&& 1 = lN (n % 2) := wb_mask (k := 1) hn (by decide)
theorem wb_bit {n k : Nat} (hn : n < 2 ^ 64) (hk : k < 64) : ((lN n).toUInt64 >>> ((nI k).toInt64.toUInt64 &&& Int64.toUInt64 63)).toInt64 &&& 1 = lN (n / 2 ^ k % 2) := by
  rw [wb_shr hn hk, wb_a1 (Nat.lt_of_le_of_lt (Nat.div_le_self _ _) hn)]
theorem pf_lI {a : Nat} (h : a < 2 ^ 63) : (lN a).toInt = (a : Int) := lg_ofNat_toInt h
theorem pf_shr {a d : Nat} {D : Int64} (hD : (D.toBitVec.smod 64).toNat = d) (h : a < 2 ^ 62) : lN a >>> D = lN (a / 2 ^ d) := by
  have hd : a / 2 ^ d ≤ a := Nat.div_le_self _ _
  apply Int64.toInt_inj.mp
  have e : (lN a >>> D).toInt = (lN a).toInt >>> d := by
    rw [← hD]
    exact BitVec.toInt_sshiftRight ..
  rw [e, Int.shiftRight_eq_div_pow, pf_lI (by omega), pf_lI (by omega)]
  rfl
theorem nx_and (a b : Nat) : nI a &&& nI b = nI (a &&& b) := by
  apply Int32.toBitVec_inj.1
  show BitVec.ofNat 32 a &&& BitVec.ofNat 32 b = BitVec.ofNat 32 (a &&& b)
  apply BitVec.eq_of_getLsbD_eq
  intro i hi
  simp [hi]
theorem nx_xor (a b : Nat) : nI a ^^^ nI b = nI (a ^^^ b) := by
  apply Int32.toBitVec_inj.1
  show BitVec.ofNat 32 a ^^^ BitVec.ofNat 32 b = BitVec.ofNat 32 (a ^^^ b)
  apply BitVec.eq_of_getLsbD_eq
  intro i hi
  simp [hi]
theorem s_l : ∀ n, n < 32 → ((nI n &&& 31).toBitVec.smod 32).toNat = n := by decide +kernel
theorem fa_or (a b : Nat) : nI a ||| nI b = nI (a ||| b) := by
  apply Int32.toBitVec_inj.1
  show BitVec.ofNat 32 a ||| BitVec.ofNat 32 b = BitVec.ofNat 32 (a ||| b)
  apply BitVec.eq_of_getLsbD_eq
  intro i hi
  simp [hi]
/-! ===== masks: the number whose bits are a predicate's ===== -/
def bI (p : Prop) [Decidable p] : Int := if p then 1 else 0
theorem bI_01 (p : Prop) [Decidable p] : bI p = 0 ∨ bI p = 1 := by unfold bI; split <;> simp
theorem bI_t {p : Prop} [Decidable p] (h : p) : bI p = 1 := if_pos h
theorem bI_f {p : Prop} [Decidable p] (h : ¬ p) : bI p = 0 := if_neg h
theorem bI_iff {p q : Prop} [Decidable p] [Decidable q] (h : p ↔ q) : bI p = bI q := by unfold bI; simp [h]
def jm (p : Nat → Bool) : Nat → Nat
  | 0 => 0
  | n + 1 => jm p n + (if p n then 2 ^ n else 0)
theorem jm_lt (p : Nat → Bool) (n : Nat) : jm p n < 2 ^ n := by
  induction n with
  | zero => simp [jm]
  | succ n ih =>
    simp only [jm, Nat.pow_succ]
    split <;> omega
theorem jm_tb (p : Nat → Bool) (n i : Nat) : (jm p n).testBit i = (decide (i < n) && p i) := by
  induction n with
  | zero => simp [jm]
  | succ n ih =>
    simp only [jm]
    have hl := jm_lt p n
    by_cases hp : p n = true
    · rw [if_pos hp, Nat.add_comm]
      rcases Nat.lt_trichotomy i n with h | h | h
      · rw [Nat.testBit_two_pow_add_gt h, ih]
        simp [h, Nat.lt_succ_of_lt h]
      · subst h
        rw [Nat.testBit_two_pow_add_eq, ih]
        simp [hp]
      · have h2 : 2 ^ n + jm p n < 2 ^ i := by
          have : 2 ^ (n + 1) ≤ 2 ^ i := Nat.pow_le_pow_right (by omega) h
          rw [Nat.pow_succ] at this
          omega
        rw [Nat.testBit_lt_two_pow h2]
        simp [show ¬ i < n + 1 by omega]
    · rw [if_neg hp, Nat.add_zero, ih]
      by_cases hi : i = n
      · subst hi
        simp [hp]
      · by_cases h2 : i < n
        · simp [h2, Nat.lt_succ_of_lt h2]
        · simp [h2, show ¬ i < n + 1 by omega]
theorem jm_eq {p : Nat → Bool} {n x : Nat} (h : ∀ i, x.testBit i = (decide (i < n) && p i)) : x = jm p n := Nat.eq_of_testBit_eq (fun i => by rw [h i, jm_tb])
theorem jm_congr {p q : Nat → Bool} {n : Nat} (h : ∀ i, i < n → p i = q i) : jm p n = jm q n := by
  induction n with
  | zero => rfl
  | succ n ih =>
    simp only [jm]
    rw [ih (fun i hi => h i (by omega)), h n (by omega)]
theorem jm_and (p q : Nat → Bool) (n : Nat) : jm p n &&& jm q n = jm (fun i => p i && q i) n := by
  apply jm_eq
  intro i
  rw [Nat.testBit_and, jm_tb, jm_tb]
  cases decide (i < n) <;> simp
theorem jm_or (p q : Nat → Bool) (n : Nat) : jm p n ||| jm q n = jm (fun i => p i || q i) n := by
  apply jm_eq
  intro i
  rw [Nat.testBit_or, jm_tb, jm_tb]
  cases decide (i < n) <;> simp
theorem jm_zero {p : Nat → Bool} {n : Nat} : jm p n = 0 ↔ ∀ i, i < n → p i = false := by
  constructor
  · intro h i hi
    have := jm_tb p n i
    rw [h] at this
    simpa [hi] using this.symm
  · intro h
    rw [jm_congr (q := fun _ => false) h]
    clear h
    induction n with
    | zero => rfl
    | succ n ih => simp [jm, ih]
theorem jm_bit {u n : Nat} (h : u < n) : 2 ^ u = jm (fun i => decide (i = u)) n := by
  apply jm_eq
  intro i
  rw [Nat.testBit_two_pow]
  by_cases e : u = i
  · subst e
    simp [h]
  · simp [e, show ¬ i = u from fun q => e q.symm]
theorem jm_all {c n : Nat} (h : c ≤ n) : 2 ^ c - 1 = jm (fun i => decide (i < c)) n := by
  apply jm_eq
  intro i
  rw [Nat.testBit_two_pow_sub_one]
  by_cases e : i < c
  · simp [e, Nat.lt_of_lt_of_le e h]
  · simp [e]
/-- a mask as a number of the memory -/
def jk (p : Nat → Bool) : Int := ((jm p 40 : Nat) : Int)
theorem jk_r (p : Nat → Bool) : 0 ≤ jk p ∧ jk p < 1099511627776 := by
  have := jm_lt p 40
  unfold jk
  omega
theorem jk_r8 (p : Nat → Bool) : jR8 (jk p) := by
  have := jk_r p
  exact ⟨by omega, by omega⟩
theorem jk_congr {p q : Nat → Bool} (h : ∀ i, i < 40 → p i = q i) : jk p = jk q := by
  unfold jk
  rw [jm_congr h]
theorem jk_zero {p : Nat → Bool} : jk p = 0 ↔ ∀ i, i < 40 → p i = false := by
  unfold jk
  rw [← jm_zero]
  omega
theorem jk_inj {p q : Nat → Bool} (h : jk p = jk q) : ∀ i, i < 40 → p i = q i := by
  intro i hi
  unfold jk at h
  have h2 : jm p 40 = jm q 40 := by omega
  have h3 := jm_tb p 40 i
  rw [h2, jm_tb] at h3
  simpa [hi] using h3.symm
theorem jL_nat (n : Nat) : jL (n : Int) = lN n := rfl
theorem jk_and (p q : Nat → Bool) : jL (jk p) &&& jL (jk q) = jL (jk (fun i => p i && q i)) := by
  have h1 := jm_lt p 40
  have h2 := jm_lt q 40
  unfold jk
  rw [jL_nat, jL_nat, jL_nat, wb_and (by omega) (by omega), jm_and]
theorem jk_or (p q : Nat → Bool) : jL (jk p) ||| jL (jk q) = jL (jk (fun i => p i || q i)) := by
  have h1 := jm_lt p 40
  have h2 := jm_lt q 40
  unfold jk
  rw [jL_nat, jL_nat, jL_nat, wb_or (by omega) (by omega), jm_or]
theorem jL_m1 : (jL (-1)).toBitVec = BitVec.allOnes 64 := by decide
theorem jL_not (x : Int) : jL x ^^^ jL (-1) = jL (-1 - x) := by
  apply wb_inj
  rw [Int64.toBitVec_xor, jL_m1, BitVec.xor_allOnes, jL_sub, Int64.toBitVec_sub, jL_m1, BitVec.allOnes_sub_eq_not]
theorem jk_andn (p q : Nat → Bool) : jL (jk p) &&& jL (-1 - jk q) = jL (jk (fun i => p i && !q i)) := by
  have h1 := jm_lt p 40
  have h2 := jm_lt q 40
  have h3 := jm_lt (fun i => p i && !q i) 40
  rw [← jL_not]
  unfold jk
  rw [jL_nat, jL_nat, jL_nat]
  apply wb_inj
  rw [Int64.toBitVec_and, Int64.toBitVec_xor, jL_m1, BitVec.xor_allOnes, wb_tb, wb_tb, wb_tb]
  apply BitVec.eq_of_getLsbD_eq
  intro i hi
  rw [BitVec.getLsbD_and, BitVec.getLsbD_not, BitVec.getLsbD_ofNat, BitVec.getLsbD_ofNat, BitVec.getLsbD_ofNat, jm_tb, jm_tb, jm_tb]
  simp only [hi, decide_true, Bool.true_and]
  cases decide (i < 40) <;> simp
theorem jk_bit {u : Nat} (h : u < 40) : jL 1 <<< ((jI (u : Int)).toInt64 &&& 63) = jL (jk (fun i => decide (i = u))) := by
  unfold jk
  rw [← jm_bit h]
  have := wb_shl 1 (k := u) (by omega)
  rw [Nat.one_mul] at this
  exact this
theorem jk_shr (p : Nat → Bool) {u : Nat} (h : u < 40) : jL (jk p) >>> ((jI (u : Int)).toInt64 &&& 63) = jL ((jm p 40 / 2 ^ u : Nat) : Int) := by
  have h1 := jm_lt p 40
  have e : ((jI (u : Int)).toInt64 &&& 63) = lN u := wb_c u (by omega)
  rw [e]
  refine pf_shr (a := jm p 40) (d := u) ?_ (by omega)
  rw [wb_tb, wb_sm u (by omega), BitVec.toNat_ofNat, Nat.mod_eq_of_lt (by omega)]
theorem jk_lo (p : Nat → Bool) {u : Nat} (h : u < 40) : jL ((jm p 40 / 2 ^ u : Nat) : Int) &&& jL 1 = jL (bI (p u = true)) := by
  have h1 := jm_lt p 40
  have e : jm p 40 / 2 ^ u % 2 = if p u then 1 else 0 := by
    have := jm_tb p 40 u
    rw [Nat.testBit_eq_decide_div_mod_eq] at this
    simp only [h, decide_true, Bool.true_and] at this
    have h2 := Nat.mod_lt (jm p 40 / 2 ^ u) (show 2 > 0 by omega)
    by_cases hp : p u = true
    · rw [hp] at this ⊢
      simpa using this
    · have hp2 : p u = false := by simpa using hp
      rw [hp2] at this ⊢
      simp at this ⊢
      omega
  have h2 : jm p 40 / 2 ^ u < 2 ^ 64 := Nat.lt_of_le_of_lt (Nat.div_le_self _ _) (by omega)
  have h3 := wb_a1 h2
  rw [e] at h3
  have h4 : lN (if p u = true then 1 else 0) = jL (bI (p u = true)) := by
    unfold bI
    split <;> rfl
  rw [← h4]
  exact h3
/-- how many of 0 .. n - 1 -/
def jn (p : Nat → Bool) : Nat → Nat
  | 0 => 0
  | n + 1 => jn p n + (if p n then 1 else 0)
theorem jn_le (p : Nat → Bool) (n : Nat) : jn p n ≤ n := by
  induction n with
  | zero => exact Nat.le_refl _
  | succ n ih =>
    simp only [jn]
    split <;> omega
theorem jn_congr {p q : Nat → Bool} {n : Nat} (h : ∀ i, i < n → p i = q i) : jn p n = jn q n := by
  induction n with
  | zero => rfl
  | succ n ih =>
    simp only [jn]
    rw [ih (fun i hi => h i (by omega)), h n (by omega)]
theorem jn_zero {p : Nat → Bool} {n : Nat} : jn p n = 0 ↔ ∀ i, i < n → p i = false := by
  induction n with
  | zero => simp [jn]
  | succ n ih =>
    simp only [jn]
    constructor
    · intro h i hi
      have h1 : jn p n = 0 := by omega
      rcases Nat.lt_or_ge i n with q | q
      · exact ih.mp h1 i q
      · have e : i = n := by omega
        subst e
        by_cases hp : p i = true
        · rw [if_pos hp] at h
          omega
        · simpa using hp
    · intro h
      rw [ih.mpr (fun i hi => h i (by omega)), h n (by omega)]
      rfl
/-! a boolean answer, branched on -/
section jPb
variable {Ψ : jX → Prop} {B : ByteArray} {own : String} {d pc pc' : Nat} {lv : List (Option Value)} {st : List Value} {σ : jMem}
theorem jr_pb_eq {p : Prop} [Decidable p] {off : Int} {tgt : Nat} (G : jG Ψ B own d) (hd : decode B pc = .ok (.ifCond .eq off, 3)) (ht : (pc : Int) + off = (tgt : Int)) (hp : pc + 3 = pc') (kt : ¬ p → jV Ψ tgt lv st σ) (kf : p → jV Ψ pc' lv st σ) : jV Ψ pc lv (.int (jI (bI p)) :: st) σ :=
  jr_if_eq G hd ht hp (by rcases bI_01 p with e | e <;> rw [e] <;> exact ⟨by omega, by omega⟩) (fun h => kt (fun q => by rw [bI_t q] at h; omega)) (fun h => kf (Decidable.byContradiction (fun q => h (bI_f q))))
theorem jr_pb_ne {p : Prop} [Decidable p] {off : Int} {tgt : Nat} (G : jG Ψ B own d) (hd : decode B pc = .ok (.ifCond .ne off, 3)) (ht : (pc : Int) + off = (tgt : Int)) (hp : pc + 3 = pc') (kt : p → jV Ψ tgt lv st σ) (kf : ¬ p → jV Ψ pc' lv st σ) : jV Ψ pc lv (.int (jI (bI p)) :: st) σ :=
  jr_if_ne G hd ht hp (by rcases bI_01 p with e | e <;> rw [e] <;> exact ⟨by omega, by omega⟩) (fun h => kt (Decidable.byContradiction (fun q => h (bI_f q)))) (fun h => kf (fun q => by rw [bI_t q] at h; omega))
end jPb
theorem jdown {P : Nat → Prop} (N : Nat) (h : ∀ i, i ≤ N → (∀ j, i < j → j ≤ N → P j) → P i) : ∀ i, i ≤ N → P i := by
  have H : ∀ n i, N - i = n → i ≤ N → P i := by
    intro n
    induction n using Nat.strongRecOn with
    | ind n ih =>
      intro i hn hi
      exact h i hi (fun j hj hj2 => ih (N - j) (by omega) j rfl hj2)
  intro i hi
  exact H _ i rfl hi
