/-! SPEC: a town told in Nat. T 0 askers, T 1 sayers, T 2 knows, T 3 kins, T 4 minutes (8 a + b), T 5 0 persons, T 5 1 law -/
def TOK (T : TT) : Prop := T 5 0 ≤ 8 ∧ T 5 1 ≤ 4 ∧ (∀ p, T 0 p ≤ 4) ∧ (∀ p, T 1 p ≤ 4) ∧ (∀ p, T 2 p ≤ 100) ∧ (∀ p, T 3 p ≤ 9) ∧ (∀ i, T 4 i ≤ 60) ∧ (∀ a b, b < 8 → 0 < T 4 (8 * a + b) → a < T 5 0 ∧ b < T 5 0)
def cdK (S : Nat) : Nat → Nat
  | 0 => 0
  | k + 1 => cdK S k + (S / 2 ^ k) % 2
def cdS (S : Nat) : Nat := cdK S 8
theorem cdK_le (S : Nat) : ∀ k, cdK S k ≤ k := by
  intro k
  induction k with
  | zero => exact Nat.le_refl 0
  | succ k ih => have := Nat.mod_lt (S / 2 ^ k) (show 0 < 2 by decide); show cdK S k + (S / 2 ^ k) % 2 ≤ k + 1; omega
theorem cdS_le (S : Nat) : cdS S ≤ 8 := cdK_le S 8
theorem cdS_add : ∀ S, S < 256 → ∀ p, p < 8 → S.testBit p = false → cdS (S ||| 2 ^ p) = cdS S + 1 := by decide +kernel
theorem cdS_pos : ∀ S, S < 256 → ∀ p, p < 8 → S.testBit p = true → 1 ≤ cdS S := by decide +kernel
theorem cdS_0 : cdS 0 = 0 := by decide
theorem or_lt256 {a b : Nat} (ha : a < 256) (hb : b < 256) : a ||| b < 256 := Nat.or_lt_two_pow (n := 8) ha hb
theorem pw_lt256 {p : Nat} (h : p < 8) : 2 ^ p < 256 := Nat.pow_lt_pow_right (by decide) h
def mkN (P : Nat → Bool) : Nat → Nat
  | 0 => 0
  | k + 1 => mkN P k ||| (bif P k then 2 ^ k else 0)
theorem mkN_bit (P : Nat → Bool) (q : Nat) : ∀ n, (mkN P n).testBit q = (decide (q < n) && P q) := by
  intro n
  induction n with
  | zero => simp [mkN]
  | succ n ih =>
    show (mkN P n ||| (bif P n then 2 ^ n else 0)).testBit q = _
    rw [Nat.testBit_or, ih]
    by_cases h : q = n
    · subst h
      cases hb : P q with
      | false => simp
      | true => simp [Nat.testBit_two_pow]
    · have h3 : ¬ n = q := fun z => h z.symm
      have h2 : (bif P n then 2 ^ n else 0).testBit q = false := by
        cases hb : P n with
        | false => simp
        | true => simp [Nat.testBit_two_pow, h3]
      rw [h2, Bool.or_false]
      have : decide (q < n + 1) = decide (q < n) := by
        apply decide_eq_decide.mpr; omega
      rw [this]
theorem mkN_lt (P : Nat → Bool) : ∀ n, mkN P n < 2 ^ n := by
  intro n
  induction n with
  | zero => exact Nat.one_pos
  | succ n ih =>
    refine Nat.or_lt_two_pow (Nat.lt_of_lt_of_le ih (Nat.pow_le_pow_right (by decide) (Nat.le_succ n))) ?_
    cases P n with
    | false => exact Nat.two_pow_pos (n + 1)
    | true => exact Nat.pow_lt_pow_right (by decide) (Nat.lt_succ_self n)
theorem mkN_256 (P : Nat → Bool) {n : Nat} (h : n ≤ 8) : mkN P n < 256 := Nat.lt_of_lt_of_le (mkN_lt P n) (Nat.pow_le_pow_right (n := 2) (by decide) h)
theorem mkN_congr {P P' : Nat → Bool} : ∀ {n : Nat}, (∀ q, q < n → P q = P' q) → mkN P n = mkN P' n := by
  intro n
  induction n with
  | zero => intro _; rfl
  | succ n ih => intro h; show mkN P n ||| _ = mkN P' n ||| _; rw [ih (fun q hq => h q (Nat.lt_succ_of_lt hq)), h n (Nat.lt_succ_self n)]
def rcS (T : TT) (mu p : Nat) : Nat := mkN (fun q => decide (0 < T 4 (8 * p + q)) && !Nat.beq p mu) 8
def bkS (T : TT) (p : Nat) : Nat := mkN (fun q => decide (0 < T 4 (8 * q + p))) 8
def mtS (T : TT) (p : Nat) : Nat := mkN (fun q => decide (p < T 5 0) && (decide (q < T 5 0) && (!Nat.beq q p && (decide (0 < T 3 p) && Nat.beq (T 3 q) (T 3 p))))) 8
theorem rcS_lt (T : TT) (mu p : Nat) : rcS T mu p < 256 := mkN_lt _ 8
theorem bkS_lt (T : TT) (p : Nat) : bkS T p < 256 := mkN_lt _ 8
theorem mtS_lt (T : TT) (p : Nat) : mtS T p < 256 := mkN_lt _ 8
/-- one of kin is in the set -/
def hkS (T : TT) (S p : Nat) : Nat → Bool
  | 0 => false
  | k + 1 => hkS T S p k || (S.testBit k && (decide (0 < T 3 p) && Nat.beq (T 3 k) (T 3 p)))
theorem hkS_iff (T : TT) (S p : Nat) : ∀ n, hkS T S p n = true ↔ ∃ k, k < n ∧ S.testBit k = true ∧ 0 < T 3 p ∧ T 3 k = T 3 p := by
  intro n
  induction n with
  | zero => exact ⟨fun h => (by cases h), fun ⟨k, hk, _⟩ => absurd hk (Nat.not_lt_zero k)⟩
  | succ n ih =>
    show (hkS T S p n || _) = true ↔ _
    rw [Bool.or_eq_true, ih]
    constructor
    · rintro (⟨k, h1, h2⟩ | h)
      · exact ⟨k, Nat.lt_succ_of_lt h1, h2⟩
      · simp only [Bool.and_eq_true, decide_eq_true_eq, Nat.beq_eq] at h
        exact ⟨n, Nat.lt_succ_self n, h.1, h.2.1, h.2.2⟩
    · rintro ⟨k, h1, h2, h3, h4⟩
      by_cases e : k = n
      · subst e; right; simp only [Bool.and_eq_true, decide_eq_true_eq, Nat.beq_eq]; exact ⟨h2, h3, h4⟩
      · left; exact ⟨k, by omega, h2, h3, h4⟩
/-- whether h may pass it on to q, G being gone -/
def mayB (T : TT) (h G q : Nat) : Bool := decide (0 < T 4 (8 * h + q)) && (!G.testBit q && ((!(Nat.beq (T 5 1) 1 || Nat.beq (T 5 1) 4) || !hkS T G q (T 5 0)) && (!Nat.beq (T 5 1) 4 || decide (0 < T 4 (8 * q + h)))))
def stopS (T : TT) (S : Nat) : Prop := (T 5 1 = 2 ∧ 4 ≤ cdS S) ∨ (T 5 1 = 3 ∧ 7 ≤ cdS S)
def mayS (T : TT) (h S been mu : Nat) : Nat := if h = mu then 0 else if (T 5 1 = 2 ∧ 4 ≤ cdS S) ∨ (T 5 1 = 3 ∧ 7 ≤ cdS S) then 0 else mkN (mayB T h (S ||| been)) (T 5 0)
theorem mayS_lt {T : TT} (hT : TOK T) (h S been mu : Nat) : mayS T h S been mu < 256 := by
  unfold mayS
  split
  · decide
  · split
    · decide
    · exact mkN_256 _ hT.1
theorem mayS_in {T : TT} {h S been mu q : Nat} (hb : (mayS T h S been mu).testBit q = true) : q < T 5 0 ∧ S.testBit q = false ∧ 0 < T 4 (8 * h + q) ∧ been.testBit q = false := by
  unfold mayS at hb
  split at hb
  · simp at hb
  · split at hb
    · simp at hb
    · rw [mkN_bit] at hb
      simp only [Bool.and_eq_true, decide_eq_true_eq, mayB, Bool.not_eq_true', Nat.testBit_or, Bool.or_eq_false_iff] at hb
      exact ⟨hb.1, hb.2.2.1.1, hb.2.1, hb.2.2.1.2⟩
/-! the same by sets -/
def wmK (T : TT) (G o : Nat) : Nat → Nat
  | 0 => o
  | k + 1 => if mtS T k &&& G = 0 then wmK T G o k else wmK T G o k &&& (255 ^^^ (2 ^ k &&& 255))
def opA (T : TT) (h G mu : Nat) : Nat := rcS T mu h &&& (255 ^^^ (G &&& 255))
def opB (T : TT) (h G mu : Nat) : Nat := if T 5 1 = 4 then opA T h G mu &&& bkS T h else opA T h G mu
def opS (T : TT) (h G mu : Nat) : Nat := if T 5 1 = 1 ∨ T 5 1 = 4 then wmK T G (opB T h G mu) 8 else opB T h G mu
theorem tb255 (i : Nat) : Nat.testBit 255 i = decide (i < 8) := by
  have : (255 : Nat) = 2 ^ 8 - 1 := rfl
  rw [this, Nat.testBit_two_pow_sub_one]
theorem and_eq0 (a b : Nat) : a &&& b = 0 ↔ ∀ q, ¬ (a.testBit q = true ∧ b.testBit q = true) := by
  constructor
  · intro h q hq
    have : (a &&& b).testBit q = true := by rw [Nat.testBit_and, hq.1, hq.2]; rfl
    rw [h] at this; simp at this
  · intro h
    apply Nat.eq_of_testBit_eq
    intro i
    rw [Nat.testBit_and, Nat.zero_testBit]
    cases ha : a.testBit i with
    | false => rfl
    | true => cases hb : b.testBit i with
      | false => rfl
      | true => exact absurd ⟨ha, hb⟩ (h i)
theorem wmK_lt (T : TT) (G : Nat) {o : Nat} (ho : o < 256) : ∀ k, wmK T G o k < 256 := by
  intro k
  induction k with
  | zero => exact ho
  | succ k ih =>
    unfold wmK
    split
    · exact ih
    · exact Nat.lt_of_le_of_lt Nat.and_le_left ih
theorem tb_hi {o q : Nat} (ho : o < 256) (h : 8 ≤ q) : o.testBit q = false := Nat.testBit_lt_two_pow (Nat.lt_of_lt_of_le ho (Nat.pow_le_pow_right (n := 2) (show 0 < 2 by decide) h))
theorem wmK_bit (T : TT) (G : Nat) {o : Nat} (ho : o < 256) (q : Nat) : ∀ k, k ≤ 8 → (wmK T G o k).testBit q = (o.testBit q && !(decide (q < k) && !decide (mtS T q &&& G = 0))) := by
  intro k
  induction k with
  | zero => intro _; simp [wmK]
  | succ k ih =>
    intro hk
    have ih := ih (by omega)
    unfold wmK
    by_cases hc : mtS T k &&& G = 0
    · rw [if_pos hc, ih]
      by_cases e : q = k
      · subst e; simp [hc]
      · have : decide (q < k + 1) = decide (q < k) := by apply decide_eq_decide.mpr; omega
        rw [this]
    · rw [if_neg hc, Nat.testBit_and, ih, Nat.testBit_xor, Nat.testBit_and, tb255, Nat.testBit_two_pow]
      by_cases h8 : q < 8
      · by_cases e : q = k
        · subst e
          simp [hc, h8]
        · have h1 : decide (q < k + 1) = decide (q < k) := by apply decide_eq_decide.mpr; omega
          have h2 : ¬ k = q := fun z => e z.symm
          rw [h1]
          simp [h8, h2]
      · rw [tb_hi ho (by omega)]; simp
theorem mt_hit {T : TT} {G q : Nat} (hn : T 5 0 ≤ 8) (hq : q < T 5 0) (hG : G.testBit q = false) : mtS T q &&& G = 0 ↔ hkS T G q (T 5 0) = false := by
  rw [and_eq0]
  constructor
  · intro h
    cases hk : hkS T G q (T 5 0) with
    | false => rfl
    | true =>
      obtain ⟨k, h1, h2, h3, h4⟩ := (hkS_iff T G q _).mp hk
      refine absurd ⟨?_, h2⟩ (h k)
      have hkq : k ≠ q := fun z => by subst z; rw [hG] at h2; cases h2
      unfold mtS
      rw [mkN_bit]
      simp only [Bool.and_eq_true, decide_eq_true_eq, Bool.not_eq_true', Nat.beq_eq]
      exact ⟨by omega, hq, h1, by rw [← Bool.not_eq_true, Nat.beq_eq]; exact hkq, h3, h4⟩
  · intro h k hk
    unfold mtS at hk
    rw [mkN_bit] at hk
    simp only [Bool.and_eq_true, decide_eq_true_eq, Bool.not_eq_true', Nat.beq_eq] at hk
    obtain ⟨⟨-, -, h2, -, h4, h5⟩, h6⟩ := hk
    have := (hkS_iff T G q _).mpr ⟨k, h2, h6, h4, h5⟩
    rw [h] at this; cases this
theorem opA_bit (T : TT) (h G mu : Nat) (q : Nat) : (opA T h G mu).testBit q = (decide (q < 8) && ((decide (0 < T 4 (8 * h + q)) && !Nat.beq h mu) && !G.testBit q)) := by
  unfold opA rcS
  rw [Nat.testBit_and, mkN_bit, Nat.testBit_xor, Nat.testBit_and, tb255]
  by_cases h8 : q < 8
  · simp [h8]
  · simp [h8]
theorem opA_lt (T : TT) (h G mu : Nat) : opA T h G mu < 256 := Nat.lt_of_le_of_lt Nat.and_le_left (rcS_lt T mu h)
theorem opB_lt (T : TT) (h G mu : Nat) : opB T h G mu < 256 := by
  unfold opB
  split
  · exact Nat.lt_of_le_of_lt Nat.and_le_left (opA_lt T h G mu)
  · exact opA_lt T h G mu
theorem opB_bit (T : TT) (h G mu : Nat) (q : Nat) : (opB T h G mu).testBit q = (decide (q < 8) && ((decide (0 < T 4 (8 * h + q)) && !Nat.beq h mu) && (!G.testBit q && (!Nat.beq (T 5 1) 4 || decide (0 < T 4 (8 * q + h)))))) := by
  unfold opB
  by_cases h4 : T 5 1 = 4
  · rw [if_pos h4, Nat.testBit_and, opA_bit]
    unfold bkS
    rw [mkN_bit]
    have : Nat.beq (T 5 1) 4 = true := by rw [h4]; rfl
    rw [this]
    by_cases h8 : q < 8
    · simp [h8, Bool.and_assoc]
    · simp [h8]
  · rw [if_neg h4, opA_bit]
    have : Nat.beq (T 5 1) 4 = false := by rw [← Bool.not_eq_true, Nat.beq_eq]; exact h4
    rw [this]; simp
/-- the sets give what the law's words give -/
theorem opS_eq {T : TT} (hT : TOK T) (h G mu : Nat) : opS T h G mu = if h = mu then 0 else mkN (mayB T h G) (T 5 0) := by
  apply Nat.eq_of_testBit_eq
  intro q
  have hn := hT.1
  have key : (opS T h G mu).testBit q = (!Nat.beq h mu && (decide (q < T 5 0) && mayB T h G q)) := by
    have hin : 0 < T 4 (8 * h + q) → q < 8 → q < T 5 0 := fun z w => (hT.2.2.2.2.2.2.2 h q w z).2
    unfold opS mayB
    by_cases hl : T 5 1 = 1 ∨ T 5 1 = 4
    · rw [if_pos hl, wmK_bit T G (opB_lt T h G mu) q 8 (Nat.le_refl 8), opB_bit]
      have hl2 : (Nat.beq (T 5 1) 1 || Nat.beq (T 5 1) 4) = true := by
        rw [Bool.or_eq_true, Nat.beq_eq, Nat.beq_eq]; exact hl
      rw [hl2]
      by_cases h8 : q < 8
      · by_cases hm : 0 < T 4 (8 * h + q)
        · have hqn := hin hm h8
          cases hG : G.testBit q with
          | true => simp
          | false =>
            have hh := mt_hit (T := T) (G := G) (q := q) hn hqn hG
            by_cases hz : mtS T q &&& G = 0
            · have h2 := hh.mp hz
              simp [h8, hqn, hm, hz, h2]
            · have h2 : hkS T G q (T 5 0) = true := by
                cases hk : hkS T G q (T 5 0) with
                | true => rfl
                | false => exact absurd (hh.mpr hk) hz
              simp [h8, hqn, hm, hz, h2]
        · simp [hm]
      · have : ¬ q < T 5 0 := by omega
        simp [h8, this]
    · rw [if_neg hl, opB_bit]
      have hl2 : (Nat.beq (T 5 1) 1 || Nat.beq (T 5 1) 4) = false := by
        rw [← Bool.not_eq_true, Bool.or_eq_true, Nat.beq_eq, Nat.beq_eq]; exact hl
      rw [hl2]
      by_cases h8 : q < 8
      · by_cases hm : 0 < T 4 (8 * h + q)
        · have hqn := hin hm h8
          simp [h8, hqn, hm]
        · simp [hm]
      · have : ¬ q < T 5 0 := by omega
        simp [h8, this]
  rw [key]
  by_cases hm : h = mu
  · rw [if_pos hm]
    have : Nat.beq h mu = true := by rw [Nat.beq_eq]; exact hm
    rw [this]; simp
  · rw [if_neg hm, mkN_bit]
    have : Nat.beq h mu = false := by rw [← Bool.not_eq_true, Nat.beq_eq]; exact hm
    rw [this]; simp
