/-! SPEC: whom one passes it on to; the way; what is said -/
def kA (T : TT) (h S been mu q : Nat) : Int32 := if T 0 h = 0 then nI (T 4 (8 * h + q)) else if T 0 h = 1 then -(nI (T 2 q)) else if T 0 h = 2 then nI (cdS (mayS T q (S ||| 2 ^ q) been mu)) else if T 0 h = 3 then -(nI (cdS (mayS T q (S ||| 2 ^ q) been mu))) else nI 0
def kB (T : TT) (h q : Nat) : Int32 := if T 0 h = 2 ∨ T 0 h = 3 then nI (T 4 (8 * h + q)) else nI 0
def ltS (T : TT) (h S been mu q b : Nat) : Prop := kA T h S been mu q < kA T h S been mu b ∨ (kA T h S been mu q = kA T h S been mu b ∧ kB T h q < kB T h b)
/-- the best of those below k -/
def bsS (T : TT) (h S been mu : Nat) : Nat → Option Nat
  | 0 => none
  | k + 1 => if (mayS T h S been mu).testBit k = true then (match bsS T h S been mu k with
      | none => some k
      | some b => if kA T h S been mu k < kA T h S been mu b ∨ (kA T h S been mu k = kA T h S been mu b ∧ kB T h k < kB T h b) then some k else some b) else bsS T h S been mu k
def nextS (T : TT) (h S been mu : Nat) : Option Nat := bsS T h S been mu 8
def oI : Option Nat → Int32
  | none => -1
  | some q => nI q
theorem bsS_no {T : TT} {h S been mu k : Nat} (hb : ¬ (mayS T h S been mu).testBit k = true) : bsS T h S been mu (k + 1) = bsS T h S been mu k := if_neg hb
theorem bsS_1 {T : TT} {h S been mu k : Nat} (hb : (mayS T h S been mu).testBit k = true) (hn : bsS T h S been mu k = none) : bsS T h S been mu (k + 1) = some k := by
  rw [bsS, if_pos hb, hn]
theorem bsS_2 {T : TT} {h S been mu k b : Nat} (hb : (mayS T h S been mu).testBit k = true) (hn : bsS T h S been mu k = some b) (hl : ltS T h S been mu k b) : bsS T h S been mu (k + 1) = some k := by
  rw [bsS, if_pos hb, hn]
  exact if_pos hl
theorem bsS_3 {T : TT} {h S been mu k b : Nat} (hb : (mayS T h S been mu).testBit k = true) (hn : bsS T h S been mu k = some b) (hl : ¬ ltS T h S been mu k b) : bsS T h S been mu (k + 1) = some b := by
  rw [bsS, if_pos hb, hn]
  exact if_neg hl
theorem bsS_in {T : TT} {h S been mu q : Nat} : ∀ k, bsS T h S been mu k = some q → q < k ∧ (mayS T h S been mu).testBit q = true := by
  intro k
  induction k with
  | zero => intro z; cases z
  | succ k ih =>
    intro z
    by_cases hb : (mayS T h S been mu).testBit k = true
    · cases hn : bsS T h S been mu k with
      | none =>
        rw [bsS_1 hb hn] at z
        cases z
        exact ⟨Nat.lt_succ_self _, hb⟩
      | some b =>
        by_cases hl : ltS T h S been mu k b
        · rw [bsS_2 hb hn hl] at z
          cases z
          exact ⟨Nat.lt_succ_self _, hb⟩
        · rw [bsS_3 hb hn hl] at z
          cases z
          have := ih hn
          exact ⟨Nat.lt_succ_of_lt this.1, this.2⟩
    · rw [bsS_no hb] at z
      have := ih z
      exact ⟨Nat.lt_succ_of_lt this.1, this.2⟩
theorem bsS_top {T : TT} {h S been mu : Nat} : ∀ d, bsS T h S been mu (T 5 0 + d) = bsS T h S been mu (T 5 0) := by
  intro d
  induction d with
  | zero => rfl
  | succ d ih =>
    have : ¬ (mayS T h S been mu).testBit (T 5 0 + d) = true := fun z => by
      have := (mayS_in z).1
      omega
    rw [← Nat.add_assoc, bsS_no this, ih]
theorem nextS_n {T : TT} (hT : TOK T) {h S been mu : Nat} : bsS T h S been mu (T 5 0) = nextS T h S been mu := by
  have h8 : T 5 0 + (8 - T 5 0) = 8 := by have := hT.1; omega
  unfold nextS
  rw [← bsS_top (8 - T 5 0), h8]
theorem nextS_in {T : TT} {h S been mu q : Nat} (z : nextS T h S been mu = some q) : q < T 5 0 ∧ S.testBit q = false ∧ 0 < T 4 (8 * h + q) ∧ been.testBit q = false := mayS_in (bsS_in 8 z).2
theorem bsS_none {T : TT} {h S been mu : Nat} : ∀ k, bsS T h S been mu k = none → ∀ q, q < k → ¬ (mayS T h S been mu).testBit q = true := by
  intro k
  induction k with
  | zero => intro _ q hq; exact absurd hq (Nat.not_lt_zero q)
  | succ k ih =>
    intro z q hq
    by_cases hb : (mayS T h S been mu).testBit k = true
    · cases hn : bsS T h S been mu k with
      | none => rw [bsS_1 hb hn] at z; cases z
      | some b =>
        by_cases hl : ltS T h S been mu k b
        · rw [bsS_2 hb hn hl] at z; cases z
        · rw [bsS_3 hb hn hl] at z; cases z
    · rw [bsS_no hb] at z
      by_cases e : q = k
      · subst e; exact hb
      · exact ih z q (by omega)
/-! ranks: one number for the two keys -/
def rkS (T : TT) (h S been mu q : Nat) : Int32 := if T 0 h = 0 then nI (T 4 (8 * h + q)) else if T 0 h = 1 then -(nI (T 2 q)) else if T 0 h = 2 then nI 61 * nI (cdS (mayS T q (S ||| 2 ^ q) been mu)) + nI (T 4 (8 * h + q)) else if T 0 h = 3 then (-(nI 61)) * nI (cdS (mayS T q (S ||| 2 ^ q) been mu)) + nI (T 4 (8 * h + q)) else nI 0
theorem rk_2 : ∀ r, r < 9 → ∀ m, m < 61 → (nI 61 * nI r + nI m).toInt = 61 * (r : Int) + m := by decide +kernel
theorem rk_3 : ∀ r, r < 9 → ∀ m, m < 61 → ((-(nI 61)) * nI r + nI m).toInt = -61 * (r : Int) + m := by decide +kernel
theorem rk_n : ∀ r, r < 9 → (-(nI r)).toInt = -(r : Int) := by decide +kernel
theorem rkS_lt {T : TT} (hT : TOK T) (h S been mu q b : Nat) : rkS T h S been mu q < rkS T h S been mu b ↔ ltS T h S been mu q b := by
  have hm : ∀ i, T 4 i < 61 := fun i => Nat.lt_succ_of_le (hT.2.2.2.2.2.2.1 i)
  have hr : ∀ S, cdS S < 9 := fun S => Nat.lt_succ_of_le (cdS_le S)
  have irr : ∀ x : Int32, ¬ x < x := fun x z => by rw [Int32.lt_iff_toInt_lt] at z; omega
  unfold ltS rkS kA kB
  by_cases h0 : T 0 h = 0
  · have e2 : ¬ (T 0 h = 2 ∨ T 0 h = 3) := by omega
    simp only [if_pos h0, if_neg e2]
    exact ⟨fun z => Or.inl z, fun z => z.elim id (fun w => absurd w.2 (irr _))⟩
  · by_cases h1 : T 0 h = 1
    · have e2 : ¬ (T 0 h = 2 ∨ T 0 h = 3) := by omega
      simp only [if_neg h0, if_pos h1, if_neg e2]
      exact ⟨fun z => Or.inl z, fun z => z.elim id (fun w => absurd w.2 (irr _))⟩
    · by_cases h2 : T 0 h = 2
      · have e2 : (T 0 h = 2 ∨ T 0 h = 3) := Or.inl h2
        simp only [if_neg h0, if_neg h1, if_pos h2, if_pos e2]
        rw [Int32.lt_iff_toInt_lt, Int32.lt_iff_toInt_lt, Int32.lt_iff_toInt_lt, ← Int32.toInt_inj, rk_2 _ (hr _) _ (hm _), rk_2 _ (hr _) _ (hm _)]
        rw [nI_toInt (Nat.lt_trans (hr _) (by decide)), nI_toInt (Nat.lt_trans (hr _) (by decide)), nI_toInt (Nat.lt_trans (hm _) (by decide)), nI_toInt (Nat.lt_trans (hm _) (by decide))]
        have a1 := hm (8 * h + q)
        have a2 := hm (8 * h + b)
        omega
      · by_cases h3 : T 0 h = 3
        · have e2 : (T 0 h = 2 ∨ T 0 h = 3) := Or.inr h3
          simp only [if_neg h0, if_neg h1, if_neg h2, if_pos h3, if_pos e2]
          rw [Int32.lt_iff_toInt_lt, Int32.lt_iff_toInt_lt, Int32.lt_iff_toInt_lt, ← Int32.toInt_inj, rk_3 _ (hr _) _ (hm _), rk_3 _ (hr _) _ (hm _)]
          rw [rk_n _ (hr _), rk_n _ (hr _), nI_toInt (Nat.lt_trans (hm _) (by decide)), nI_toInt (Nat.lt_trans (hm _) (by decide))]
          have a1 := hm (8 * h + q)
          have a2 := hm (8 * h + b)
          omega
        · have e2 : ¬ (T 0 h = 2 ∨ T 0 h = 3) := by omega
          simp only [if_neg h0, if_neg h1, if_neg h2, if_neg h3, if_neg e2]
          exact ⟨fun z => Or.inl z, fun z => z.elim id (fun w => absurd w.2 (irr _))⟩
/-! the way of a question -/
def goS (T : TT) (been mu : Nat) : Nat → List Nat → Nat → List Nat
  | 0, w, _ => w
  | f + 1, w, p => match nextS T p (mskL (w ++ [p])) been mu with
    | none => w ++ [p]
    | some q => goS T been mu f (w ++ [p]) q
def goO (T : TT) (been mu f : Nat) (w : List Nat) : Option Nat → List Nat
  | none => w
  | some p => goS T been mu f w p
def wkS (T : TT) (first been mu : Nat) : List Nat := goS T been mu 8 [] first
theorem goS_s (T : TT) (been mu f : Nat) (w : List Nat) (p : Nat) : goS T been mu (f + 1) w p = goO T been mu f (w ++ [p]) (nextS T p (mskL (w ++ [p])) been mu) := by
  rw [goS]
  cases nextS T p (mskL (w ++ [p])) been mu <;> rfl
/-- what one says who has heard h (none: the last) -/
def sdS (T : TT) (p : Nat) : Option Nat → Nat
  | none => if T 1 p = 3 then 100 - T 2 p else T 2 p
  | some h => if T 1 p = 0 then Nat.max (T 2 p) h else if T 1 p = 1 then T 2 p else if T 1 p = 2 then h else if T 1 p = 3 then 100 - h else (T 2 p + h) / 2
theorem sdS_n (T : TT) (p : Nat) : sdS T p none = if T 1 p = 3 then 100 - T 2 p else T 2 p := rfl
theorem sdS_h (T : TT) (p h : Nat) : sdS T p (some h) = if T 1 p = 0 then Nat.max (T 2 p) h else if T 1 p = 1 then T 2 p else if T 1 p = 2 then h else if T 1 p = 3 then 100 - h else (T 2 p + h) / 2 := rfl
theorem sdS_le {T : TT} (hT : TOK T) (p : Nat) {o : Option Nat} (ho : ∀ h, o = some h → h ≤ 100) : sdS T p o ≤ 100 := by
  have hk := hT.2.2.2.2.1 p
  cases o with
  | none => rw [sdS_n]; split <;> omega
  | some h =>
    have := ho h rfl
    rw [sdS_h]
    split
    · exact Nat.max_le.mpr ⟨hk, this⟩
    · split
      · exact hk
      · split
        · exact this
        · split <;> omega
def rtS (T : TT) : List Nat → Option Nat
  | [] => none
  | p :: r => some (sdS T p (rtS T r))
theorem rtS_le {T : TT} (hT : TOK T) : ∀ w h, rtS T w = some h → h ≤ 100 := by
  intro w
  induction w with
  | nil => intro h z; cases z
  | cons p r ih => intro h z; cases z; exact sdS_le hT p (fun h z => ih h z)
def rgS (T : TT) (w : List Nat) : Nat := (rtS T w).getD 0
theorem rgS_le {T : TT} (hT : TOK T) (w : List Nat) : rgS T w ≤ 100 := by
  unfold rgS
  cases h : rtS T w with
  | none => decide
  | some v => exact rtS_le hT w v h
/-- minutes of the way's first i -/
def lgS (T : TT) (w : List Nat) : Nat → Nat
  | 0 => 0
  | i + 1 => if i = 0 then 0 else lgS T w i + T 4 (8 * w.getD (i - 1) 0 + w.getD i 0)
def tmS (T : TT) (w : List Nat) : Nat := 2 * lgS T w w.length
theorem lgS_le {T : TT} (hT : TOK T) (w : List Nat) : ∀ i, lgS T w i ≤ 60 * i := by
  intro i
  induction i with
  | zero => exact Nat.le_refl 0
  | succ i ih =>
    unfold lgS
    split
    · omega
    · have := hT.2.2.2.2.2.2.1 (8 * w.getD (i - 1) 0 + w.getD i 0)
      omega
theorem tmS_le {T : TT} (hT : TOK T) {w : List Nat} (hw : w.length ≤ 8) : tmS T w ≤ 960 := by
  have := lgS_le hT w w.length
  unfold tmS
  omega
theorem drop_at {w : List Nat} {i : Nat} (h : i < w.length) : w.drop i = w.getD i 0 :: w.drop (i + 1) := by
  rw [List.drop_eq_getElem_cons h]
  simp [List.getD_eq_getElem?_getD, h]
/-! a way's persons: different, there, so many -/
def okP (T : TT) (w : List Nat) : Prop := (∀ q ∈ w, q < T 5 0) ∧ w.Nodup
theorem cd_len {w : List Nat} (h8 : ∀ q ∈ w, q < 8) (hn : w.Nodup) : cdS (mskL w) = w.length := by
  have : ∀ r : List Nat, (∀ q ∈ r.reverse, q < 8) → r.reverse.Nodup → cdS (mskL r.reverse) = r.reverse.length := by
    intro r
    induction r with
    | nil => intro _ _; rfl
    | cons p r ih =>
      intro h8 hn
      rw [List.reverse_cons] at h8 hn ⊢
      have h1 : ∀ q ∈ r.reverse, q < 8 := fun q hq => h8 q (List.mem_append_left _ hq)
      have h2 : r.reverse.Nodup := (List.nodup_append.mp hn).1
      have h3 : p ∉ r.reverse := fun z => (List.nodup_append.mp hn).2.2 p z p (List.mem_singleton.mpr rfl) rfl
      have hp : p < 8 := h8 p (List.mem_append_right _ (List.mem_singleton.mpr rfl))
      rw [mskL_snoc, cdS_add _ (mskL_lt _ h1) p hp (by rw [mskL_bit]; exact decide_eq_false h3), ih h1 h2, List.length_append, List.length_singleton]
  have h := this w.reverse
  rw [List.reverse_reverse] at h
  exact h h8 hn
theorem len_le8 {w : List Nat} (h8 : ∀ q ∈ w, q < 8) (hn : w.Nodup) : w.length ≤ 8 := by rw [← cd_len h8 hn]; exact cdS_le _
theorem okP_8 {T : TT} (hT : TOK T) {w : List Nat} (h : okP T w) : ∀ q ∈ w, q < 8 := fun q hq => Nat.lt_of_lt_of_le (h.1 q hq) hT.1
theorem okP_snoc {T : TT} {w : List Nat} {p : Nat} (h : okP T w) (hp : p < T 5 0) (hn : p ∉ w) : okP T (w ++ [p]) := by
  refine ⟨fun q hq => ?_, ?_⟩
  · rcases List.mem_append.mp hq with z | z
    · exact h.1 q z
    · rw [List.mem_singleton.mp z]; exact hp
  · refine List.nodup_append.mpr ⟨h.2, List.nodup_cons.mpr ⟨List.not_mem_nil, List.nodup_nil⟩, fun a ha b hb z => ?_⟩
    rw [List.mem_singleton.mp hb] at z
    subst z
    exact hn ha
theorem next_out {T : TT} {w : List Nat} {h been mu q : Nat} (z : nextS T h (mskL w) been mu = some q) : q < T 5 0 ∧ q ∉ w := by
  have := nextS_in z
  refine ⟨this.1, fun hq => ?_⟩
  have h2 := this.2.1
  rw [mskL_bit, decide_eq_true hq] at h2
  cases h2
