/-! SPEC: reading, letter by letter. A state of the reading: (the place, 0 or 1 stuck) -/
def oneS (G : Nat → Nat) (sl : Nat) (l : List Nat) (σ : Nat × Nat) : Option Nat := if σ.2 = 0 ∧ σ.1 < sl then ixS l (G σ.1) else none
def oneT (G : Nat → Nat) (sl : Nat) (l : List Nat) (σ : Nat × Nat) : Nat × Nat := match oneS G sl l σ with
  | none => (σ.1, 1)
  | some _ => (σ.1 + 1, 0)
section RD1
variable {G : Nat → Nat} {sl : Nat} {l : List Nat} {σ : Nat × Nat}
theorem oneT_n (h : oneS G sl l σ = none) : oneT G sl l σ = (σ.1, 1) := by rw [oneT, h]
theorem oneT_s {q : Nat} (h : oneS G sl l σ = some q) : oneT G sl l σ = (σ.1 + 1, 0) := by rw [oneT, h]
theorem oneS_in {q : Nat} (h : oneS G sl l σ = some q) : σ.2 = 0 ∧ σ.1 < sl ∧ ixS l (G σ.1) = some q := by
  unfold oneS at h
  by_cases c : σ.2 = 0 ∧ σ.1 < sl
  · rw [if_pos c] at h; exact ⟨c.1, c.2, h⟩
  · rw [if_neg c] at h; cases h
theorem oneS_lt {q : Nat} (h : oneS G sl l σ = some q) : q < l.length := (ixS_lt (oneS_in h).2.2).1
theorem oneT_0 (h : (oneT G sl l σ).2 = 0) : σ.2 = 0 ∧ σ.1 < sl ∧ (oneT G sl l σ).1 = σ.1 + 1 ∧ ∃ q, oneS G sl l σ = some q := by
  cases e : oneS G sl l σ with
  | none => rw [oneT_n e] at h; exact absurd h Nat.one_ne_zero
  | some q => have := oneS_in e; exact ⟨this.1, this.2.1, by rw [oneT_s e], q, rfl⟩
theorem oneT_b : (oneT G sl l σ).2 = 0 ∨ (oneT G sl l σ).2 = 1 := by
  cases e : oneS G sl l σ with
  | none => rw [oneT_n e]; exact Or.inr rfl
  | some q => rw [oneT_s e]; exact Or.inl rfl
theorem oneT_ge : σ.1 ≤ (oneT G sl l σ).1 := by
  cases e : oneS G sl l σ with
  | none => rw [oneT_n e]; exact Nat.le_refl _
  | some q => rw [oneT_s e]; exact Nat.le_succ _
theorem oneT_le (h : σ.1 ≤ sl) : (oneT G sl l σ).1 ≤ sl := by
  cases e : oneS G sl l σ with
  | none => rw [oneT_n e]; exact h
  | some q => rw [oneT_s e]; exact (oneS_in e).2.1
theorem oneS_k (h : σ.2 = 1) : oneS G sl l σ = none := if_neg (fun z => by rw [h] at z; exact absurd z.1 (by decide))
theorem oneT_k (h : σ.2 = 1) : oneT G sl l σ = σ := by rw [oneT_n (oneS_k h), ← h]
end RD1
/-- digits: how many of at most k, the number that they tell -/
def numK (G : Nat → Nat) (sl : Nat) (σ : Nat × Nat) : Nat → Nat × Nat
  | 0 => (0, 0)
  | k + 1 => if (numK G sl σ k).1 = k then (match oneS G sl (strN 5) (σ.1 + k, σ.2) with
    | none => numK G sl σ k
    | some d => (k + 1, 10 * (numK G sl σ k).2 + d)) else numK G sl σ k
def numT (G : Nat → Nat) (sl m : Nat) (σ : Nat × Nat) : Nat × Nat := if (numK G sl σ m).1 = 0 then (σ.1, 1) else (σ.1 + (numK G sl σ m).1, 0)
def numV (G : Nat → Nat) (sl m : Nat) (σ : Nat × Nat) : Nat := (numK G sl σ m).2
def numI (G : Nat → Nat) (sl m : Nat) (σ : Nat × Nat) : Int32 := if (numK G sl σ m).1 = 0 then -1 else nI (numK G sl σ m).2
section RD2
variable {G : Nat → Nat} {sl : Nat} {σ : Nat × Nat}
theorem numK_y {k d : Nat} (hk : (numK G sl σ k).1 = k) (h : oneS G sl (strN 5) (σ.1 + k, σ.2) = some d) : numK G sl σ (k + 1) = (k + 1, 10 * (numK G sl σ k).2 + d) := by rw [numK, if_pos hk, h]
theorem numK_n {k : Nat} (h : (numK G sl σ k).1 ≠ k ∨ oneS G sl (strN 5) (σ.1 + k, σ.2) = none) : numK G sl σ (k + 1) = numK G sl σ k := by
  rw [numK]
  by_cases hk : (numK G sl σ k).1 = k
  · rw [if_pos hk, h.resolve_left (fun z => z hk)]
  · rw [if_neg hk]
theorem numK_c (k : Nat) : ((numK G sl σ k).1 = k ∧ ∃ d, oneS G sl (strN 5) (σ.1 + k, σ.2) = some d) ∨ ((numK G sl σ k).1 ≠ k ∨ oneS G sl (strN 5) (σ.1 + k, σ.2) = none) := by
  by_cases hk : (numK G sl σ k).1 = k
  · cases e : oneS G sl (strN 5) (σ.1 + k, σ.2) with
    | none => exact Or.inr (Or.inr rfl)
    | some d => exact Or.inl ⟨hk, d, rfl⟩
  · exact Or.inr (Or.inl hk)
theorem numK_le : ∀ k, (numK G sl σ k).1 ≤ k := by
  intro k
  induction k with
  | zero => exact Nat.le_refl 0
  | succ k ih =>
    rcases numK_c (G := G) (sl := sl) (σ := σ) k with ⟨h1, d, h2⟩ | h
    · rw [numK_y h1 h2]; exact Nat.le_refl _
    · rw [numK_n h]; omega
theorem numK_v : ∀ k, (numK G sl σ k).2 < 10 ^ k := by
  intro k
  induction k with
  | zero => show 0 < 10 ^ 0; decide
  | succ k ih =>
    have e : 10 ^ (k + 1) = 10 * 10 ^ k := by rw [Nat.pow_succ, Nat.mul_comm]
    rcases numK_c (G := G) (sl := sl) (σ := σ) k with ⟨h1, d, h2⟩ | h
    · rw [numK_y h1 h2, e]
      have h10 : d < 10 := oneS_lt h2
      show 10 * (numK G sl σ k).2 + d < 10 * 10 ^ k
      omega
    · rw [numK_n h, e]; omega
theorem numK_ok : ∀ k, (numK G sl σ k).1 ≠ 0 → σ.2 = 0 ∧ σ.1 + (numK G sl σ k).1 ≤ sl := by
  intro k
  induction k with
  | zero => intro h; exact absurd rfl h
  | succ k ih =>
    rcases numK_c (G := G) (sl := sl) (σ := σ) k with ⟨h1, d, h2⟩ | h
    · rw [numK_y h1 h2]
      intro _
      have := oneS_in h2
      exact ⟨this.1, this.2.1⟩
    · rw [numK_n h]; exact ih
theorem numK_stop {k : Nat} (h : (numK G sl σ k).1 ≠ k ∨ oneS G sl (strN 5) (σ.1 + k, σ.2) = none) : ∀ d, numK G sl σ (k + d) = numK G sl σ k := by
  intro d
  induction d with
  | zero => rfl
  | succ d ih =>
    show numK G sl σ (k + d + 1) = _
    have hl := numK_le (G := G) (sl := sl) (σ := σ) k
    rcases Nat.eq_zero_or_pos d with z | z
    · subst z; exact numK_n h
    · rw [numK_n (k := k + d) (Or.inl (by rw [ih]; omega)), ih]
theorem numT_z {m : Nat} (h : (numK G sl σ m).1 = 0) : numT G sl m σ = (σ.1, 1) := if_pos h
theorem numT_p {m : Nat} (h : (numK G sl σ m).1 ≠ 0) : numT G sl m σ = (σ.1 + (numK G sl σ m).1, 0) := if_neg h
theorem numI_p {m : Nat} (h : (numK G sl σ m).1 ≠ 0) : numI G sl m σ = nI (numV G sl m σ) := if_neg h
theorem numI_z {m : Nat} (h : (numK G sl σ m).1 = 0) : numI G sl m σ = -1 := if_pos h
theorem numT_0 {m : Nat} (h : (numT G sl m σ).2 = 0) : σ.2 = 0 ∧ (numK G sl σ m).1 ≠ 0 ∧ numI G sl m σ = nI (numV G sl m σ) := by
  by_cases z : (numK G sl σ m).1 = 0
  · rw [numT_z z] at h; exact absurd h Nat.one_ne_zero
  · exact ⟨(numK_ok m z).1, z, numI_p z⟩
theorem numT_ge {m : Nat} : σ.1 ≤ (numT G sl m σ).1 := by
  by_cases z : (numK G sl σ m).1 = 0
  · rw [numT_z z]; exact Nat.le_refl _
  · rw [numT_p z]; exact Nat.le_add_right _ _
theorem numT_le {m : Nat} (h : σ.1 ≤ sl) : (numT G sl m σ).1 ≤ sl := by
  by_cases z : (numK G sl σ m).1 = 0
  · rw [numT_z z]; exact h
  · rw [numT_p z]; exact (numK_ok m z).2
theorem numK_k (h : σ.2 = 1) : ∀ k, numK G sl σ k = (0, 0) := by
  intro k
  induction k with
  | zero => rfl
  | succ k ih => rw [numK_n (Or.inr (oneS_k h)), ih]
theorem numT_k {m : Nat} (h : σ.2 = 1) : numT G sl m σ = σ := by rw [numT_z (by rw [numK_k h]), ← h]
theorem num_1 : oneT G sl (strN 5) σ = numT G sl 1 σ := by
  cases e : oneS G sl (strN 5) σ with
  | none =>
    have h : numK G sl σ 1 = numK G sl σ 0 := numK_n (k := 0) (Or.inr e)
    rw [oneT_n e, numT_z (by rw [h]; rfl)]
  | some d =>
    have h : numK G sl σ 1 = (0 + 1, 10 * (numK G sl σ 0).2 + d) := numK_y (k := 0) rfl e
    rw [oneT_s e, numT_p (by rw [h]; exact Nat.one_ne_zero), h]; first | done | rfl
theorem num_1i : oI (oneS G sl (strN 5) σ) = numI G sl 1 σ := by
  cases e : oneS G sl (strN 5) σ with
  | none =>
    have h : numK G sl σ 1 = numK G sl σ 0 := numK_n (k := 0) (Or.inr e)
    rw [numI_z (by rw [h]; rfl)]; rfl
  | some d =>
    have h : numK G sl σ 1 = (0 + 1, 10 * (numK G sl σ 0).2 + d) := numK_y (k := 0) rfl e
    rw [numI_p (by rw [h]; exact Nat.one_ne_zero), numV, h]
    show nI d = nI (10 * 0 + d)
    rw [Nat.mul_zero, Nat.zero_add]
theorem num_1c : (numK G sl σ 1).1 = 1 ∨ (numK G sl σ 1).1 = 0 := by have := numK_le (G := G) (sl := sl) (σ := σ) 1; omega
/-- the count stands: no digit more -/
theorem num_end {i m : Nat} (h1 : 1 ≤ i) (him : i ≤ m) (hn : oneS G sl (strN 5) (numT G sl i σ) = none) : numK G sl σ m = numK G sl σ i := by
  have hs : (numK G sl σ i).1 ≠ i ∨ oneS G sl (strN 5) (σ.1 + i, σ.2) = none := by
    by_cases hc : (numK G sl σ i).1 = i
    · have h0 : (numK G sl σ i).1 ≠ 0 := by omega
      rw [numT_p h0, hc, ← (numK_ok i h0).1] at hn
      exact Or.inr hn
    · exact Or.inl hc
  have := numK_stop hs (m - i)
  rwa [show i + (m - i) = m by omega] at this
theorem num_go {i d : Nat} (hc : (numK G sl σ i).1 = i ∨ (numK G sl σ i).1 = 0) (hs : oneS G sl (strN 5) (numT G sl i σ) = some d) : oneT G sl (strN 5) (numT G sl i σ) = numT G sl (i + 1) σ ∧ numI G sl i σ = nI (numV G sl i σ) ∧ numI G sl (i + 1) σ = nI (numV G sl i σ * 10 + d) ∧ (numK G sl σ (i + 1)).1 = i + 1 := by
  have h0 : (numK G sl σ i).1 ≠ 0 := (numT_0 (oneS_in hs).1).2.1
  have hi : (numK G sl σ i).1 = i := hc.resolve_right h0
  have e := numT_p h0
  rw [hi] at e
  have hs2 : oneS G sl (strN 5) (σ.1 + i, σ.2) = some d := by rw [(numK_ok i h0).1, ← e]; exact hs
  have hk := numK_y hi hs2
  have h1 : (numK G sl σ (i + 1)).1 ≠ 0 := by rw [hk]; exact Nat.succ_ne_zero _
  refine ⟨?_, numI_p h0, ?_, by rw [hk]⟩
  · rw [oneT_s hs, numT_p h1, hk, e]; first | done | rfl
  · rw [numI_p h1, numV, numV, hk]
    show nI (10 * _ + d) = _
    rw [Nat.mul_comm]
theorem dig_y : ∀ c, c < 256 → 48 ≤ c → c ≤ 57 → ixS (strN 5) c = some (c - 48) := by decide +kernel
theorem dig_n : ∀ c, c < 256 → (c < 48 ∨ 57 < c) → ixS (strN 5) c = none := by decide +kernel
end RD2
/-! a statement -/
abbrev perT (G : Nat → Nat) (sl : Nat) (σ : Nat × Nat) : Nat × Nat := oneT G sl (strN 4) (numT G sl 1 (oneT G sl (strN 3) (numT G sl 3 (oneT G sl (strN 2) (oneT G sl (strN 1) σ)))))
abbrev minT (G : Nat → Nat) (sl : Nat) (σ : Nat × Nat) : Nat × Nat := oneT G sl (strN 4) (numT G sl 2 (oneT G sl (strN 3) (numT G sl 1 (numT G sl 1 σ))))
abbrev lawT (G : Nat → Nat) (sl : Nat) (σ : Nat × Nat) : Nat × Nat := oneT G sl (strN 4) (numT G sl 1 σ)
abbrev perA (G : Nat → Nat) (sl : Nat) (σ : Nat × Nat) : Nat := (oneS G sl (strN 1) σ).getD 0
abbrev perS (G : Nat → Nat) (sl : Nat) (σ : Nat × Nat) : Nat := (oneS G sl (strN 2) (oneT G sl (strN 1) σ)).getD 0
abbrev perK (G : Nat → Nat) (sl : Nat) (σ : Nat × Nat) : Nat := numV G sl 3 (oneT G sl (strN 2) (oneT G sl (strN 1) σ))
abbrev perI (G : Nat → Nat) (sl : Nat) (σ : Nat × Nat) : Nat := numV G sl 1 (oneT G sl (strN 3) (numT G sl 3 (oneT G sl (strN 2) (oneT G sl (strN 1) σ))))
abbrev minA (G : Nat → Nat) (sl : Nat) (σ : Nat × Nat) : Nat := numV G sl 1 σ
abbrev minB (G : Nat → Nat) (sl : Nat) (σ : Nat × Nat) : Nat := numV G sl 1 (numT G sl 1 σ)
abbrev minM (G : Nat → Nat) (sl : Nat) (σ : Nat × Nat) : Nat := numV G sl 2 (oneT G sl (strN 3) (numT G sl 1 (numT G sl 1 σ)))
def srS (G : Nat → Nat) (sl : Nat) (σ : Nat × Nat) : Nat := (oneS G sl (strN 0) σ).getD 0
/-- the kind's own part, from behind its letter on -/
def stT (G : Nat → Nat) (sl s : Nat) (σ : Nat × Nat) : Nat × Nat := if s = 0 then perT G sl σ else if s = 3 then lawT G sl σ else minT G sl σ
def stF (G : Nat → Nat) (sl s : Nat) (σ : Nat × Nat) (F : Nat → Nat) : Nat → Nat := if s = 0 then upN (upN (upN (upN F 0 (perA G sl σ)) 1 (perS G sl σ)) 2 (perK G sl σ)) 3 (perI G sl σ) else if s = 3 then upN F 0 (numV G sl 1 σ) else upN (upN (upN F 0 (minA G sl σ)) 1 (minB G sl σ)) 2 (minM G sl σ)
def srT (G : Nat → Nat) (sl : Nat) (σ : Nat × Nat) : Nat × Nat := stT G sl (srS G sl σ) (oneT G sl (strN 0) σ)
def srF (G : Nat → Nat) (sl : Nat) (σ : Nat × Nat) (F : Nat → Nat) : Nat → Nat := stF G sl (srS G sl σ) (oneT G sl (strN 0) σ) F
def fitF (n s : Nat) (F : Nat → Nat) : Prop := (s = 0 ∧ F 2 ≤ 100 ∧ n < 8) ∨ (s = 3 ∧ F 0 ≤ 4) ∨ (s ≠ 0 ∧ s ≠ 3 ∧ F 0 < n ∧ F 1 < n ∧ F 0 ≠ F 1 ∧ 1 ≤ F 2 ∧ F 2 ≤ 60)
abbrev fitD (n s : Nat) (F : Nat → Nat) : Prop := (s = 0 ∧ F 2 ≤ 100 ∧ n < 8) ∨ (s = 3 ∧ F 0 ≤ 4) ∨ (s ≠ 0 ∧ s ≠ 3 ∧ F 0 < n ∧ F 1 < n ∧ F 0 ≠ F 1 ∧ 1 ≤ F 2 ∧ F 2 ≤ 60)
def apF (T : TT) (s : Nat) (F : Nat → Nat) : TT := if s = 0 then addP T (F 0) (F 1) (F 2) (F 3) else if s = 3 then up2 T 5 1 (F 0) else if s = 2 then up2 (up2 T 4 (8 * F 0 + F 1) (F 2)) 4 (8 * F 1 + F 0) (F 2) else up2 T 4 (8 * F 0 + F 1) (F 2)
section RD3
variable {G : Nat → Nat} {sl : Nat} {σ : Nat × Nat}
theorem upN_3 (F : Nat → Nat) (a b c d : Nat) : upN (upN (upN (upN F 0 a) 1 b) 2 c) 3 d 0 = a ∧ upN (upN (upN (upN F 0 a) 1 b) 2 c) 3 d 1 = b ∧ upN (upN (upN (upN F 0 a) 1 b) 2 c) 3 d 2 = c ∧ upN (upN (upN (upN F 0 a) 1 b) 2 c) 3 d 3 = d := ⟨rfl, rfl, rfl, rfl⟩
theorem upN_2 (F : Nat → Nat) (a b c : Nat) : upN (upN (upN F 0 a) 1 b) 2 c 0 = a ∧ upN (upN (upN F 0 a) 1 b) 2 c 1 = b ∧ upN (upN (upN F 0 a) 1 b) 2 c 2 = c := ⟨rfl, rfl, rfl⟩
theorem upN_0 (F : Nat → Nat) (a : Nat) : upN F 0 a 0 = a := rfl
/-- what was in the fields before counts for nothing -/
theorem fit_F (n s : Nat) (F F2 : Nat → Nat) : fitD n s (stF G sl s σ F) ↔ fitD n s (stF G sl s σ F2) := by
  unfold stF
  by_cases h0 : s = 0
  · simp only [if_pos h0]; exact Iff.rfl
  · by_cases h3 : s = 3
    · simp only [if_neg h0, if_pos h3]
      constructor
      · rintro (z | z | z)
        · exact absurd z.1 h0
        · exact Or.inr (Or.inl z)
        · exact absurd h3 z.2.1
      · rintro (z | z | z)
        · exact absurd z.1 h0
        · exact Or.inr (Or.inl z)
        · exact absurd h3 z.2.1
    · simp only [if_neg h0, if_neg h3]
      constructor
      · rintro (z | z | z)
        · exact absurd z.1 h0
        · exact absurd z.1 h3
        · exact Or.inr (Or.inr z)
      · rintro (z | z | z)
        · exact absurd z.1 h0
        · exact absurd z.1 h3
        · exact Or.inr (Or.inr z)
theorem ap_F (T : TT) (s : Nat) (F F2 : Nat → Nat) : apF T s (stF G sl s σ F) = apF T s (stF G sl s σ F2) := by
  unfold stF apF
  by_cases h0 : s = 0
  · simp only [if_pos h0] <;> rfl
  · by_cases h3 : s = 3
    · simp only [if_neg h0, if_pos h3] <;> rfl
    · simp only [if_neg h0, if_neg h3] <;> rfl
/-- it went well -/
theorem per_0 (h : (perT G sl σ).2 = 0) : σ.2 = 0 ∧ (∃ a, oneS G sl (strN 1) σ = some a) ∧ (∃ s, oneS G sl (strN 2) (oneT G sl (strN 1) σ) = some s) ∧ numI G sl 3 (oneT G sl (strN 2) (oneT G sl (strN 1) σ)) = nI (perK G sl σ) ∧ numI G sl 1 (oneT G sl (strN 3) (numT G sl 3 (oneT G sl (strN 2) (oneT G sl (strN 1) σ)))) = nI (perI G sl σ) ∧ σ.1 ≤ (perT G sl σ).1 ∧ (perT G sl σ).1 ≤ sl := by
  have e6 := oneT_0 h
  have e5 := numT_0 e6.1
  have e4 := oneT_0 e5.1
  have e3 := numT_0 e4.1
  have e2 := oneT_0 e3.1
  have e1 := oneT_0 e2.1
  refine ⟨e1.1, e1.2.2.2, e2.2.2.2, e3.2.2, e5.2.2, ?_, Nat.le_trans (Nat.le_of_eq e6.2.2.1) e6.2.1⟩
  exact Nat.le_trans oneT_ge (Nat.le_trans oneT_ge (Nat.le_trans numT_ge (Nat.le_trans oneT_ge (Nat.le_trans numT_ge oneT_ge))))
theorem min_0 (h : (minT G sl σ).2 = 0) : σ.2 = 0 ∧ numI G sl 1 σ = nI (minA G sl σ) ∧ numI G sl 1 (numT G sl 1 σ) = nI (minB G sl σ) ∧ numI G sl 2 (oneT G sl (strN 3) (numT G sl 1 (numT G sl 1 σ))) = nI (minM G sl σ) ∧ σ.1 ≤ (minT G sl σ).1 ∧ (minT G sl σ).1 ≤ sl := by
  have e5 := oneT_0 h
  have e4 := numT_0 e5.1
  have e3 := oneT_0 e4.1
  have e2 := numT_0 e3.1
  have e1 := numT_0 e2.1
  refine ⟨e1.1, e1.2.2, e2.2.2, e4.2.2, ?_, Nat.le_trans (Nat.le_of_eq e5.2.2.1) e5.2.1⟩
  exact Nat.le_trans numT_ge (Nat.le_trans numT_ge (Nat.le_trans oneT_ge (Nat.le_trans numT_ge oneT_ge)))
theorem law_0 (h : (lawT G sl σ).2 = 0) : σ.2 = 0 ∧ numI G sl 1 σ = nI (numV G sl 1 σ) ∧ σ.1 ≤ (lawT G sl σ).1 ∧ (lawT G sl σ).1 ≤ sl := by
  have e2 := oneT_0 h
  have e1 := numT_0 e2.1
  exact ⟨e1.1, e1.2.2, Nat.le_trans numT_ge oneT_ge, Nat.le_trans (Nat.le_of_eq e2.2.2.1) e2.2.1⟩
theorem stT_0 {s : Nat} (h : (stT G sl s σ).2 = 0) : σ.2 = 0 ∧ σ.1 ≤ (stT G sl s σ).1 ∧ (stT G sl s σ).1 ≤ sl := by
  unfold stT at h ⊢
  by_cases h0 : s = 0
  · rw [if_pos h0] at h ⊢; have := per_0 h; exact ⟨this.1, this.2.2.2.2.2⟩
  · by_cases h3 : s = 3
    · rw [if_neg h0, if_pos h3] at h ⊢; have := law_0 h; exact ⟨this.1, this.2.2⟩
    · rw [if_neg h0, if_neg h3] at h ⊢; have := min_0 h; exact ⟨this.1, this.2.2.2.2⟩
theorem stT_b {s : Nat} : (stT G sl s σ).2 = 0 ∨ (stT G sl s σ).2 = 1 := by
  unfold stT
  split
  · exact oneT_b
  · split <;> exact oneT_b
theorem stT_le {s : Nat} (h : σ.1 ≤ sl) : (stT G sl s σ).1 ≤ sl := by
  unfold stT
  split
  · exact oneT_le (numT_le (oneT_le (numT_le (oneT_le (oneT_le h)))))
  · split
    · exact oneT_le (numT_le h)
    · exact oneT_le (numT_le (oneT_le (numT_le (numT_le h))))
theorem perT_k (h : σ.2 = 1) : perT G sl σ = σ := by unfold perT; rw [oneT_k h, oneT_k h, numT_k h, oneT_k h, numT_k h, oneT_k h]
theorem srT_0 {p : Nat} (h : (srT G sl (p, 0)).2 = 0) : p + 1 ≤ (srT G sl (p, 0)).1 ∧ (srT G sl (p, 0)).1 ≤ sl ∧ p < sl := by
  unfold srT at h ⊢
  have h1 := stT_0 h
  have h2 := oneT_0 h1.1
  rw [h2.2.2.1] at h1
  exact ⟨h1.2.1, h1.2.2, h2.2.1⟩
theorem srT_b {p : Nat} : (srT G sl (p, 0)).2 = 0 ∨ (srT G sl (p, 0)).2 = 1 := stT_b
theorem srT_le {p : Nat} (h : p ≤ sl) : (srT G sl (p, 0)).1 ≤ sl := stT_le (oneT_le h)
theorem srS_le (σ : Nat × Nat) : srS G sl σ ≤ 3 := by
  unfold srS
  cases e : oneS G sl (strN 0) σ with
  | none => exact Nat.zero_le _
  | some q => have : q < 4 := oneS_lt e; show q ≤ 3; omega
end RD3
/-! all statements: as the class goes, and as the reference goes -/
abbrev Z0F : Nat → Nat := fun _ => 0
abbrev srW (G : Nat → Nat) (sl : Nat) (T : TT) (p : Nat) : Prop := (srT G sl (p, 0)).2 = 0 ∧ fitD (T 5 0) (srS G sl (p, 0)) (srF G sl (p, 0) Z0F)
def apC (G : Nat → Nat) (sl : Nat) (T : TT) (p : Nat) : TT := if srW G sl T p then apF T (srS G sl (p, 0)) (srF G sl (p, 0) Z0F) else T
def unC (G : Nat → Nat) (sl : Nat) (T : TT) (p : Nat) (u : Option Nat) : Option Nat := if u = none ∧ ¬ srW G sl T p then some p else u
def rdC (G : Nat → Nat) (sl : Nat) : Nat → TT → Nat → Option Nat → Nat → (Nat × Nat) × Option Nat × Nat × TT
  | 0, T, p, u, n => ((p, 1), u, n, T)
  | f + 1, T, p, u, n => if (srT G sl (p, 0)).2 = 0 ∧ (srT G sl (p, 0)).1 < sl then rdC G sl f (apC G sl T p) (srT G sl (p, 0)).1 (unC G sl T p u) (n + 1) else (srT G sl (p, 0), unC G sl T p u, n + 1, apC G sl T p)
def rd1 (G : Nat → Nat) (sl : Nat) : Nat → Nat → (Nat × Nat) × Nat
  | 0, p => ((p, 1), 0)
  | f + 1, p => if (srT G sl (p, 0)).2 = 0 ∧ (srT G sl (p, 0)).1 < sl then ((rd1 G sl f (srT G sl (p, 0)).1).1, (rd1 G sl f (srT G sl (p, 0)).1).2 + 1) else (srT G sl (p, 0), 1)
def rd2 (G : Nat → Nat) (sl : Nat) : Nat → Nat → Nat → Option Nat
  | 0, _, _ => none
  | f + 1, p, n => if p < sl then (if fitD n (srS G sl (p, 0)) (srF G sl (p, 0) Z0F) then rd2 G sl f (srT G sl (p, 0)).1 (n + bN (srS G sl (p, 0) = 0)) else some p) else none
def rd3 (G : Nat → Nat) (sl : Nat) : Nat → Nat → TT → TT
  | 0, _, T => T
  | f + 1, p, T => if p < sl then rd3 G sl f (srT G sl (p, 0)).1 (apF T (srS G sl (p, 0)) (srF G sl (p, 0) Z0F)) else T
section RD4
variable {G : Nat → Nat} {sl : Nat}
theorem rdC_g {f p n : Nat} {T : TT} {u : Option Nat} (h : (srT G sl (p, 0)).2 = 0 ∧ (srT G sl (p, 0)).1 < sl) : rdC G sl (f + 1) T p u n = rdC G sl f (apC G sl T p) (srT G sl (p, 0)).1 (unC G sl T p u) (n + 1) := by rw [rdC, if_pos h]
theorem rdC_e {f p n : Nat} {T : TT} {u : Option Nat} (h : ¬ ((srT G sl (p, 0)).2 = 0 ∧ (srT G sl (p, 0)).1 < sl)) : rdC G sl (f + 1) T p u n = (srT G sl (p, 0), unC G sl T p u, n + 1, apC G sl T p) := by rw [rdC, if_neg h]
theorem rd1_g {f p : Nat} (h : (srT G sl (p, 0)).2 = 0 ∧ (srT G sl (p, 0)).1 < sl) : rd1 G sl (f + 1) p = ((rd1 G sl f (srT G sl (p, 0)).1).1, (rd1 G sl f (srT G sl (p, 0)).1).2 + 1) := by rw [rd1, if_pos h]
theorem rd1_e {f p : Nat} (h : ¬ ((srT G sl (p, 0)).2 = 0 ∧ (srT G sl (p, 0)).1 < sl)) : rd1 G sl (f + 1) p = (srT G sl (p, 0), 1) := by rw [rd1, if_neg h]
theorem rd2_y {f p n : Nat} (hp : p < sl) (h : fitD n (srS G sl (p, 0)) (srF G sl (p, 0) Z0F)) : rd2 G sl (f + 1) p n = rd2 G sl f (srT G sl (p, 0)).1 (n + bN (srS G sl (p, 0) = 0)) := by rw [rd2, if_pos hp, if_pos h]
theorem rd2_n {f p n : Nat} (hp : p < sl) (h : ¬ fitD n (srS G sl (p, 0)) (srF G sl (p, 0) Z0F)) : rd2 G sl (f + 1) p n = some p := by rw [rd2, if_pos hp, if_neg h]
theorem rd2_e {f p n : Nat} (hp : ¬ p < sl) : rd2 G sl f p n = none := by
  cases f with
  | zero => rfl
  | succ f => rw [rd2, if_neg hp]
theorem rd3_y {f p : Nat} {T : TT} (hp : p < sl) : rd3 G sl (f + 1) p T = rd3 G sl f (srT G sl (p, 0)).1 (apF T (srS G sl (p, 0)) (srF G sl (p, 0) Z0F)) := by rw [rd3, if_pos hp]
theorem rd3_e {f p : Nat} {T : TT} (hp : ¬ p < sl) : rd3 G sl f p T = T := by
  cases f with
  | zero => rfl
  | succ f => rw [rd3, if_neg hp]
theorem rd_12 : ∀ f T p u n, (rdC G sl f T p u n).1 = (rd1 G sl f p).1 ∧ (rdC G sl f T p u n).2.2.1 = n + (rd1 G sl f p).2 := by
  intro f
  induction f with
  | zero => intro T p u n; exact ⟨rfl, rfl⟩
  | succ f ih =>
    intro T p u n
    by_cases h : (srT G sl (p, 0)).2 = 0 ∧ (srT G sl (p, 0)).1 < sl
    · rw [rdC_g h, rd1_g h]
      obtain ⟨a, b⟩ := ih (apC G sl T p) (srT G sl (p, 0)).1 (unC G sl T p u) (n + 1)
      exact ⟨a, by rw [b]; show n + 1 + _ = n + (_ + 1); omega⟩
    · rw [rdC_e h, rd1_e h]; exact ⟨rfl, rfl⟩
theorem un_s {T : TT} {p q : Nat} : unC G sl T p (some q) = some q := if_neg (fun z => by cases z.1)
theorem rd_u : ∀ f T p q n, (rdC G sl f T p (some q) n).2.1 = some q := by
  intro f
  induction f with
  | zero => intro T p q n; rfl
  | succ f ih =>
    intro T p q n
    by_cases h : (srT G sl (p, 0)).2 = 0 ∧ (srT G sl (p, 0)).1 < sl
    · rw [rdC_g h, un_s]; exact ih _ _ _ _
    · rw [rdC_e h]; exact un_s (G := G) (sl := sl) (T := T) (p := p)
theorem ap_n (T : TT) (s : Nat) (F : Nat → Nat) : apF T s F 5 0 = T 5 0 + bN (s = 0) := by
  unfold apF
  by_cases h0 : s = 0
  · rw [if_pos h0, bN_t h0]; rfl
  · rw [if_neg h0, bN_f h0]
    by_cases h3 : s = 3
    · rw [if_pos h3]; rfl
    · rw [if_neg h3]
      by_cases h2 : s = 2
      · rw [if_pos h2]; rfl
      · rw [if_neg h2]; rfl
theorem rd_23 : ∀ f T p n, (rd1 G sl f p).1.2 = 0 → (rdC G sl f T p none n).2.1 = rd2 G sl f p (T 5 0) ∧ (rd2 G sl f p (T 5 0) = none → (rdC G sl f T p none n).2.2.2 = rd3 G sl f p T) := by
  intro f
  induction f with
  | zero => intro T p n h; exact absurd h (Nat.succ_ne_zero 0)
  | succ f ih =>
    intro T p n hg
    have h0 : (srT G sl (p, 0)).2 = 0 := by
      by_cases h : (srT G sl (p, 0)).2 = 0 ∧ (srT G sl (p, 0)).1 < sl
      · exact h.1
      · rw [rd1_e h] at hg; exact hg
    have hp := (srT_0 h0).2.2
    by_cases hf : fitD (T 5 0) (srS G sl (p, 0)) (srF G sl (p, 0) Z0F)
    · have hw : srW G sl T p := ⟨h0, hf⟩
      have e1 : unC G sl T p none = none := if_neg (fun z => z.2 hw)
      have e2 : apC G sl T p = apF T (srS G sl (p, 0)) (srF G sl (p, 0) Z0F) := if_pos hw
      rw [rd2_y hp hf, rd3_y hp]
      by_cases h : (srT G sl (p, 0)).2 = 0 ∧ (srT G sl (p, 0)).1 < sl
      · rw [rdC_g h, e1, e2, ← ap_n T (srS G sl (p, 0)) (srF G sl (p, 0) Z0F)]
        rw [rd1_g h] at hg
        exact ih _ _ _ hg
      · have hn : ¬ (srT G sl (p, 0)).1 < sl := fun z => h ⟨h0, z⟩
        rw [rdC_e h, e1, e2, rd2_e hn, rd3_e hn]
        exact ⟨rfl, fun _ => rfl⟩
    · have hw : ¬ srW G sl T p := fun z => hf z.2
      have e1 : unC G sl T p none = some p := if_pos ⟨rfl, hw⟩
      rw [rd2_n hp hf]
      refine ⟨?_, fun z => by cases z⟩
      by_cases h : (srT G sl (p, 0)).2 = 0 ∧ (srT G sl (p, 0)).1 < sl
      · rw [rdC_g h, e1]; exact rd_u _ _ _ _ _
      · rw [rdC_e h]; exact e1
/-- bounds -/
theorem rd1_le : ∀ f p, p ≤ sl → (rd1 G sl f p).1.1 ≤ sl ∧ (rd1 G sl f p).2 ≤ f ∧ ((rd1 G sl f p).1.2 = 0 ∨ (rd1 G sl f p).1.2 = 1) := by
  intro f
  induction f with
  | zero => intro p hp; exact ⟨hp, Nat.le_refl 0, Or.inr rfl⟩
  | succ f ih =>
    intro p hp
    by_cases h : (srT G sl (p, 0)).2 = 0 ∧ (srT G sl (p, 0)).1 < sl
    · rw [rd1_g h]
      have := ih (srT G sl (p, 0)).1 (by omega)
      exact ⟨this.1, Nat.succ_le_succ this.2.1, this.2.2⟩
    · rw [rd1_e h]; exact ⟨srT_le hp, Nat.succ_le_succ (Nat.zero_le _), srT_b⟩
theorem rd2_lt : ∀ f p n q, rd2 G sl f p n = some q → q < sl := by
  intro f
  induction f with
  | zero => intro p n q h; cases h
  | succ f ih =>
    intro p n q h
    by_cases hp : p < sl
    · by_cases hf : fitD n (srS G sl (p, 0)) (srF G sl (p, 0) Z0F)
      · rw [rd2_y hp hf] at h; exact ih _ _ _ h
      · rw [rd2_n hp hf] at h; cases h; exact hp
    · rw [rd2_e hp] at h; cases h
end RD4
/-! the answer, and the town behind it -/
def twA (G : Nat → Nat) (sl : Nat) (T : TT) : Int32 := if (rd1 G sl 65 0).1.2 = 0 then (match rd2 G sl 65 0 (T 5 0) with
  | none => nI (rd1 G sl 65 0).2
  | some q => (-2000) - nI q) else (-1000) - nI (rd1 G sl 65 0).1.1
def twT (G : Nat → Nat) (sl : Nat) (T : TT) : TT := if (rd1 G sl 65 0).1.2 = 0 ∧ rd2 G sl 65 0 (T 5 0) = none then rd3 G sl 65 0 T else T
def ansC (R : (Nat × Nat) × Option Nat × Nat × TT) : Int32 := if R.1.2 = 0 then (match R.2.1 with
  | none => nI R.2.2.1
  | some q => (-2000) - nI q) else (-1000) - nI R.1.1
theorem ans_tw (G : Nat → Nat) (sl : Nat) (T : TT) : ansC (rdC G sl 65 T 0 none 0) = twA G sl T := by
  have h := rd_12 (G := G) (sl := sl) 65 T 0 none 0
  unfold ansC twA
  rw [h.1, h.2, Nat.zero_add]
  by_cases hg : (rd1 G sl 65 0).1.2 = 0
  · rw [if_pos hg, if_pos hg, (rd_23 65 T 0 0 hg).1]; first | done | (cases rd2 G sl 65 0 (T 5 0) <;> rfl)
  · rw [if_neg hg, if_neg hg]
theorem n1k : ∀ p, p ≤ 64 → (-1000) - nI p ≤ (0 : Int32) := by decide +kernel
theorem n2k : ∀ p, p ≤ 64 → (-2000) - nI p ≤ (0 : Int32) := by decide +kernel
/-- the answer is above 0 just where the town is told anew -/
theorem tw_le {G : Nat → Nat} {sl : Nat} (hsl : sl ≤ 64) {T : TT} (h : twA G sl T ≤ 0) (hp : 1 ≤ (rd1 G sl 65 0).2) : twT G sl T = T := by
  unfold twT
  refine if_neg (fun z => ?_)
  unfold twA at h
  rw [if_pos z.1, z.2] at h
  have := rd1_le (G := G) (sl := sl) 65 0 (Nat.zero_le _)
  exact absurd (show (rd1 G sl 65 0).2 ≤ 0 from (nI_leI (by omega) (by decide)).mp (by rw [nI_0]; exact h)) (by omega)
theorem tw_gt {G : Nat → Nat} {sl : Nat} (hsl : sl ≤ 64) {T : TT} (h : ¬ twA G sl T ≤ 0) : twT G sl T = (rdC G sl 65 T 0 none 0).2.2.2 := by
  unfold twT
  have hb := rd1_le (G := G) (sl := sl) 65 0 (Nat.zero_le _)
  by_cases hg : (rd1 G sl 65 0).1.2 = 0
  · cases e : rd2 G sl 65 0 (T 5 0) with
    | none => rw [if_pos ⟨hg, rfl⟩]; exact ((rd_23 65 T 0 0 hg).2 e).symm
    | some q =>
      unfold twA at h
      rw [if_pos hg, e] at h
      exact absurd (n2k q (by have := rd2_lt _ _ _ _ e; omega)) h
  · unfold twA at h
    rw [if_neg hg] at h
    exact absurd (n1k _ (by omega)) h
theorem rd1_p (G : Nat → Nat) (sl : Nat) : 1 ≤ (rd1 G sl 65 0).2 := by
  by_cases h : (srT G sl (0, 0)).2 = 0 ∧ (srT G sl (0, 0)).1 < sl
  · rw [rd1_g (f := 64) h]; exact Nat.succ_le_succ (Nat.zero_le _)
  · rw [rd1_e (f := 64) h]; exact Nat.le_refl 1
/-! a town told so is as it must be -/
theorem tok_addP {T : TT} (hT : TOK T) {a s k i : Nat} (hn : T 5 0 < 8) (ha : a ≤ 4) (hs : s ≤ 4) (hk : k ≤ 100) (hi : i ≤ 9) : TOK (addP T a s k i) := by
  obtain ⟨h1, h2, h3, h4, h5, h6, h7, h8⟩ := hT
  have e0 : ∀ p, addP T a s k i 0 p = upN (T 0) (T 5 0) a p := fun p => rfl
  have e1 : ∀ p, addP T a s k i 1 p = upN (T 1) (T 5 0) s p := fun p => rfl
  have e2 : ∀ p, addP T a s k i 2 p = upN (T 2) (T 5 0) k p := fun p => rfl
  have e3 : ∀ p, addP T a s k i 3 p = upN (T 3) (T 5 0) i p := fun p => rfl
  have e4 : ∀ p, addP T a s k i 4 p = T 4 p := fun p => rfl
  have e5 : addP T a s k i 5 0 = T 5 0 + 1 := rfl
  have e6 : addP T a s k i 5 1 = T 5 1 := rfl
  have up : ∀ (F : Nat → Nat) (v b : Nat), (∀ p, F p ≤ b) → v ≤ b → ∀ p, upN F (T 5 0) v p ≤ b := fun F v b hF hv p => by
    by_cases z : p = T 5 0
    · rw [z, upN_s]; exact hv
    · rw [upN_n _ _ z]; exact hF p
  refine ⟨by rw [e5]; omega, by rw [e6]; exact h2, fun p => by rw [e0]; exact up _ _ _ h3 ha p, fun p => by rw [e1]; exact up _ _ _ h4 hs p, fun p => by rw [e2]; exact up _ _ _ h5 hk p, fun p => by rw [e3]; exact up _ _ _ h6 hi p, fun p => by rw [e4]; exact h7 p, fun x y hy h => ?_⟩
  rw [e4] at h
  have := h8 x y hy h
  rw [e5]; omega
theorem tok_5 {T : TT} (hT : TOK T) {v : Nat} (hv : v ≤ 4) : TOK (up2 T 5 1 v) := by
  obtain ⟨h1, h2, h3, h4, h5, h6, h7, h8⟩ := hT
  exact ⟨h1, hv, fun p => h3 p, fun p => h4 p, fun p => h5 p, fun p => h6 p, fun p => h7 p, fun x y hy h => h8 x y hy h⟩
theorem tok_4 {T : TT} (hT : TOK T) {a b m : Nat} (ha : a < T 5 0) (hb : b < T 5 0) (hm : m ≤ 60) : TOK (up2 T 4 (8 * a + b) m) := by
  obtain ⟨h1, h2, h3, h4, h5, h6, h7, h8⟩ := hT
  refine ⟨h1, h2, fun p => h3 p, fun p => h4 p, fun p => h5 p, fun p => h6 p, fun p => ?_, fun x y hy h => ?_⟩
  · by_cases z : p = 8 * a + b
    · rw [z, up2_s]; exact hm
    · rw [up2_c _ z]; exact h7 p
  · show x < T 5 0 ∧ y < T 5 0
    by_cases z : 8 * x + y = 8 * a + b
    · have : x = a ∧ y = b := by omega
      omega
    · rw [up2_c _ z] at h; exact h8 x y hy h
theorem tok_ap {T : TT} (hT : TOK T) {s : Nat} {F : Nat → Nat} (hf : fitD (T 5 0) s F) (hb : s = 0 → F 0 ≤ 4 ∧ F 1 ≤ 4 ∧ F 3 ≤ 9) : TOK (apF T s F) := by
  unfold apF
  by_cases h0 : s = 0
  · rw [if_pos h0]
    rcases hf with z | z | z
    · have := hb h0; exact tok_addP hT z.2.2 this.1 this.2.1 z.2.1 this.2.2
    · rw [h0] at z; exact absurd z.1 (by decide)
    · exact absurd h0 z.1
  · rw [if_neg h0]
    by_cases h3 : s = 3
    · rw [if_pos h3]
      rcases hf with z | z | z
      · exact absurd z.1 h0
      · exact tok_5 hT z.2
      · exact absurd h3 z.2.1
    · rw [if_neg h3]
      have z : F 0 < T 5 0 ∧ F 1 < T 5 0 ∧ F 0 ≠ F 1 ∧ 1 ≤ F 2 ∧ F 2 ≤ 60 := by
        rcases hf with z | z | z
        · exact absurd z.1 h0
        · exact absurd z.1 h3
        · exact z.2.2
      by_cases h2 : s = 2
      · rw [if_pos h2]
        exact tok_4 (tok_4 hT z.1 z.2.1 z.2.2.2.2) (show F 1 < T 5 0 from z.2.1) (show F 0 < T 5 0 from z.1) z.2.2.2.2
      · rw [if_neg h2]; exact tok_4 hT z.1 z.2.1 z.2.2.2.2
theorem getD_lt {o : Option Nat} {b : Nat} (h : ∀ q, o = some q → q < b + 1) : o.getD 0 ≤ b := by
  cases o with
  | none => exact Nat.zero_le _
  | some q => exact Nat.le_of_lt_succ (h q rfl)
theorem srF_b {G : Nat → Nat} {sl : Nat} {σ : Nat × Nat} {F : Nat → Nat} (h : srS G sl σ = 0) : srF G sl σ F 0 ≤ 4 ∧ srF G sl σ F 1 ≤ 4 ∧ srF G sl σ F 3 ≤ 9 := by
  unfold srF stF
  rw [if_pos h]
  refine ⟨?_, ?_, ?_⟩
  · show perA G sl (oneT G sl (strN 0) σ) ≤ 4; exact getD_lt (fun q hq => oneS_lt hq)
  · show perS G sl (oneT G sl (strN 0) σ) ≤ 4; exact getD_lt (fun q hq => oneS_lt hq)
  · show perI G sl (oneT G sl (strN 0) σ) ≤ 9; exact Nat.le_of_lt_succ (numK_v 1)
theorem tok_apC {G : Nat → Nat} {sl : Nat} {T : TT} (hT : TOK T) (p : Nat) : TOK (apC G sl T p) := by
  unfold apC
  by_cases hw : srW G sl T p
  · rw [if_pos hw]; exact tok_ap hT hw.2 srF_b
  · rw [if_neg hw]; exact hT
theorem tok_rdC {G : Nat → Nat} {sl : Nat} : ∀ f T p u n, TOK T → TOK (rdC G sl f T p u n).2.2.2 := by
  intro f
  induction f with
  | zero => intro T p u n hT; exact hT
  | succ f ih =>
    intro T p u n hT
    by_cases h : (srT G sl (p, 0)).2 = 0 ∧ (srT G sl (p, 0)).1 < sl
    · rw [rdC_g h]; exact ih _ _ _ _ (tok_apC hT p)
    · rw [rdC_e h]; exact tok_apC hT p
theorem tok_tw {G : Nat → Nat} {sl : Nat} {T : TT} (hT : TOK T) : TOK (twT G sl T) := by
  unfold twT
  by_cases h : (rd1 G sl 65 0).1.2 = 0 ∧ rd2 G sl 65 0 (T 5 0) = none
  · rw [if_pos h, ← (rd_23 65 T 0 0 h.1).2 h.2]; exact tok_rdC _ _ _ _ _ hT
  · rw [if_neg h]; exact hT
