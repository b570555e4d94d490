/-! THE LAW: what it stands on -/
abbrev LI (T : TT) (k : Nat) (P : TT) (pk hpi : Nat) (tg : Nat → Nat) (tl : Nat) (sg : Nat → Nat) (sl : Nat) : Prop := TOK T ∧ k < 256 ∧ TOK P ∧ pk < 256 ∧ tl ≤ 8 ∧ sl ≤ 64 ∧ hpi < 2 ∧ (∀ i, tg i ≤ 9) ∧ (∀ j, sg j < 256)
abbrev LK (κ : Cx) (D : va_G) (cI cC : ClassId) (A : Nat → Prop) (Q : State → Prop) (ad ta pa ia md : Nat → Nat) (b i pc : Nat) : Prop := ∀ (T : TT) (k tm dy : Nat) (P : TT) (pk ptm pdy hpi : Nat) (tg : Nat → Nat) (tl : Nat) (R : Nat → Nat) (sg : Nat → Nat) (sl : Nat) (u0 : ScrT) (m0 : ScmT), LI T k P pk hpi tg tl sg sl → XG κ 4 D (xT cI cC) A Q (wX cI cC ad ta pa ia T k tm dy P pk ptm pdy hpi tg tl R sg sl u0 ++ wM cI cC md T k tm dy P pk ptm pdy hpi tg tl R sg sl m0) 62 909 pc [(3, .int (nI i)), (2, .ref (md 1)), (1, .ref (ad 0)), (0, .ref b)] []
/-- the script, the constants: what stays -/
abbrev LSc (κ : Cx) (A : Nat → Prop) (z0 : Nat) (aK aV : Nat → Nat) (b L : Nat) (xs : Nat → Int32) (i : Nat) : Prop := xES z0 aK aV (xS κ) ∧ (∀ q : Nat, A q → z0 ≤ q) ∧ va_X b L xs (xS κ) (xS κ).heap ∧ b < (xS κ).heap.size ∧ ¬ A b ∧ L ≤ 2048 ∧ i + 4 ≤ L
abbrev LZ (z0 : Nat) (ad ta pa ia : Nat → Nat) : Prop := (∀ i, i < 13 → z0 ≤ ad i) ∧ (∀ i, i < 9 → z0 ≤ ta i) ∧ (∀ i, i < 9 → z0 ≤ pa i) ∧ (∀ i, i < 9 → z0 ≤ ia i)
section XLW
variable {κ : Cx} {cc : ByteArray} {nL : Nat} {ret : Option FieldType} {own : String} {Ts : List Cond} {R : Room} {D : va_G} {tys : List (ClassId × FieldType)} {A : Nat → Prop} {Q : State → Prop} {ws ws' : va_W} {n k pc : Nat} {lv lv' : List (Nat × Value)} {st : List Value} {b L : Nat} {xs : Nat → Int32}
theorem xsld (h : XC κ cc nL ret own Ts R A) (hX : va_X b L xs (xS κ) (xS κ).heap) (hbl : b < (xS κ).heap.size) (hbA : ¬ A b) {j : Nat} {v : Int32} (hj : j < L) (hL : L < 2 ^ 31) (hv : xs j = v) (hd : decode cc pc = .ok (.iaload, 1)) (kk : XG κ nL D tys A Q ws n k (pc + 1) lv (.int v :: st)) : XG κ nL D tys A Q ws n k pc lv (.int (nI j) :: .ref b :: st) :=
  fun H locs ls hK hP hD hS hl => va_sld h.1 h.2.1 hX hbl hbA hS (vp_in_nI hj hL) hd (by rw [nI_clamp (Nat.lt_trans hj hL), hv]; exact kk H locs ls hK hP hD hS hl)
theorem xslen (h : XC κ cc nL ret own Ts R A) (hX : va_X b L xs (xS κ) (xS κ).heap) (hbl : b < (xS κ).heap.size) (hbA : ¬ A b) (hd : decode cc pc = .ok (.arraylength, 1)) (kk : XG κ nL D tys A Q ws n k (pc + 1) lv (.int (nI L) :: st)) : XG κ nL D tys A Q ws n k pc lv (.ref b :: st) :=
  fun H locs ls hK hP hD hS hl => va_slen h.1 h.2.1 hX hbl hbA hS hd (kk H locs ls hK hP hD hS hl)
theorem xDq (kk : (∀ (k : Nat) (q : Nat × va_E), ws[k]? = some q → A q.1) → XG κ nL D tys A Q ws n k pc lv st) : XG κ nL D tys A Q ws n k pc lv st := fun H locs ls hK hP hD hS hl => kk hD.2 H locs ls hK hP hD hS hl
end XLW
theorem ls_le {i L : Nat} (hi : i < 2 ^ 30) (hL : L < 2 ^ 30) (h : nI i ≤ nI L - nI 4) : i + 4 ≤ L := by
  rw [Int32.le_iff_toInt_le, nI_toInt (by omega), pk_sub_toInt hL (by decide)] at h
  omega
/-! what the calls leave is as it must be -/
theorem li_ask {T : TT} (hT : TOK T) {k : Nat} (hk : k < 256) (x : Int32) : sel (rfC (T 5 0) k x 1 0) (k ||| mskL (wkS T (xn x) k 8)) k < 256 := by
  by_cases h : rfC (T 5 0) k x 1 0 = 0
  · obtain ⟨p, hx, hp, -, -⟩ := rfC_0 hT.1 (fun z => absurd z (by decide)) h
    have h8 := hT.1
    rw [h, sel_0, hx, xn_n (by omega)]
    exact or_lt256 hk (wk_256 hT hp)
  · rw [sel_n h]; exact hk
theorem li_law {T : TT} (hT : TOK T) (x : Int32) : TOK (sel (laC x) (up2 T 5 1 (xn x)) T) := by
  by_cases h : laC x = 0
  · rw [h, sel_0]
    unfold laC at h
    have hx : ¬ (x < 0 ∨ ¬ x ≤ nI 4) := fun z => by rw [if_pos z] at h; exact absurd h (by decide)
    obtain ⟨j, hj, rfl⟩ := nI_of (fun z => hx (Or.inl z))
    rw [xn_n hj]
    exact tok_5 hT ((nI_leI hj (by decide)).mp (Decidable.of_not_not (fun z => hx (Or.inr z))))
  · rw [sel_n h]; exact hT
theorem li_sel {α : Type} {M : α → Prop} {c : Nat} {a b : α} (ha : c = 0 → M a) (hb : M b) : M (sel c a b) := by
  by_cases h : c = 0
  · rw [h, sel_0]; exact ha h
  · rw [sel_n h]; exact hb
theorem li_row {tl : Nat} {x : Int32} (h : roC tl x = 0) (htl : tl ≤ 8) : tl + 1 ≤ 8 ∧ xn x ≤ 9 := by
  unfold roC at h
  by_cases h0 : 0 ≤ x
  · rw [if_neg (not_not_intro h0)] at h
    have hx : ¬ (nI 9 < x ∨ tl = 8) := fun z => by rw [if_pos z] at h; exact absurd h (by decide)
    obtain ⟨j, hj, rfl⟩ := nI_of (Int32.not_lt.mpr h0)
    rw [xn_n hj]
    refine ⟨?_, ?_⟩
    · have : tl ≠ 8 := fun z => hx (Or.inr z)
      omega
    · exact Nat.le_of_not_lt (fun z => hx (Or.inl ((nI_ltI (by decide) hj).mpr z)))
  · rw [if_pos h0] at h; exact absurd h (by decide)
theorem li_let {sl : Nat} {x : Int32} (h : leC sl x = 0) (hsl : sl ≤ 64) : sl + 1 ≤ 64 ∧ xn x < 256 := by
  unfold leC at h
  by_cases h0 : 0 ≤ x
  · rw [if_neg (not_not_intro h0)] at h
    have hx : ¬ (nI 255 < x ∨ sl = 64) := fun z => by rw [if_pos z] at h; exact absurd h (by decide)
    obtain ⟨j, hj, rfl⟩ := nI_of (Int32.not_lt.mpr h0)
    rw [xn_n hj]
    refine ⟨?_, ?_⟩
    · have : sl ≠ 64 := fun z => hx (Or.inr z)
      omega
    · exact Nat.lt_succ_of_le (Nat.le_of_not_lt (fun z => hx (Or.inl ((nI_ltI (by decide) hj).mpr z))))
  · rw [if_pos h0] at h; exact absurd h (by decide)
theorem upN_le {F : Nat → Nat} {i v b : Nat} (hF : ∀ j, F j ≤ b) (hv : v ≤ b) : ∀ j, upN F i v j ≤ b := fun j => by
  by_cases h : j = i
  · subst h; rw [upN_s]; exact hv
  · rw [upN_n _ _ h]; exact hF j
theorem upN_lt {F : Nat → Nat} {i v b : Nat} (hF : ∀ j, F j < b) (hv : v < b) : ∀ j, upN F i v j < b := fun j => by
  by_cases h : j = i
  · subst h; rw [upN_s]; exact hv
  · rw [upN_n _ _ h]; exact hF j
