/-! SPEC: what each call answers -/
def xn (x : Int32) : Nat := x.toNatClampNeg
theorem xn_n {p : Nat} (h : p < 2 ^ 31) : xn (nI p) = p := nI_clamp h
def sel {α : Type} (c : Nat) (a b : α) : α := if c = 0 then a else b
theorem sel_0 {α : Type} (a b : α) : sel 0 a b = a := rfl
theorem sel_n {α : Type} {c : Nat} (h : c ≠ 0) (a b : α) : sel c a b = b := if_neg h
/-- refusals, one more of them -/
def bmp (R : Nat → Nat) (c : Nat) : Nat → Nat := bif Nat.beq c 0 then R else upN R c (R c + 1)
theorem bmp_p {R : Nat → Nat} {c : Nat} (h : 0 < c) : bmp R c = upN R c (R c + 1) := by
  unfold bmp; rw [beqF (show c ≠ 0 by omega)]; rfl
theorem neg_0 : ∀ c, c < 8 → (-(nI c) = 0 ↔ c = 0) := by decide +kernel
theorem neg_neg (x : Int32) : - -x = x := Int32.neg_neg
/-- the number of the refusal that fits, of one who is to be asked first (0: none) -/
def rfC (n k : Nat) (x : Int32) (b j : Nat) : Nat := if ¬ okN n x then 1 else if b = 0 then j else if k.testBit (xn x) = true then 3 else 0
theorem rfC_lt {n k : Nat} {x : Int32} {b j : Nat} (hj : j < 7) : rfC n k x b j < 8 := by
  unfold rfC
  (repeat' split) <;> omega
theorem rfC_1 {n k : Nat} {x : Int32} {b j : Nat} (h : ¬ okN n x) : rfC n k x b j = 1 := if_pos h
theorem rfC_2 {n k : Nat} {x : Int32} {b j : Nat} (h : okN n x) (hb : b = 0) : rfC n k x b j = j := by rw [rfC, if_neg (not_not_intro h), if_pos hb]
theorem rfC_3 {n k : Nat} {x : Int32} {b j : Nat} (h : okN n x) (hb : 0 < b) (hk : k.testBit (xn x) = true) : rfC n k x b j = 3 := by rw [rfC, if_neg (not_not_intro h), if_neg (by omega), if_pos hk]
theorem rfC_z {n k : Nat} {x : Int32} {b j : Nat} (h : okN n x) (hb : 0 < b) (hk : ¬ k.testBit (xn x) = true) : rfC n k x b j = 0 := by rw [rfC, if_neg (not_not_intro h), if_neg (by omega), if_neg hk]
theorem rfC_0 {n k : Nat} {x : Int32} {b j : Nat} (hn : n ≤ 8) (hj : b = 0 → 0 < j) (h : rfC n k x b j = 0) : ∃ p, x = nI p ∧ p < n ∧ 0 < b ∧ ¬ k.testBit p = true := by
  unfold rfC at h
  split at h
  · omega
  · rename_i h1
    split at h
    · rename_i h2; have := hj h2; omega
    · rename_i h2
      split at h
      · omega
      · rename_i h3
        obtain ⟨p, hp, hx⟩ := okN_of hn (Decidable.of_not_not h1)
        refine ⟨p, hx, hp, by omega, ?_⟩
        rw [hx, xn_n (by omega)] at h3
        exact h3
def f9 : Option Nat → Int32
  | none => -9
  | some q => nI q
/-! the foe -/
def foK (T : TT) (w : List Nat) (p : Nat) : Nat → Nat × Option Nat
  | 0 => (rgS T w, none)
  | q + 1 => if q ≠ p ∧ rgS (up2 T 1 q 3) w < (foK T w p q).1 then (rgS (up2 T 1 q 3) w, some q) else foK T w p q
def foS (T : TT) (k p : Nat) : Int32 := f9 (foK T (wkS T p k 8) p (T 5 0)).2
/-! the switch -/
def gtO (r : Nat) : Option Nat → Bool
  | none => true
  | some m => decide (m < r)
def swK (T : TT) (k p : Nat) : Nat → Option Nat × Nat
  | 0 => (none, 0)
  | i + 1 => if gtO (rgS (up2 T 0 p i) (wkS (up2 T 0 p i) p k 8)) (swK T k p i).1 = true then (some (rgS (up2 T 0 p i) (wkS (up2 T 0 p i) p k 8)), i) else swK T k p i
theorem tok_0 {T : TT} (h : TOK T) {p v : Nat} (hv : v ≤ 4) : TOK (up2 T 0 p v) := by
  obtain ⟨a1, a2, a3, a4, a5, a6, a7, a8⟩ := h
  refine ⟨a1, a2, fun q => ?_, a4, a5, a6, a7, a8⟩
  by_cases e : q = p
  · subst e; rw [up2_s]; exact hv
  · rw [up2_c T e]; exact a3 q
theorem tok_1 {T : TT} (h : TOK T) {p v : Nat} (hv : v ≤ 4) : TOK (up2 T 1 p v) := by
  obtain ⟨a1, a2, a3, a4, a5, a6, a7, a8⟩ := h
  refine ⟨a1, a2, a3, fun q => ?_, a5, a6, a7, a8⟩
  by_cases e : q = p
  · subst e; rw [up2_s]; exact hv
  · rw [up2_c T e]; exact a4 q
theorem up2_up2 (T : TT) (j i v v2 : Nat) : up2 (up2 T j i v) j i v2 = up2 T j i v2 := by
  funext a b
  unfold up2
  cases h : (Nat.beq a j && Nat.beq b i) <;> rfl
theorem up2_back (T : TT) (j i v : Nat) : up2 (up2 T j i v) j i (T j i) = T := by
  funext a b
  unfold up2
  cases h : (Nat.beq a j && Nat.beq b i) with
  | false => rfl
  | true =>
    simp only [Bool.and_eq_true, Nat.beq_eq] at h
    rw [h.1, h.2]; rfl
theorem gtO_c {m : Option Nat} {r : Nat} (hr : r < 2 ^ 31) (hm : ∀ z, m = some z → z < 2 ^ 31) : nI r ≤ oI m ↔ gtO r m = false := by
  cases m with
  | none =>
    constructor
    · intro h
      rw [Int32.le_iff_toInt_le] at h
      have e : (oI none).toInt = -1 := by decide
      rw [e, nI_toInt hr] at h
      omega
    · intro h; cases h
  | some z =>
    have hz := hm z rfl
    show nI r ≤ nI z ↔ decide (z < r) = false
    rw [nI_leI hr hz, decide_eq_false_iff_not]
    omega
/-! the edge, two -/
def wh1 (v : Int32) : Nat := if v = 0 ∨ v = nI 1 then 1 else 0
def edC (n k : Nat) (x y : Int32) : Nat := if ¬ okN n x ∨ ¬ okN n y ∨ x = y then 1 else if k.testBit (xn x) = true then 3 else 0
def edS (T : TT) (k p q : Nat) : Int32 := nI (tmS T (wkS T p k 8)) - nI (tmS T (wkS T p k q))
def boS (T : TT) (k p q : Nat) : Nat := rgS T (wkS T p k 8) + (if (k ||| mskL (wkS T p k 8)).testBit q = true then 0 else rgS T (wkS T q (k ||| mskL (wkS T p k 8)) 8))
def twC (n k : Nat) (x y v : Int32) : Nat := if ¬ okN n x ∨ ¬ okN n y ∨ x = y then 1 else if wh1 v = 0 then 2 else if k.testBit (xn x) = true ∨ k.testBit (xn y) = true then 3 else 0
def twS (T : TT) (k p q : Nat) (v : Int32) : Int32 := if v = 0 then nI (Nat.max (boS T k p q) (boS T k q p)) else bI (boS T k p q < boS T k q p)
/-! days -/
def sdN (z : Int32) : Nat → Int32
  | 0 => z
  | i + 1 => sdN z i * nI 1664525 + nI 1013904223
def drS (z : Int32) (n i : Nat) : Nat := (sdN z (i + 1)).toBitVec.toNat % 2 ^ 31 / 256 % n
def dyK (T : TT) (z : Int32) : Nat → Nat
  | 0 => 0
  | i + 1 => dyK T z i + rgS T (wkS T (drS z (T 5 0) i) 0 8)
def dyC (n : Nat) (x : Int32) : Nat := if ¬ nI 1 ≤ x then 4 else if ¬ x ≤ nI 30 then 6 else if n = 0 then 3 else 0
/-! the row that is judged -/
def jdB (T : TT) (k : Nat) (tg : Nat → Nat) (i S : Nat) : Prop := ¬ tg i < T 5 0 ∨ k.testBit (tg i) = true ∨ (0 < i ∧ ¬ (mayS T (tg (i - 1)) S k 8).testBit (tg i) = true)
def jdK (T : TT) (k : Nat) (tg : Nat → Nat) (tl : Nat) : Nat → Nat → Nat → Int32
  | 0, _, S => if mayS T (tg (tl - 1)) S k 8 = 0 then (-9) else nI tl
  | f + 1, i, S => if ¬ tg i < T 5 0 ∨ k.testBit (tg i) = true ∨ (0 < i ∧ ¬ (mayS T (tg (i - 1)) S k 8).testBit (tg i) = true) then nI i else jdK T k tg tl f (i + 1) (S ||| 2 ^ tg i)
def jdS (T : TT) (k : Nat) (tg : Nat → Nat) (tl : Nat) : Int32 := jdK T k tg tl tl 0 0
/-! reading -/
def peC (n : Nat) (x v : Int32) : Nat := if ¬ okN n x then 1 else if ¬ (v = nI 0 ∨ v = nI 1 ∨ v = nI 2 ∨ v = nI 3 ∨ v = nI 4) then 2 else 0
def peS (T : TT) (k p : Nat) (v : Int32) : Int32 := if v = nI 0 then nI (T 0 p) else if v = nI 1 then nI (T 1 p) else if v = nI 2 then nI (T 2 p) else if v = nI 3 then nI (T 3 p) else bI (k.testBit p = true)
def miC (n : Nat) (x y : Int32) : Nat := if ¬ okN n x ∨ ¬ okN n y then 1 else 0
def miS (T : TT) (p q : Nat) : Int32 := if T 4 (8 * p + q) = 0 then (-9) else nI (T 4 (8 * p + q))
def laC (x : Int32) : Nat := if x < 0 ∨ ¬ x ≤ nI 4 then 2 else 0
def leC (sl : Nat) (x : Int32) : Nat := if ¬ 0 ≤ x then 4 else if nI 255 < x ∨ sl = 64 then 6 else 0
def roC (tl : Nat) (x : Int32) : Nat := if ¬ 0 ≤ x then 4 else if nI 9 < x ∨ tl = 8 then 6 else 0
def wh2 (v : Int32) : Nat := if v < 0 ∨ nI 2 < v then 0 else 1
def ge0 (v : Int32) : Nat := if v < 0 then 0 else 1
def gem (v : Int32) : Nat := if v < (-1) then 0 else 1
def ruS (T : TT) (k p : Nat) (v : Int32) : Int32 := if v = nI 0 then nI (tmS T (wkS T p k 8)) else if v = nI 1 then nI (rgS T (wkS T p k 8)) else nI (wkS T p k 8).length
def alS (T : TT) (k p : Nat) : List (List Nat) := allW T k 8 8 [] p
def soS (T : TT) (k p : Nat) (i : Int32) : Int32 := if i = (-1) then nI (tmS T (bestS T 0 (alS T k p))) else ansW (bestS T 0 (alS T k p)) i
def suS (T : TT) (k p : Nat) (i : Int32) : Int32 := if i = (-1) then nI (rgS T (bestS T 1 (alS T k p))) else ansW (bestS T 1 (alS T k p)) i
def loS (T : TT) (k p : Nat) (i : Int32) : Int32 := if i = (-1) then nI (bestS T 2 (alS T k p)).length else ansW (bestS T 2 (alS T k p)) i
def toC (n k : Nat) (x t v : Int32) : Nat := if rfC n k x (wh1 v) 2 = 0 then (if ¬ 0 ≤ t then 4 else 0) else rfC n k x (wh1 v) 2
def toS (T : TT) (k p t : Nat) (v : Int32) : Int32 := if v = 0 then nI (flS T (some t) (alS T k p)).length else nI (onS (flS T (some t) (alS T k p)))
def trS (T : TT) (k p : Nat) (v : Int32) : Int32 := if v = nI 0 then nI (cdS (grS T k 8 8 0 p).1) else if v = nI 1 then nI (2 * (grS T k 8 8 0 p).2.1) else nI (grS T k 8 8 0 p).2.2
def coS (T : TT) (k tm dy tl sl : Nat) (R : Nat → Nat) (v : Int32) : Int32 := if v = nI 0 then nI (T 5 0) else if v = nI 1 then nI (mtoK T 8 8) else if v = nI 2 then nI (cdS k) else if v = nI 3 then nI tm else if v = nI 4 then nI dy else if v = nI 5 then nI (T 5 1) else if v = nI 6 then nI tl else if v = nI 7 then nI sl else if v < nI 11 ∨ nI 16 < v then (-9) else nI (R (xn v - 10))
abbrev ScrT : Type := TT × (Nat → Nat) × (Nat → List Nat) × (Nat → Nat → Nat) × Option Nat
/-- the whole object -/
abbrev wX (cI cC : ClassId) (ad ta pa ia : Nat → Nat) (T : TT) (k tm dy : Nat) (P : TT) (pk ptm pdy hp : Nat) (tg : Nat → Nat) (tl : Nat) (R : Nat → Nat) (sg : Nat → Nat) (sl : Nat) (u : ScrT) : va_W :=
  [(ad 0, .inr (5, [.ref (ta 0), .ref (pa 0), .ref (ia 0), .ref (ad 3), .ref (ad 5), .ref (ad 10), .ref (ad 11), .ref (ad 1), .ref (ad 2), .int (nI tl), .int (nI hp)])), (ad 1, .inl (cI, 8, .inl (fun i => nI (tg i)))), (ad 2, .inl (cI, 7, .inl (fun i => nI (R i))))] ++ (wTown cI ta T k 8 tm dy ++ (wTown cI pa P pk 8 ptm pdy ++ (wTown cI ia u.1 (u.2.1 0) (u.2.1 1) (u.2.1 2) (u.2.1 3) ++ (wWay cI (ad 3) (ad 4) (u.2.2.1 0) (u.2.2.2.1 0) ++ ([(ad 5, .inr (0, [.ref (ad 6), .ref (ad 8), .int (nI (u.2.1 4)), .int (oI u.2.2.2.2), .int (nI (u.2.1 5)), .int (nI (u.2.1 6)), .int (nI (u.2.1 7)), .int (nI (u.2.1 8))]))] ++ (wWay cI (ad 6) (ad 7) (u.2.2.1 1) (u.2.2.2.1 1) ++ (wWay cI (ad 8) (ad 9) (u.2.2.1 2) (u.2.2.2.1 2) ++ [(ad 10, .inr (2, [.int (nI (u.2.1 9)), .int (nI (u.2.1 10))])), (ad 11, .inr (1, [.ref (ad 12), .int (nI sl), .int (nI (u.2.1 11)), .int (nI (u.2.1 12))])), (ad 12, .inl (cC, 64, .inl (fun i => nI (sg i))))])))))))
theorem wh2_le (v : Int32) : wh2 v ≤ 1 := by unfold wh2; split <;> omega
theorem wh1_le (v : Int32) : wh1 v ≤ 1 := by unfold wh1; split <;> omega
theorem ge0_le (v : Int32) : ge0 v ≤ 1 := by unfold ge0; split <;> omega
theorem gem_le (v : Int32) : gem v ≤ 1 := by unfold gem; split <;> omega
