/-! SPEC: all ways, and the tree -/
def fbS (T : TT) (xo : Option Nat) (w : List Nat) : Bool := match xo with
  | none => true
  | some t => Nat.beq (tmS T w) t
def flS (T : TT) (xo : Option Nat) (F : List (List Nat)) : List (List Nat) := F.filter (fbS T xo)
theorem flS_y {T : TT} {xo : Option Nat} {w : List Nat} (F : List (List Nat)) (h : fbS T xo w = true) : flS T xo (F ++ [w]) = flS T xo F ++ [w] := by
  unfold flS; rw [List.filter_append]; simp [h]
theorem flS_n {T : TT} {xo : Option Nat} {w : List Nat} (F : List (List Nat)) (h : fbS T xo w = false) : flS T xo (F ++ [w]) = flS T xo F := by
  unfold flS; rw [List.filter_append]; simp [h]
theorem flS_none (T : TT) (F : List (List Nat)) : flS T none F = F := by
  unfold flS
  exact List.filter_eq_self.mpr (fun _ _ => rfl)
theorem flS_len (T : TT) (xo : Option Nat) (F : List (List Nat)) : (flS T xo F).length ≤ F.length := List.length_filter_le _ _
theorem flS_mem {T : TT} {xo : Option Nat} {F : List (List Nat)} {w : List Nat} (h : w ∈ flS T xo F) : w ∈ F := (List.mem_filter.mp h).1
abbrev btR (o t r bt br lw lb : Nat) : Prop := (o = 0 ∧ t < bt) ∨ (o = 1 ∧ (br < r ∨ (r = br ∧ t < bt))) ∨ (o ≠ 0 ∧ o ≠ 1 ∧ (lb < lw ∨ (lw = lb ∧ bt < t)))
abbrev btW (T : TT) (o : Nat) (w b : List Nat) : Prop := btR o (tmS T w) (rgS T w) (tmS T b) (rgS T b) w.length b.length
def bestS (T : TT) (o : Nat) (F : List (List Nat)) : List Nat := F.foldl (fun b w => if b.length = 0 ∨ btW T o w b then w else b) []
theorem bestS_y {T : TT} {o : Nat} {F : List (List Nat)} {w : List Nat} (h : (bestS T o F).length = 0 ∨ btW T o w (bestS T o F)) : bestS T o (F ++ [w]) = w := by
  unfold bestS at *; rw [List.foldl_append]; exact if_pos h
theorem bestS_n {T : TT} {o : Nat} {F : List (List Nat)} {w : List Nat} (h : ¬ ((bestS T o F).length = 0 ∨ btW T o w (bestS T o F))) : bestS T o (F ++ [w]) = bestS T o F := by
  unfold bestS at *; rw [List.foldl_append]; exact if_neg h
theorem bestS_of (T : TT) (o : Nat) (F : List (List Nat)) : bestS T o F = [] ∨ bestS T o F ∈ F := by
  have : ∀ (r : List (List Nat)), bestS T o r.reverse = [] ∨ bestS T o r.reverse ∈ r.reverse := by
    intro r
    induction r with
    | nil => left; rfl
    | cons w r ih =>
      rw [List.reverse_cons]
      by_cases h : (bestS T o r.reverse).length = 0 ∨ btW T o w (bestS T o r.reverse)
      · rw [bestS_y h]; right; simp
      · rw [bestS_n h]
        rcases ih with z | z
        · left; exact z
        · right; exact List.mem_append_left _ z
  have h := this F.reverse
  rw [List.reverse_reverse] at h
  exact h
def lenOK (F : List (List Nat)) : Prop := ∀ w ∈ F, 1 ≤ w.length ∧ w.length ≤ 8
theorem bestS_len {T : TT} {o : Nat} {F : List (List Nat)} (h : lenOK F) : (bestS T o F).length ≤ 8 := by
  rcases bestS_of T o F with z | z
  · rw [z]; decide
  · exact (h _ z).2
theorem bestS_0 {T : TT} {o : Nat} {F : List (List Nat)} (h : lenOK F) : (bestS T o F).length = 0 ↔ F = [] := by
  constructor
  · intro z
    have : ∀ (r : List (List Nat)), lenOK r.reverse → (bestS T o r.reverse).length = 0 → r = [] := by
      intro r
      induction r with
      | nil => intro _ _; rfl
      | cons w r ih =>
        intro hl h0
        rw [List.reverse_cons] at hl h0
        have hw := (hl w (by simp)).1
        by_cases hb : (bestS T o r.reverse).length = 0 ∨ btW T o w (bestS T o r.reverse)
        · rw [bestS_y hb] at h0; omega
        · rw [bestS_n hb] at h0
          exact absurd (Or.inl h0) hb
    have h2 := this F.reverse (by rw [List.reverse_reverse]; exact h) (by rw [List.reverse_reverse]; exact z)
    exact List.reverse_eq_nil_iff.mp h2
  · intro z; subst z; rfl
theorem lenOK_fl {T : TT} {xo : Option Nat} {F : List (List Nat)} (h : lenOK F) : lenOK (flS T xo F) := fun w hw => h w (flS_mem hw)
theorem lenOK_snoc {F : List (List Nat)} {w : List Nat} (h : lenOK F) (h1 : 1 ≤ w.length) (h8 : w.length ≤ 8) : lenOK (F ++ [w]) := fun v hv => by
  rcases List.mem_append.mp hv with z | z
  · exact h v z
  · rw [List.mem_singleton.mp z]; exact ⟨h1, h8⟩
theorem lenOK_app {F E : List (List Nat)} (h : lenOK F) (h2 : lenOK E) : lenOK (F ++ E) := fun v hv => (List.mem_append.mp hv).elim (h v) (h2 v)
def onF (F : List (List Nat)) : Nat := F.foldl (fun s w => s &&& mskL w) 255
def onS (F : List (List Nat)) : Nat := if F.length = 0 then 0 else onF F
theorem and255 {a : Nat} (h : a < 256) : 255 &&& a = a := by
  rw [Nat.and_comm, show (255 : Nat) = 2 ^ 8 - 1 by rfl, Nat.and_two_pow_sub_one_eq_mod]
  exact Nat.mod_eq_of_lt h
theorem onS_1 {F : List (List Nat)} {w : List Nat} (h : F.length = 0) (hw : mskL w < 256) : onS (F ++ [w]) = mskL w := by
  have : F = [] := List.length_eq_zero_iff.mp h
  subst this
  show (if ([w] : List (List Nat)).length = 0 then 0 else 255 &&& mskL w) = mskL w
  rw [if_neg (by simp), and255 hw]
theorem onS_2 {F : List (List Nat)} (w : List Nat) (h : 0 < F.length) : onS (F ++ [w]) = onS F &&& mskL w := by
  have h1 : ¬ F.length = 0 := by omega
  have h2 : ¬ (F ++ [w]).length = 0 := by simp
  unfold onS
  rw [if_neg h1, if_neg h2]
  unfold onF
  rw [List.foldl_append]
  rfl
/-- what stands of the best -/
def okB (T : TT) (o : Nat) (F : List (List Nat)) (Gb : Nat → Nat) (bt br : Nat) : Prop := okW (bestS T o F) Gb ∧ (F ≠ [] → bt = tmS T (bestS T o F) ∧ br = rgS T (bestS T o F))
theorem okB_nil (T : TT) (o : Nat) (Gb : Nat → Nat) (bt br : Nat) : okB T o [] Gb bt br := ⟨fun i hi => absurd hi (Nat.not_lt_zero i), fun h => absurd rfl h⟩
def catK (g : Nat → List (List Nat)) (s : Nat) : Nat → List (List Nat)
  | 0 => []
  | k + 1 => catK g s k ++ (if s.testBit k = true then g k else [])
theorem catK_y {g : Nat → List (List Nat)} {s k : Nat} (h : s.testBit k = true) : catK g s (k + 1) = catK g s k ++ g k := by rw [catK, if_pos h]
theorem catK_n {g : Nat → List (List Nat)} {s k : Nat} (h : ¬ s.testBit k = true) : catK g s (k + 1) = catK g s k := by rw [catK, if_neg h, List.append_nil]
/-- all ways from p on, behind w -/
def allW (T : TT) (been mu : Nat) : Nat → List Nat → Nat → List (List Nat)
  | 0, _, _ => []
  | f + 1, w, p => (if mayS T p (mskL (w ++ [p])) been mu = 0 then [w ++ [p]] else []) ++ catK (fun q => allW T been mu f (w ++ [p]) q) (mayS T p (mskL (w ++ [p])) been mu) 8
theorem allW_s (T : TT) (been mu f : Nat) (w : List Nat) (p : Nat) : allW T been mu (f + 1) w p = (if mayS T p (mskL (w ++ [p])) been mu = 0 then [w ++ [p]] else []) ++ catK (fun q => allW T been mu f (w ++ [p]) q) (mayS T p (mskL (w ++ [p])) been mu) 8 := rfl
theorem catK_len {g : Nat → List (List Nat)} {s B : Nat} (h : ∀ q, (g q).length ≤ B) : ∀ k, (catK g s k).length ≤ k * B := by
  intro k
  induction k with
  | zero => exact Nat.zero_le _
  | succ k ih =>
    have := h k
    rw [Nat.succ_mul]
    by_cases hb : s.testBit k = true
    · rw [catK_y hb, List.length_append]; omega
    · rw [catK_n hb]; omega
theorem catK_0 (g : Nat → List (List Nat)) : ∀ k, catK g 0 k = [] := by
  intro k
  induction k with
  | zero => rfl
  | succ k ih => rw [catK_n (by simp), ih]
theorem allW_len (T : TT) (been mu : Nat) : ∀ f w p, (allW T been mu f w p).length ≤ 8 ^ f := by
  intro f
  induction f with
  | zero => intro w p; exact Nat.zero_le _
  | succ f ih =>
    intro w p
    rw [allW_s, List.length_append]
    have h1 := catK_len (g := fun q => allW T been mu f (w ++ [p]) q) (s := mayS T p (mskL (w ++ [p])) been mu) (ih (w ++ [p])) 8
    have hp : 1 ≤ 8 ^ f := Nat.one_le_pow f 8 (by decide)
    by_cases hz : mayS T p (mskL (w ++ [p])) been mu = 0
    · rw [if_pos hz, hz, catK_0, Nat.pow_succ]
      simp
      omega
    · rw [if_neg hz, Nat.pow_succ]
      simp
      omega
theorem catK_ok {g : Nat → List (List Nat)} {s : Nat} (h : ∀ q, s.testBit q = true → lenOK (g q)) : ∀ k, lenOK (catK g s k) := by
  intro k
  induction k with
  | zero => intro w hw; cases hw
  | succ k ih =>
    by_cases hb : s.testBit k = true
    · rw [catK_y hb]; exact lenOK_app ih (h k hb)
    · rw [catK_n hb]; exact ih
theorem may_out {T : TT} {p : Nat} {w : List Nat} {been mu q : Nat} (h : (mayS T p (mskL w) been mu).testBit q = true) : q < T 5 0 ∧ q ∉ w := by
  have := mayS_in h
  refine ⟨this.1, fun hq => ?_⟩
  have h2 := this.2.1
  rw [mskL_bit, decide_eq_true hq] at h2
  cases h2
theorem allW_ok {T : TT} (hT : TOK T) (been mu : Nat) : ∀ f w p, okP T w → p < T 5 0 → p ∉ w → lenOK (allW T been mu f w p) := by
  intro f
  induction f with
  | zero => intro w p _ _ _ v hv; cases hv
  | succ f ih =>
    intro w p hw hp hn
    have hw2 := okP_snoc hw hp hn
    rw [allW_s]
    refine lenOK_app ?_ (catK_ok (fun q hq => ?_) 8)
    · by_cases hz : mayS T p (mskL (w ++ [p])) been mu = 0
      · rw [if_pos hz]
        intro v hv
        rw [List.mem_singleton.mp hv]
        exact ⟨by simp, len_le8 (okP_8 hT hw2) hw2.2⟩
      · rw [if_neg hz]; intro v hv; cases hv
    · have := may_out hq
      exact ih _ _ hw2 this.1 this.2
theorem catK_top {g : Nat → List (List Nat)} {s n : Nat} (h : ∀ q, s.testBit q = true → q < n) : ∀ d, catK g s (n + d) = catK g s n := by
  intro d
  induction d with
  | zero => rfl
  | succ d ih => rw [← Nat.add_assoc, catK_n (fun z => by have := h _ z; omega), ih]
/-! the tree: who has it, minutes, what is said -/
def omx (o : Option Nat) (r : Nat) : Nat := match o with
  | none => r
  | some h => Nat.max h r
def grS (T : TT) (been mu : Nat) : Nat → Nat → Nat → Nat × Nat × Nat
  | 0, has, _ => (has, 0, 0)
  | f + 1, has, p => match nextS T p (has ||| 2 ^ p) been mu with
    | none => (has ||| 2 ^ p, 0, sdS T p none)
    | some q => match nextS T p (grS T been mu f (has ||| 2 ^ p) q).1 been mu with
      | none => ((grS T been mu f (has ||| 2 ^ p) q).1, T 4 (8 * p + q) + (grS T been mu f (has ||| 2 ^ p) q).2.1, sdS T p (some (grS T been mu f (has ||| 2 ^ p) q).2.2))
      | some q2 => ((grS T been mu f (grS T been mu f (has ||| 2 ^ p) q).1 q2).1, T 4 (8 * p + q) + (grS T been mu f (has ||| 2 ^ p) q).2.1 + (T 4 (8 * p + q2) + (grS T been mu f (grS T been mu f (has ||| 2 ^ p) q).1 q2).2.1), sdS T p (some (Nat.max (grS T been mu f (has ||| 2 ^ p) q).2.2 (grS T been mu f (grS T been mu f (has ||| 2 ^ p) q).1 q2).2.2)))
theorem grS_0 {T : TT} {been mu f has p : Nat} (h : nextS T p (has ||| 2 ^ p) been mu = none) : grS T been mu (f + 1) has p = (has ||| 2 ^ p, 0, sdS T p none) := by rw [grS, h]
theorem grS_1 {T : TT} {been mu f has p q : Nat} (h : nextS T p (has ||| 2 ^ p) been mu = some q) (h2 : nextS T p (grS T been mu f (has ||| 2 ^ p) q).1 been mu = none) : grS T been mu (f + 1) has p = ((grS T been mu f (has ||| 2 ^ p) q).1, T 4 (8 * p + q) + (grS T been mu f (has ||| 2 ^ p) q).2.1, sdS T p (some (grS T been mu f (has ||| 2 ^ p) q).2.2)) := by rw [grS, h]; simp only [h2]
theorem grS_2 {T : TT} {been mu f has p q q2 : Nat} (h : nextS T p (has ||| 2 ^ p) been mu = some q) (h2 : nextS T p (grS T been mu f (has ||| 2 ^ p) q).1 been mu = some q2) : grS T been mu (f + 1) has p = ((grS T been mu f (grS T been mu f (has ||| 2 ^ p) q).1 q2).1, T 4 (8 * p + q) + (grS T been mu f (has ||| 2 ^ p) q).2.1 + (T 4 (8 * p + q2) + (grS T been mu f (grS T been mu f (has ||| 2 ^ p) q).1 q2).2.1), sdS T p (some (Nat.max (grS T been mu f (has ||| 2 ^ p) q).2.2 (grS T been mu f (grS T been mu f (has ||| 2 ^ p) q).1 q2).2.2))) := by rw [grS, h]; simp only [h2]
theorem grS_ok {T : TT} (hT : TOK T) (been mu : Nat) : ∀ f has p, has < 256 → p < T 5 0 → has.testBit p = false → (grS T been mu (f + 1) has p).1 < 256 ∧ cdS has + 1 ≤ cdS (grS T been mu (f + 1) has p).1 ∧ (grS T been mu (f + 1) has p).2.2 ≤ 100 := by
  intro f
  induction f with
  | zero =>
    intro has p hh hp hb
    have hp8 : p < 8 := Nat.lt_of_lt_of_le hp hT.1
    have h1 : has ||| 2 ^ p < 256 := or_lt256 hh (pw_lt256 hp8)
    have h2 := cdS_add has hh p hp8 hb
    cases hn : nextS T p (has ||| 2 ^ p) been mu with
    | none => rw [grS_0 hn]; exact ⟨h1, by show _ ≤ cdS (has ||| 2 ^ p); omega, sdS_le hT p (o := none) (fun z e => by cases e)⟩
    | some q =>
      cases hn2 : nextS T p (grS T been mu 0 (has ||| 2 ^ p) q).1 been mu with
      | none => rw [grS_1 hn hn2]; exact ⟨h1, by show _ ≤ cdS (has ||| 2 ^ p); omega, sdS_le hT p (o := some _) (fun z e => by cases e; exact Nat.zero_le _)⟩
      | some q2 => rw [grS_2 hn hn2]; exact ⟨h1, by show _ ≤ cdS (has ||| 2 ^ p); omega, sdS_le hT p (o := some _) (fun z e => by cases e; exact Nat.zero_le _)⟩
  | succ f ih =>
    intro has p hh hp hb
    have hp8 : p < 8 := Nat.lt_of_lt_of_le hp hT.1
    have h1 : has ||| 2 ^ p < 256 := or_lt256 hh (pw_lt256 hp8)
    have h2 := cdS_add has hh p hp8 hb
    cases hn : nextS T p (has ||| 2 ^ p) been mu with
    | none => rw [grS_0 hn]; exact ⟨h1, by show _ ≤ cdS (has ||| 2 ^ p); omega, sdS_le hT p (o := none) (fun z e => by cases e)⟩
    | some q =>
      have hq := nextS_in hn
      obtain ⟨a1, a2, a3⟩ := ih _ q h1 hq.1 hq.2.1
      cases hn2 : nextS T p (grS T been mu (f + 1) (has ||| 2 ^ p) q).1 been mu with
      | none => rw [grS_1 hn hn2]; exact ⟨a1, by show _ ≤ cdS (grS T been mu (f + 1) (has ||| 2 ^ p) q).1; omega, sdS_le hT p (o := some _) (fun z e => by cases e; exact a3)⟩
      | some q2 =>
        have hq2 := nextS_in hn2
        obtain ⟨b1, b2, b3⟩ := ih _ q2 a1 hq2.1 hq2.2.1
        rw [grS_2 hn hn2]
        exact ⟨b1, by show _ ≤ cdS (grS T been mu (f + 1) (grS T been mu (f + 1) (has ||| 2 ^ p) q).1 q2).1; omega, sdS_le hT p (o := some _) (fun z e => by cases e; exact Nat.max_le.mpr ⟨a3, b3⟩)⟩
