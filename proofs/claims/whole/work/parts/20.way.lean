/-! SPEC words of a way, and the class Way -/
def mskL (w : List Nat) : Nat := w.foldl (fun S p => S ||| 2 ^ p) 0
theorem mskL_snoc (w : List Nat) (p : Nat) : mskL (w ++ [p]) = mskL w ||| 2 ^ p := by simp [mskL]
def okW (w : List Nat) (G : Nat → Nat) : Prop := ∀ i, i < w.length → G i = w.getD i 0
theorem okW_snoc {w : List Nat} {G : Nat → Nat} (h : okW w G) (p : Nat) : okW (w ++ [p]) (upN G w.length p) := by
  intro i hi
  rw [List.length_append, List.length_singleton] at hi
  by_cases e : i = w.length
  · subst e; rw [upN_s]; simp
  · rw [upN_n _ _ e, h i (by omega)]
    simp [List.getElem?_append, show i < w.length by omega]
theorem okW_drop {w : List Nat} {p : Nat} {G : Nat → Nat} (h : okW (w ++ [p]) G) : okW w G := by
  intro i hi
  rw [h i (by simp; omega)]
  simp [List.getElem?_append, hi]
theorem mskL_lt : ∀ (w : List Nat), (∀ p ∈ w, p < 8) → mskL w < 256 := by
  intro w hw
  have : ∀ (w : List Nat) (S : Nat), S < 2 ^ 8 → (∀ p ∈ w, p < 8) → w.foldl (fun S p => S ||| 2 ^ p) S < 2 ^ 8 := by
    intro w
    induction w with
    | nil => intro S hS _; exact hS
    | cons p r ih =>
      intro S hS h
      refine ih _ (Nat.or_lt_two_pow hS ?_) (fun q hq => h q (List.mem_cons_of_mem _ hq))
      exact Nat.pow_lt_pow_right (by decide) (h p List.mem_cons_self)
  exact this w 0 (by decide) hw
theorem mskL_bit (w : List Nat) (q : Nat) : (mskL w).testBit q = decide (q ∈ w) := by
  have : ∀ (w : List Nat) (S : Nat), (w.foldl (fun S p => S ||| 2 ^ p) S).testBit q = (S.testBit q || decide (q ∈ w)) := by
    intro w
    induction w with
    | nil => intro S; simp
    | cons p r ih =>
      intro S
      rw [List.foldl_cons, ih, Nat.testBit_or, Nat.testBit_two_pow]
      by_cases h : q = p
      · subst h; simp
      · have : ¬ p = q := fun z => h z.symm
        simp [h, this]
  have h := this w 0
  simpa [mskL] using h
/-- a set's bit is taken out -/
theorem mskL_out {w : List Nat} {p : Nat} (hw : ∀ q ∈ w, q < 8) (hp : p < 8) (hn : p ∉ w) : mskL (w ++ [p]) &&& (255 ^^^ (2 ^ p &&& 255)) = mskL w := by
  apply Nat.eq_of_testBit_eq
  intro i
  have e255 : Nat.testBit 255 i = decide (i < 8) := by
    have : (255 : Nat) = 2 ^ 8 - 1 := rfl
    rw [this, Nat.testBit_two_pow_sub_one]
  simp only [Nat.testBit_and, Nat.testBit_xor, e255, mskL_bit, Nat.testBit_two_pow]
  by_cases hi : i < 8
  · by_cases h : p = i
    · subst h; simp [hi, hn]
    · have h2 : ¬ i = p := fun z => h z.symm
      simp [hi, h, h2]
  · have h1 : i ∉ w := fun z => hi (hw i z)
    simp [hi, h1]
abbrev wWay (cI : ClassId) (a0 a1 : Nat) (w : List Nat) (G : Nat → Nat) : va_W := [(a0, .inr (4, [.ref a1, .int (nI w.length), .int (nI (mskL w))])), (a1, .inl (cI, 8, .inl (fun i => nI (G i))))]
theorem and_bit (S p : Nat) : S &&& 2 ^ p = 0 ↔ ¬ S.testBit p = true := by
  constructor
  · intro h z
    have : (S &&& 2 ^ p).testBit p = true := by rw [Nat.testBit_and, z, Nat.testBit_two_pow_self]; rfl
    rw [h, Nat.zero_testBit] at this
    cases this
  · intro h
    apply Nat.eq_of_testBit_eq
    intro i
    rw [Nat.testBit_and, Nat.testBit_two_pow, Nat.zero_testBit]
    by_cases e : p = i
    · subst e
      cases hb : S.testBit p with
      | true => exact absurd hb h
      | false => rfl
    · rw [decide_eq_false e, Bool.and_false]
theorem and_bit_lt {S : Nat} (p : Nat) (h : S < 2 ^ 31) : S &&& 2 ^ p < 2 ^ 31 := Nat.lt_of_le_of_lt Nat.and_le_left h
/-- the i-th of a way; -9 none such -/
def ansW (w : List Nat) (x : Int32) : Int32 := if x < 0 then (-9) else if nI w.length ≤ x then (-9) else nI (w.getD x.toNatClampNeg 0)
theorem ansW_n {w : List Nat} {x : Int32} (h : x < 0) : ansW w x = -9 := if_pos h
theorem ansW_o {w : List Nat} {j : Nat} (hj : j < 2 ^ 31) (hl : w.length ≤ 8) (h : w.length ≤ j) : ansW w (nI j) = -9 := by
  rw [ansW, if_neg (nI_pos hj), if_pos (nI_le h hj)]
theorem ansW_i {w : List Nat} {j : Nat} (hl : w.length ≤ 8) (h : j < w.length) : ansW w (nI j) = nI (w.getD j 0) := by
  have hj : j < 2 ^ 31 := by omega
  rw [ansW, if_neg (nI_pos hj), if_neg (nI_ge h (by omega)), nI_clamp hj]

set_option maxHeartbeats 4000000 in
set_option maxRecDepth 100000 in
theorem c_X5_bit (l : Launch) (D : va_G) (cI cC : ClassId) (p : Nat) (hp : p < 31) : XMi l yX5_bit wsX5_bit ({ frames := 0, cells := 0, slots := 0, locals := 0 } : Room) D (xT cI cC) xE0 [] [.int (nI p)] (S := Unit) (fun r _ => r = nI (2 ^ p)) (fun _ => []) 0 0 := by
  refine xMet_i (cc := cX5_bit) (nL := 1) (ret := some .int) (by decide +kernel) rfl (Nat.le_of_ble_eq_true rfl) (fun κ A h0 hn0 hE => ?_)
  refine xlv (lv' := [(0, .int (nI p))]) [0] rfl ?_
  refine xiconst (v := (nI 1)) h0 dX5_bit_0 (by decide) ?_
  refine xiload_n h0 0 dX5_bit_1 rfl rfl ?_
  refine xishl (v := ((nI 1) <<< ((nI p) &&& 31))) h0 dX5_bit_2 rfl ?_
  refine xtop (v' := nI (2 ^ p)) (nI_shl1 p hp) ?_
  exact xiret h0 dX5_bit_3 () (by rfl) rfl
set_option maxHeartbeats 4000000 in
set_option maxRecDepth 100000 in
theorem c_X5_holds (l : Launch) (D : va_G) (cI cC : ClassId) (S p : Nat) (hp : p < 31) (hS : S < 2 ^ 31) : XMi l yX5_holds wsX5_holds ({ frames := 1, cells := 0, slots := 0, locals := 20 } : Room) D (xT cI cC) xE0 [] [.int (nI S), .int (nI p)] (S := Unit) (fun r _ => r = bI (S.testBit p = true)) (fun _ => []) 0 0 := by
  refine xMet_i (cc := cX5_holds) (nL := 2) (ret := some .boolean) (by decide +kernel) rfl (Nat.le_of_ble_eq_true rfl) (fun κ A h0 hn0 hE => ?_)
  refine xlv (lv' := [(0, .int (nI S)), (1, .int (nI p))]) [0, 1] rfl ?_
  refine xiload_n h0 0 dX5_holds_0 rfl rfl ?_
  refine xiload_n h0 1 dX5_holds_1 rfl rfl ?_
  refine xcallS_i (nn := 1) (w2 := fun u_ => []) (wr := []) (rest := [.int (nI S)]) h0 (c_X5_bit (xL κ) D cI cC p (by omega)) gX5_holds_X5_bit (by decide +kernel) rfl rfl rfl ⟨Nat.le_of_ble_eq_true rfl, Nat.le_of_ble_eq_true rfl⟩ ⟨by decide, by decide⟩ (fun _ _ _ _ h => h) (fun _ _ _ _ _ _ _ => trivial) rfl (Nat.le_of_ble_eq_true rfl) rfl [] [] [] ⟨rfl, rfl, rfl, rfl, rfl⟩ (fun _ => ⟨rfl, rfl⟩) dX5_holds_2 (fun r_2 u_ hr_1 => ?_)
  subst hr_1
  refine xiand (v := (nI (S &&& (2 ^ p)))) h0 dX5_holds_5 (nx_and _ _) ?_
  refine xnif_eq (tgt := 13) h0 dX5_holds_6 (by decide) (by exact and_bit_lt p hS) (fun c_3 => ?_) (fun c_3 => ?_)
  · skip
    refine xiconst (v := (nI 0)) h0 dX5_holds_13 (by decide) ?_
    exact xzret h0 dX5_holds_14 nar_n0 () (by exact (bI_f (by first | exact (and_bit S p).mp (by omega) | exact Decidable.of_not_not (fun z => absurd ((and_bit S p).mpr z) (by omega)))).symm) rfl
  · skip
    refine xiconst (v := (nI 1)) h0 dX5_holds_9 (by decide) ?_
    refine xgoto (tgt := 14) h0 dX5_holds_10 (by decide) ?_
    exact xzret h0 dX5_holds_14 nar_n1 () (by exact (bI_t (by first | exact (and_bit S p).mp (by omega) | exact Decidable.of_not_not (fun z => absurd ((and_bit S p).mpr z) (by omega)))).symm) rfl
set_option maxHeartbeats 4000000 in
set_option maxRecDepth 100000 in
theorem c_X4_clear (l : Launch) (D : va_G) (cI cC : ClassId) (a0 a1 : Nat) (w : List Nat) (G : Nat → Nat)  : XMv l yX4_clear wsX4_clear ({ frames := 0, cells := 0, slots := 0, locals := 0 } : Room) D (xT cI cC) xE0 (wWay cI a0 a1 w G) [.ref a0] (S := Nat → Nat) (fun G2 => okW [] G2) (fun G2 => wWay cI a0 a1 [] G2) 0 0 := by
  refine xMet_v (cc := cX4_clear) (nL := 1)  (by decide +kernel) rfl (Nat.le_of_ble_eq_true rfl) (fun κ A h0 hn0 hE => ?_)
  have hiX4 : ∀ w ∈ u_ws RX4 TX4 3, w ∈ wsX4_clear := by decide +kernel
  refine xlv (lv' := [(0, .ref a0)]) [0] rfl ?_
  refine xaload_n h0 0 dX4_clear_0 rfl rfl ?_
  refine xiconst (v := (nI 0)) h0 dX4_clear_1 (by decide) ?_
  refine xput (ws' := [(a0, .inr (4, [.ref a1, .int (nI 0), .int (nI (mskL (w)))])), (a1, .inl (cI, 8, .inl (fun i => nI (G i))))]) (C := RX4) (T := TX4) (N := 3) (ci := 4) (ty := tyX4 1) h0 hiX4 tyX4 tyX4_ok nmX4 0 rfl rfl 1 (by decide) (List.mem_of_getElem? (i := 1) rfl) rfl (by decide +kernel) (rfl) (rfl) (Nat.le_of_ble_eq_true rfl) dX4_clear_2 rfl ?_
  refine xaload_n h0 0 dX4_clear_5 rfl rfl ?_
  refine xiconst (v := (nI 0)) h0 dX4_clear_6 (by decide) ?_
  refine xput (ws' := [(a0, .inr (4, [.ref a1, .int (nI 0), .int (nI 0)])), (a1, .inl (cI, 8, .inl (fun i => nI (G i))))]) (C := RX4) (T := TX4) (N := 3) (ci := 4) (ty := tyX4 2) h0 hiX4 tyX4 tyX4_ok nmX4 0 rfl rfl 2 (by decide) (List.mem_of_getElem? (i := 2) rfl) rfl (by decide +kernel) (rfl) (rfl) (Nat.le_of_ble_eq_true rfl) dX4_clear_7 rfl ?_
  exact xvret h0 dX4_clear_10 G (by intro i hi; exact absurd hi (Nat.not_lt_zero i)) rfl
set_option maxHeartbeats 4000000 in
set_option maxRecDepth 100000 in
theorem c_X4_add (l : Launch) (D : va_G) (cI cC : ClassId) (a0 a1 : Nat) (w : List Nat) (G : Nat → Nat) (p : Nat) (hG : okW w G) (hl : w.length < 8) (hp : p < 8) : XMv l yX4_add wsX4_add ({ frames := 1, cells := 0, slots := 0, locals := 20 } : Room) D (xT cI cC) xE0 (wWay cI a0 a1 w G) [.ref a0, .int (nI p)] (S := Nat → Nat) (fun G2 => okW (w ++ [p]) G2) (fun G2 => wWay cI a0 a1 (w ++ [p]) G2) 0 0 := by
  refine xMet_v (cc := cX4_add) (nL := 2)  (by decide +kernel) rfl (Nat.le_of_ble_eq_true rfl) (fun κ A h0 hn0 hE => ?_)
  have hiX4 : ∀ w ∈ u_ws RX4 TX4 3, w ∈ wsX4_add := by decide +kernel
  refine xlv (lv' := [(0, .ref a0), (1, .int (nI p))]) [0, 1] rfl ?_
  refine xaload_n h0 0 dX4_add_0 rfl rfl ?_
  refine xget (C := RX4) (T := TX4) (N := 3) (ci := 4) (v := .int (nI ((w).length))) h0 hiX4 0 rfl rfl 1 (by decide) (List.mem_of_getElem? (i := 1) rfl) rfl dX4_add_1 ?_
  refine xbipush (v := (nI 8)) h0 dX4_add_4 (by decide) ?_
  refine xncmp_ge (tgt := 42) h0 dX4_add_6 (by decide) (by omega) (by omega) (fun c_1 => ?_) (fun c_1 => ?_)
  · exact absurd c_1 (by omega)
  · skip
    refine xaload_n h0 0 dX4_add_9 rfl rfl ?_
    refine xget (C := RX4) (T := TX4) (N := 3) (ci := 4) (v := .ref a1) h0 hiX4 0 rfl rfl 0 (by decide) (List.mem_of_getElem? (i := 2) rfl) rfl dX4_add_10 ?_
    refine xaload_n h0 0 dX4_add_13 rfl rfl ?_
    refine xget (C := RX4) (T := TX4) (N := 3) (ci := 4) (v := .int (nI ((w).length))) h0 hiX4 0 rfl rfl 1 (by decide) (List.mem_of_getElem? (i := 1) rfl) rfl dX4_add_14 ?_
    refine xiload_n h0 1 dX4_add_17 rfl rfl ?_
    refine xiastN (ws' := [(a0, .inr (4, [.ref a1, .int (nI ((w).length)), .int (nI (mskL (w)))])), (a1, .inl (cI, 8, .inl (fun i => nI ((upN G ((w).length) p) i))))]) h0 1 0 rfl rfl (by omega) (by decide) dX4_add_18 rfl ?_
    refine xaload_n h0 0 dX4_add_19 rfl rfl ?_
    refine xdup h0 dX4_add_20 rfl ?_
    refine xget (C := RX4) (T := TX4) (N := 3) (ci := 4) (v := .int (nI ((w).length))) h0 hiX4 0 rfl rfl 1 (by decide) (List.mem_of_getElem? (i := 1) rfl) rfl dX4_add_21 ?_
    refine xiconst (v := (nI 1)) h0 dX4_add_24 (by decide) ?_
    refine xiadd (v := (nI (((w).length) + 1))) h0 dX4_add_25 (nI_add _ _) ?_
    refine xput (ws' := [(a0, .inr (4, [.ref a1, .int (nI (((w).length) + 1)), .int (nI (mskL (w)))])), (a1, .inl (cI, 8, .inl (fun i => nI ((upN G ((w).length) p) i))))]) (C := RX4) (T := TX4) (N := 3) (ci := 4) (ty := tyX4 1) h0 hiX4 tyX4 tyX4_ok nmX4 0 rfl rfl 1 (by decide) (List.mem_of_getElem? (i := 1) rfl) rfl (by decide +kernel) (rfl) (rfl) (Nat.le_of_ble_eq_true rfl) dX4_add_26 rfl ?_
    refine xaload_n h0 0 dX4_add_29 rfl rfl ?_
    refine xdup h0 dX4_add_30 rfl ?_
    refine xget (C := RX4) (T := TX4) (N := 3) (ci := 4) (v := .int (nI (mskL (w)))) h0 hiX4 0 rfl rfl 2 (by decide) (List.mem_of_getElem? (i := 3) rfl) rfl dX4_add_31 ?_
    refine xiload_n h0 1 dX4_add_34 rfl rfl ?_
    refine xcallSN_i (nn := 1) (w2 := fun u_ => [(a0, .inr (4, [.ref a1, .int (nI (((w).length) + 1)), .int (nI (mskL (w)))])), (a1, .inl (cI, 8, .inl (fun i => nI ((upN G ((w).length) p) i))))]) (wr := [(a0, .inr (4, [.ref a1, .int (nI (((w).length) + 1)), .int (nI (mskL (w)))])), (a1, .inl (cI, 8, .inl (fun i => nI ((upN G ((w).length) p) i))))]) (rest := [.int (nI (mskL (w))), .ref a0]) (host := "AskAnotherFirst") h0 (c_X5_bit (xL κ) D cI cC p (by omega)) gX4_add_X5_bit_n22 (List.mem_of_getElem? (i := 8) rfl) (List.mem_of_getElem? (i := 5) rfl) (List.mem_of_getElem? (i := 4) rfl) (by decide +kernel) rfl rfl rfl ⟨Nat.le_of_ble_eq_true rfl, Nat.le_of_ble_eq_true rfl⟩ ⟨by decide, by decide⟩ (fun _ _ _ _ h => h) (fun _ _ _ _ _ _ _ => trivial) rfl (Nat.le_of_ble_eq_true rfl) rfl [] [0, 1] [0, 1] ⟨rfl, rfl, rfl, rfl, rfl⟩ (fun _ => ⟨rfl, rfl⟩) dX4_add_35 (fun r_3 u_ hr_2 => ?_)
    subst hr_2
    refine xior (v := (nI ((mskL (w)) ||| (2 ^ p)))) h0 dX4_add_38 (nx_or _ _) ?_
    refine xput (ws' := [(a0, .inr (4, [.ref a1, .int (nI (((w).length) + 1)), .int (nI ((mskL (w)) ||| (2 ^ p)))])), (a1, .inl (cI, 8, .inl (fun i => nI ((upN G ((w).length) p) i))))]) (C := RX4) (T := TX4) (N := 3) (ci := 4) (ty := tyX4 2) h0 hiX4 tyX4 tyX4_ok nmX4 0 rfl rfl 2 (by decide) (List.mem_of_getElem? (i := 3) rfl) rfl (by decide +kernel) (rfl) (rfl) (Nat.le_of_ble_eq_true rfl) dX4_add_39 rfl ?_
    exact xvret h0 dX4_add_42 (upN G w.length p) (by exact okW_snoc hG p) (by rw [wWay, List.length_append, mskL_snoc]; rfl)
set_option maxHeartbeats 4000000 in
set_option maxRecDepth 100000 in
theorem c_X4_dropLast (l : Launch) (D : va_G) (cI cC : ClassId) (a0 a1 : Nat) (w : List Nat) (G : Nat → Nat) (p : Nat) (hG : okW (w ++ [p]) G) (hw : ∀ q ∈ w, q < 8) (hp : p < 8) (hn : p ∉ w) (hl : w.length < 8) : XMv l yX4_dropLast wsX4_dropLast ({ frames := 1, cells := 0, slots := 0, locals := 20 } : Room) D (xT cI cC) xE0 (wWay cI a0 a1 (w ++ [p]) G) [.ref a0] (S := Nat → Nat) (fun G2 => okW w G2) (fun G2 => wWay cI a0 a1 w G2) 0 0 := by
  refine xMet_v (cc := cX4_dropLast) (nL := 1)  (by decide +kernel) rfl (Nat.le_of_ble_eq_true rfl) (fun κ A h0 hn0 hE => ?_)
  have hiX4 : ∀ w ∈ u_ws RX4 TX4 3, w ∈ wsX4_dropLast := by decide +kernel
  refine xlv (lv' := [(0, .ref a0)]) [0] rfl ?_
  have hlen : (w ++ [p]).length = w.length + 1 := by simp
  refine xaload_n h0 0 dX4_dropLast_0 rfl rfl ?_
  refine xget (C := RX4) (T := TX4) (N := 3) (ci := 4) (v := .int (nI ((w ++ [p]).length))) h0 hiX4 0 rfl rfl 1 (by decide) (List.mem_of_getElem? (i := 1) rfl) rfl dX4_dropLast_1 ?_
  refine xnif_le (tgt := 40) h0 dX4_dropLast_4 (by decide) (by omega) (fun c_1 => ?_) (fun c_1 => ?_)
  · exact absurd c_1 (by omega)
  · skip
    refine xaload_n h0 0 dX4_dropLast_7 rfl rfl ?_
    refine xdup h0 dX4_dropLast_8 rfl ?_
    refine xget (C := RX4) (T := TX4) (N := 3) (ci := 4) (v := .int (nI ((w ++ [p]).length))) h0 hiX4 0 rfl rfl 1 (by decide) (List.mem_of_getElem? (i := 1) rfl) rfl dX4_dropLast_9 ?_
    refine xiconst (v := (nI 1)) h0 dX4_dropLast_12 (by decide) ?_
    refine xisub (v := (nI (((w ++ [p]).length) - 1))) h0 dX4_dropLast_13 (pk_sub (by omega)) ?_
    refine xput (ws' := [(a0, .inr (4, [.ref a1, .int (nI (((w ++ [p]).length) - 1)), .int (nI (mskL (w ++ [p])))])), (a1, .inl (cI, 8, .inl (fun i => nI (G i))))]) (C := RX4) (T := TX4) (N := 3) (ci := 4) (ty := tyX4 1) h0 hiX4 tyX4 tyX4_ok nmX4 0 rfl rfl 1 (by decide) (List.mem_of_getElem? (i := 1) rfl) rfl (by decide +kernel) (rfl) (rfl) (Nat.le_of_ble_eq_true rfl) dX4_dropLast_14 rfl ?_
    refine xaload_n h0 0 dX4_dropLast_17 rfl rfl ?_
    refine xdup h0 dX4_dropLast_18 rfl ?_
    refine xget (C := RX4) (T := TX4) (N := 3) (ci := 4) (v := .int (nI (mskL (w ++ [p])))) h0 hiX4 0 rfl rfl 2 (by decide) (List.mem_of_getElem? (i := 2) rfl) rfl dX4_dropLast_19 ?_
    refine xaload_n h0 0 dX4_dropLast_22 rfl rfl ?_
    refine xget (C := RX4) (T := TX4) (N := 3) (ci := 4) (v := .ref a1) h0 hiX4 0 rfl rfl 0 (by decide) (List.mem_of_getElem? (i := 3) rfl) rfl dX4_dropLast_23 ?_
    refine xaload_n h0 0 dX4_dropLast_26 rfl rfl ?_
    refine xget (C := RX4) (T := TX4) (N := 3) (ci := 4) (v := .int (nI (((w ++ [p]).length) - 1))) h0 hiX4 0 rfl rfl 1 (by decide) (List.mem_of_getElem? (i := 1) rfl) rfl dX4_dropLast_27 ?_
    refine xiald (v := (nI p)) h0 1 0 rfl rfl (by omega) (by decide) dX4_dropLast_30 (by rw [hG _ (by omega)]; simp) ?_
    refine xcallSN_i (nn := 1) (w2 := fun u_ => [(a0, .inr (4, [.ref a1, .int (nI (((w ++ [p]).length) - 1)), .int (nI (mskL (w ++ [p])))])), (a1, .inl (cI, 8, .inl (fun i => nI (G i))))]) (wr := [(a0, .inr (4, [.ref a1, .int (nI (((w ++ [p]).length) - 1)), .int (nI (mskL (w ++ [p])))])), (a1, .inl (cI, 8, .inl (fun i => nI (G i))))]) (rest := [.int (nI (mskL (w ++ [p]))), .ref a0]) (host := "AskAnotherFirst") h0 (c_X5_bit (xL κ) D cI cC p (by omega)) gX4_dropLast_X5_bit_n22 (List.mem_of_getElem? (i := 8) rfl) (List.mem_of_getElem? (i := 5) rfl) (List.mem_of_getElem? (i := 4) rfl) (by decide +kernel) rfl rfl rfl ⟨Nat.le_of_ble_eq_true rfl, Nat.le_of_ble_eq_true rfl⟩ ⟨by decide, by decide⟩ (fun _ _ _ _ h => h) (fun _ _ _ _ _ _ _ => trivial) rfl (Nat.le_of_ble_eq_true rfl) rfl [] [0, 1] [0, 1] ⟨rfl, rfl, rfl, rfl, rfl⟩ (fun _ => ⟨rfl, rfl⟩) dX4_dropLast_31 (fun r_3 u_ hr_2 => ?_)
    subst hr_2
    refine xiconst (v := (-1)) h0 dX4_dropLast_34 (by decide) ?_
    refine xixor (v := ((nI (2 ^ p)) ^^^ (-1))) h0 dX4_dropLast_35 rfl ?_
    refine xiand (v := (nI (mskL w))) h0 dX4_dropLast_36 (by rw [nx_andn _ (mskL_lt _ (fun q hq => by rcases List.mem_append.mp hq with z | z; exact hw q z; rw [List.mem_singleton.mp z]; exact hp)), mskL_out hw hp hn]) ?_
    refine xput (ws' := [(a0, .inr (4, [.ref a1, .int (nI (((w ++ [p]).length) - 1)), .int (nI (mskL w))])), (a1, .inl (cI, 8, .inl (fun i => nI (G i))))]) (C := RX4) (T := TX4) (N := 3) (ci := 4) (ty := tyX4 2) h0 hiX4 tyX4 tyX4_ok nmX4 0 rfl rfl 2 (by decide) (List.mem_of_getElem? (i := 2) rfl) rfl (by decide +kernel) (rfl) (rfl) (Nat.le_of_ble_eq_true rfl) dX4_dropLast_37 rfl ?_
    exact xvret h0 dX4_dropLast_40 G (by exact okW_drop hG) (by rw [show (w ++ [p]).length - 1 = w.length by omega])
set_option maxHeartbeats 4000000 in
set_option maxRecDepth 100000 in
theorem c_X4_answerAt (l : Launch) (D : va_G) (cI cC : ClassId) (a0 a1 : Nat) (w : List Nat) (G : Nat → Nat) (x : Int32) (hG : okW w G) (hl : w.length ≤ 8) : XMi l yX4_answerAt wsX4_answerAt ({ frames := 0, cells := 0, slots := 0, locals := 0 } : Room) D (xT cI cC) xE0 (wWay cI a0 a1 w G) [.ref a0, .int x] (S := Unit) (fun r _ => r = ansW w x) (fun _ => (wWay cI a0 a1 w G)) 0 0 := by
  refine xMet_i (cc := cX4_answerAt) (nL := 2) (ret := some .int) (by decide +kernel) rfl (Nat.le_of_ble_eq_true rfl) (fun κ A h0 hn0 hE => ?_)
  have hiX4 : ∀ w ∈ u_ws RX4 TX4 3, w ∈ wsX4_answerAt := by decide +kernel
  refine xlv (lv' := [(0, .ref a0), (1, .int x)]) [0, 1] rfl ?_
  refine xiload_n h0 1 dX4_answerAt_0 rfl rfl ?_
  refine xif_lt (tgt := 21) h0 dX4_answerAt_1 (by decide)  (fun c_1 => ?_) (fun c_1 => ?_)
  · skip
    refine xbipush (v := (-9)) h0 dX4_answerAt_21 (by decide) ?_
    exact xiret h0 dX4_answerAt_23 () (by first | exact (ansW_n (by assumption)).symm | exact (ansW_o hj hl (by assumption)).symm | exact (ansW_i hl (by assumption)).symm) rfl
  · skip
    obtain ⟨j, hj, rfl⟩ := nI_of c_1
    refine xiload_n h0 1 dX4_answerAt_4 rfl rfl ?_
    refine xaload_n h0 0 dX4_answerAt_5 rfl rfl ?_
    refine xget (C := RX4) (T := TX4) (N := 3) (ci := 4) (v := .int (nI ((w).length))) h0 hiX4 0 rfl rfl 1 (by decide) (List.mem_of_getElem? (i := 1) rfl) rfl dX4_answerAt_6 ?_
    refine xncmp_ge (tgt := 21) h0 dX4_answerAt_9 (by decide) (by omega) (by omega) (fun c_2 => ?_) (fun c_2 => ?_)
    · skip
      refine xbipush (v := (-9)) h0 dX4_answerAt_21 (by decide) ?_
      exact xiret h0 dX4_answerAt_23 () (by first | exact (ansW_n (by assumption)).symm | exact (ansW_o hj hl (by assumption)).symm | exact (ansW_i hl (by assumption)).symm) rfl
    · skip
      refine xaload_n h0 0 dX4_answerAt_12 rfl rfl ?_
      refine xget (C := RX4) (T := TX4) (N := 3) (ci := 4) (v := .ref a1) h0 hiX4 0 rfl rfl 0 (by decide) (List.mem_of_getElem? (i := 2) rfl) rfl dX4_answerAt_13 ?_
      refine xiload_n h0 1 dX4_answerAt_16 rfl rfl ?_
      refine xiald (v := (nI (w.getD j 0))) h0 1 0 rfl rfl (by omega) (by decide) dX4_answerAt_17 (by rw [hG j (by assumption)]) ?_
      refine xgoto (tgt := 23) h0 dX4_answerAt_18 (by decide) ?_
      exact xiret h0 dX4_answerAt_23 () (by first | exact (ansW_n (by assumption)).symm | exact (ansW_o hj hl (by assumption)).symm | exact (ansW_i hl (by assumption)).symm) rfl
set_option maxHeartbeats 4000000 in
set_option maxRecDepth 100000 in
theorem c_X4_become (l : Launch) (D : va_G) (cI cC : ClassId) (a0 a1 b0 b1 : Nat) (w v : List Nat) (G F : Nat → Nat) (hF : okW v F) : XMv l yX4_become wsX4_become ({ frames := 1, cells := 0, slots := 0, locals := 100 } : Room) D (xT cI cC) xE0 ((wWay cI a0 a1 w G) ++ (wWay cI b0 b1 v F)) [.ref a0, .ref b0] (S := Nat → Nat) (fun G2 => okW v G2) (fun G2 => wWay cI a0 a1 v G2 ++ wWay cI b0 b1 v F) 0 0 := by
  refine xMet_v (cc := cX4_become) (nL := 2)  (by decide +kernel) rfl (Nat.le_of_ble_eq_true rfl) (fun κ A h0 hn0 hE => ?_)
  have hiX4 : ∀ w ∈ u_ws RX4 TX4 3, w ∈ wsX4_become := by decide +kernel
  refine xlv (lv' := [(0, .ref a0), (1, .ref b0)]) [0, 1] rfl ?_
  refine xaload_n h0 1 dX4_become_0 rfl rfl ?_
  refine xget (C := RX4) (T := TX4) (N := 3) (ci := 4) (v := .ref b1) h0 hiX4 2 rfl rfl 0 (by decide) (List.mem_of_getElem? (i := 1) rfl) rfl dX4_become_1 ?_
  refine xiconst (v := (nI 0)) h0 dX4_become_4 (by decide) ?_
  refine xaload_n h0 0 dX4_become_5 rfl rfl ?_
  refine xget (C := RX4) (T := TX4) (N := 3) (ci := 4) (v := .ref a1) h0 hiX4 0 rfl rfl 0 (by decide) (List.mem_of_getElem? (i := 1) rfl) rfl dX4_become_6 ?_
  refine xiconst (v := (nI 0)) h0 dX4_become_9 (by decide) ?_
  refine xbipush (v := (nI 8)) h0 dX4_become_10 (by decide) ?_
  refine xcopy (ws' := ([(a0, .inr (4, [.ref a1, .int (nI ((w).length)), .int (nI (mskL (w)))])), (a1, .inl (cI, 8, .inl (fun i => nI (F i))))] ++ (wWay cI b0 b1 v F))) h0 (List.mem_of_getElem? (i := 2) rfl) (List.mem_of_getElem? (i := 3) rfl) (List.mem_of_getElem? (i := 4) rfl) (List.mem_of_getElem? (i := 5) rfl) 3 1 0 rfl rfl rfl (by decide) ⟨by decide, by decide +kernel⟩ dX4_become_12 rfl ?_
  refine xaload_n h0 0 dX4_become_15 rfl rfl ?_
  refine xaload_n h0 1 dX4_become_16 rfl rfl ?_
  refine xget (C := RX4) (T := TX4) (N := 3) (ci := 4) (v := .int (nI ((v).length))) h0 hiX4 2 rfl rfl 1 (by decide) (List.mem_of_getElem? (i := 6) rfl) rfl dX4_become_17 ?_
  refine xput (ws' := ([(a0, .inr (4, [.ref a1, .int (nI ((v).length)), .int (nI (mskL (w)))])), (a1, .inl (cI, 8, .inl (fun i => nI (F i))))] ++ (wWay cI b0 b1 v F))) (C := RX4) (T := TX4) (N := 3) (ci := 4) (ty := tyX4 1) h0 hiX4 tyX4 tyX4_ok nmX4 0 rfl rfl 1 (by decide) (List.mem_of_getElem? (i := 6) rfl) rfl (by decide +kernel) (rfl) (rfl) (Nat.le_of_ble_eq_true rfl) dX4_become_20 rfl ?_
  refine xaload_n h0 0 dX4_become_23 rfl rfl ?_
  refine xaload_n h0 1 dX4_become_24 rfl rfl ?_
  refine xget (C := RX4) (T := TX4) (N := 3) (ci := 4) (v := .int (nI (mskL (v)))) h0 hiX4 2 rfl rfl 2 (by decide) (List.mem_of_getElem? (i := 7) rfl) rfl dX4_become_25 ?_
  refine xput (ws' := ([(a0, .inr (4, [.ref a1, .int (nI ((v).length)), .int (nI (mskL (v)))])), (a1, .inl (cI, 8, .inl (fun i => nI (F i))))] ++ (wWay cI b0 b1 v F))) (C := RX4) (T := TX4) (N := 3) (ci := 4) (ty := tyX4 2) h0 hiX4 tyX4 tyX4_ok nmX4 0 rfl rfl 2 (by decide) (List.mem_of_getElem? (i := 7) rfl) rfl (by decide +kernel) (rfl) (rfl) (Nat.le_of_ble_eq_true rfl) dX4_become_28 rfl ?_
  exact xvret h0 dX4_become_31 F (by exact hF) rfl
