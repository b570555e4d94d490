/-! Town: what changes it -/
def zT : TT := fun _ _ => 0
theorem mk_0 {P : Nat → Bool} (h : ∀ q, P q = false) : ∀ n, mkN P n = 0 := by
  intro n
  induction n with
  | zero => rfl
  | succ n ih => show mkN P n ||| (bif P n then 2 ^ n else 0) = 0; rw [ih, h n]; simp
theorem mt_z (p : Nat) : mtS zT p = 0 := mk_0 (fun q => by simp [zT]) 8
theorem rc_z (mu p : Nat) : rcS zT mu p = 0 := mk_0 (fun q => by simp [zT]) 8
theorem bk_z (p : Nat) : bkS zT p = 0 := mk_0 (fun q => by simp [zT]) 8
/-- a new person -/
def addP (T : TT) (as sa kn ki : Nat) : TT := up2 (up2 (up2 (up2 (up2 T 0 (T 5 0) as) 1 (T 5 0) sa) 2 (T 5 0) kn) 3 (T 5 0) ki) 5 0 (T 5 0 + 1)
def addT (T : TT) (as sa kn ki : Nat) : TT := if T 5 0 < 8 ∧ kn ≤ 100 then addP T as sa kn ki else T
def hitN (T : TT) (ki r : Nat) : Bool := decide (0 < ki) && Nat.beq (T 3 r) ki
def mateK (T : TT) (ki : Nat) : Nat → Nat → Nat
  | 0 => mtS T
  | i + 1 => if hitN T ki i = true then upN (upN (mateK T ki i) i (mateK T ki i i ||| 2 ^ T 5 0)) (T 5 0) (upN (mateK T ki i) i (mateK T ki i i ||| 2 ^ T 5 0) (T 5 0) ||| 2 ^ i) else mateK T ki i
theorem mateK_n {T : TT} {ki i : Nat} (h : hitN T ki i = false) : mateK T ki (i + 1) = mateK T ki i := by
  rw [mateK, h]; rfl
theorem mateK_y {T : TT} {ki i : Nat} (h : hitN T ki i = true) : mateK T ki (i + 1) = upN (upN (mateK T ki i) i (mateK T ki i i ||| 2 ^ T 5 0)) (T 5 0) (upN (mateK T ki i) i (mateK T ki i i ||| 2 ^ T 5 0) (T 5 0) ||| 2 ^ i) := by
  rw [mateK, if_pos h]
theorem hit_0 {T : TT} {ki i : Nat} (h : ki = 0) : hitN T ki i = false := by subst h; rfl
theorem hit_n {T : TT} {ki i : Nat} (h : T 3 i ≠ ki) : hitN T ki i = false := by unfold hitN; rw [beqF h, Bool.and_false]
theorem hit_t {T : TT} {ki i : Nat} (h0 : 0 < ki) (h : T 3 i = ki) : hitN T ki i = true := by unfold hitN; rw [beqT h, decide_eq_true h0]; rfl
theorem mateK_bit (T : TT) (ki p q : Nat) : ∀ i, i ≤ T 5 0 → (mateK T ki i p).testBit q = ((mtS T p).testBit q || ((decide (p < i) && (hitN T ki p && decide (q = T 5 0))) || (decide (p = T 5 0) && (decide (q < i) && hitN T ki q)))) := by
  intro i
  induction i with
  | zero => intro _; simp [mateK]
  | succ i ih =>
    intro hi
    have ih := ih (by omega)
    unfold mateK
    by_cases hh : hitN T ki i = true
    · rw [if_pos hh]
      by_cases hp : p = T 5 0
      · rw [hp] at ih ⊢
        rw [upN_s, upN_n _ _ (show T 5 0 ≠ i by omega), Nat.testBit_or, ih, Nat.testBit_two_pow]
        by_cases hq : q = i
        · subst hq
          have h1 : ¬ T 5 0 < q := by omega
          have h2 : ¬ T 5 0 < q + 1 := by omega
          simp [h1, h2, hh]
        · have h1 : ¬ i = q := fun z => hq z.symm
          have h2 : decide (q < i + 1) = decide (q < i) := by apply decide_eq_decide.mpr; omega
          have h3 : decide (T 5 0 < i + 1) = decide (T 5 0 < i) := by apply decide_eq_decide.mpr; omega
          rw [h2, h3]; simp [h1]
      · rw [upN_n _ _ hp]
        by_cases hpi : p = i
        · subst hpi
          rw [upN_s, Nat.testBit_or, ih, Nat.testBit_two_pow]
          have h1 : ¬ p < p := Nat.lt_irrefl p
          by_cases hq : q = T 5 0
          · rw [hq]; simp [h1, hp, hh]
          · have : ¬ T 5 0 = q := fun z => hq z.symm
            simp [h1, hp, hq, this]
        · rw [upN_n _ _ hpi, ih]
          have h2 : decide (p < i + 1) = decide (p < i) := by apply decide_eq_decide.mpr; omega
          rw [h2]; simp [hp]
    · rw [if_neg hh, ih]
      have hf : hitN T ki i = false := by cases h : hitN T ki i with
        | true => exact absurd h hh
        | false => rfl
      by_cases hp : p = i
      · subst hp
        have h1 : ¬ p = T 5 0 := by omega
        simp [hf, h1]
      · have h2 : decide (p < i + 1) = decide (p < i) := by apply decide_eq_decide.mpr; omega
        rw [h2]
        by_cases hq : q = i
        · subst hq; simp [hf]
        · have h3 : decide (q < i + 1) = decide (q < i) := by apply decide_eq_decide.mpr; omega
          rw [h3]
theorem addP_3 (T : TT) (as sa kn ki r : Nat) : addP T as sa kn ki 3 r = if r = T 5 0 then ki else T 3 r := by
  by_cases h : r = T 5 0
  · rw [if_pos h]; show (bif Nat.beq r (T 5 0) then ki else T 3 r) = ki; rw [beqT h]; rfl
  · rw [if_neg h]; show (bif Nat.beq r (T 5 0) then ki else T 3 r) = T 3 r; rw [beqF h]; rfl
theorem addP_5 (T : TT) (as sa kn ki : Nat) : addP T as sa kn ki 5 0 = T 5 0 + 1 := rfl
theorem mate_all {T : TT} (as sa kn ki : Nat) (hn : T 5 0 < 8) (p : Nat) : mateK T ki (T 5 0) p = mtS (addP T as sa kn ki) p := by
  apply Nat.eq_of_testBit_eq
  intro q
  rw [mateK_bit T ki p q _ (Nat.le_refl _)]
  unfold mtS
  rw [mkN_bit, mkN_bit, addP_5, addP_3, addP_3]
  unfold hitN
  by_cases hp : p = T 5 0
  · by_cases hq : q = T 5 0
    · subst hq
      simp [hp]
    · have h1 : ¬ T 5 0 < T 5 0 := Nat.lt_irrefl _
      by_cases hqn : q < T 5 0
      · have a1 : q < 8 := by omega
        have a2 : q < T 5 0 + 1 := by omega
        simp [hp, hq, hqn, a1, a2, beqF hq]
      · have a2 : ¬ q < T 5 0 + 1 := by omega
        simp [hp, hqn, a2]
  · by_cases hq : q = T 5 0
    · have h0 : ¬ T 5 0 = p := fun z => hp z.symm
      by_cases hpn : p < T 5 0
      · have a2 : p < T 5 0 + 1 := by omega
        rw [hq]
        by_cases hk : T 3 p = ki
        · subst hk
          simp [hp, hpn, hn, a2, beqF h0]
        · have hk2 : ¬ ki = T 3 p := fun z => hk z.symm
          simp [hp, hpn, hn, a2, beqF h0, beqF hk, beqF hk2]
      · have a2 : ¬ p < T 5 0 + 1 := by omega
        simp [hp, hpn, a2]
    · have a1 : decide (p < T 5 0 + 1) = decide (p < T 5 0) := by apply decide_eq_decide.mpr; omega
      have a2 : decide (q < T 5 0 + 1) = decide (q < T 5 0) := by apply decide_eq_decide.mpr; omega
      rw [a1, a2]
      simp [hp, hq]
/-- minutes told anew -/
theorem rc_add {T : TT} {mu on ot by_ : Nat} (h1 : on < 8) (h2 : ot < 8) (h3 : 0 < by_) (hm : 8 ≤ mu) (j : Nat) : upN (rcS T mu) on (rcS T mu on ||| 2 ^ ot) j = rcS (up2 T 4 (8 * on + ot) by_) mu j := by
  apply Nat.eq_of_testBit_eq
  intro q
  unfold rcS
  rw [mkN_bit]
  by_cases hj : j = on
  · subst hj
    rw [upN_s, Nat.testBit_or, mkN_bit, Nat.testBit_two_pow]
    by_cases hq : q = ot
    · subst hq
      have e : up2 T 4 (8 * j + q) by_ 4 (8 * j + q) = by_ := up2_s T 4 _ by_
      have hm2 : j ≠ mu := by omega
      simp [e, h2, h3, beqF hm2]
    · have e : up2 T 4 (8 * j + ot) by_ 4 (8 * j + q) = T 4 (8 * j + q) := up2_c T (by omega)
      have : ¬ ot = q := fun z => hq z.symm
      simp [e, this]
  · rw [upN_n _ _ hj, mkN_bit]
    by_cases hq8 : q < 8
    · have e : up2 T 4 (8 * on + ot) by_ 4 (8 * j + q) = T 4 (8 * j + q) := up2_c T (by omega)
      simp [e]
    · simp [hq8]
theorem bk_add {T : TT} {on ot by_ : Nat} (h1 : on < 8) (h2 : ot < 8) (h3 : 0 < by_) (j : Nat) (hj8 : j < 8) : upN (bkS T) ot (bkS T ot ||| 2 ^ on) j = bkS (up2 T 4 (8 * on + ot) by_) j := by
  apply Nat.eq_of_testBit_eq
  intro q
  unfold bkS
  rw [mkN_bit]
  by_cases hj : j = ot
  · subst hj
    rw [upN_s, Nat.testBit_or, mkN_bit, Nat.testBit_two_pow]
    by_cases hq : q = on
    · subst hq
      have e : up2 T 4 (8 * q + j) by_ 4 (8 * q + j) = by_ := up2_s T 4 _ by_
      simp [e, h1, h3]
    · have e : up2 T 4 (8 * on + j) by_ 4 (8 * q + j) = T 4 (8 * q + j) := up2_c T (by omega)
      have : ¬ on = q := fun z => hq z.symm
      simp [e, this]
  · rw [upN_n _ _ hj, mkN_bit]
    by_cases hq8 : q < 8
    · have e : up2 T 4 (8 * on + ot) by_ 4 (8 * q + j) = T 4 (8 * q + j) := up2_c T (by omega)
      simp [e]
    · simp [hq8]
def okM (T : TT) (on ot by_ : Nat) : Prop := on < T 5 0 ∧ ot < T 5 0 ∧ on ≠ ot ∧ 1 ≤ by_ ∧ by_ ≤ 60
def addM (T : TT) (on ot by_ bo : Nat) : TT := if on < T 5 0 ∧ ot < T 5 0 ∧ on ≠ ot ∧ 1 ≤ by_ ∧ by_ ≤ 60 then (if bo = 0 then up2 T 4 (8 * on + ot) by_ else up2 (up2 T 4 (8 * on + ot) by_) 4 (8 * ot + on) by_) else T
def setL (T : TT) (v : Nat) : TT := if v ≤ 4 then up2 T 5 1 v else T
theorem rc_sil (T : TT) {p j : Nat} (hj : j < 8) : upN (rcS T 8) p 0 j = rcS T p j := by
  by_cases h : j = p
  · subst h
    rw [upN_s]
    exact (mk_0 (fun q => by rw [beqT (rfl : j = j)]; simp) 8).symm
  · rw [upN_n _ _ h]
    exact mkN_congr (fun q _ => by rw [beqF h, beqF (show j ≠ 8 by omega)])

set_option maxHeartbeats 4000000 in
set_option maxRecDepth 100000 in
theorem c_X3_init (l : Launch) (D : va_G) (cI cC : ClassId) (a0 : Nat)  : XMv l yX3_init wsX3_init ({ frames := 1, cells := 8, slots := 120, locals := 12 } : Room) D (xT cI cC) xE0 [(a0, .inr (3, [.null, .null, .null, .null, .null, .null, .null, .null, .int (nI 0), .int (nI 0), .int (nI 0), .int (nI 0), .int (nI 0)]))] [.ref a0] (S := Nat → Nat) (fun b => b 0 = a0) (fun b => wTown cI b zT 0 8 0 0) 8 120 := by
  refine xMet_v (cc := cX3_init) (nL := 1)  (by decide +kernel) rfl (Nat.le_of_ble_eq_true rfl) (fun κ A h0 hn0 hE => ?_)
  have hiX3 : ∀ w ∈ u_ws RX3 TX3 13, w ∈ wsX3_init := by decide +kernel
  refine xlv (lv' := [(0, .ref a0)]) [0] rfl ?_
  refine xaload_n h0 0 dX3_init_0 rfl rfl ?_
  refine xobj h0 (List.mem_of_getElem? (i := 1) rfl) (List.mem_of_getElem? (i := 2) rfl) (List.mem_of_getElem? (i := 3) rfl) ⟨by decide, by decide⟩ dX3_init_1 ?_
  refine xaload_n h0 0 dX3_init_4 rfl rfl ?_
  refine xbipush (v := (nI 8)) h0 dX3_init_5 (by decide) ?_
  refine xnewI h0 (List.mem_of_getElem? (i := 4) rfl) 0 rfl (by decide) ⟨by decide, by decide⟩ dX3_init_7 (fun q_1 => ?_)
  refine xeq (ws' := [(a0, .inr (3, [.null, .null, .null, .null, .null, .null, .null, .null, .int (nI 0), .int (nI 0), .int (nI 0), .int (nI 0), .int (nI 0)])), (q_1, .inl (cI, 8, .inl (fun i_ => nI ((fun _ => 0) i_))))]) rfl ?_
  refine xputF (ws' := [(a0, .inr (3, [.ref q_1, .null, .null, .null, .null, .null, .null, .null, .int (nI 0), .int (nI 0), .int (nI 0), .int (nI 0), .int (nI 0)])), (q_1, .inl (cI, 8, .inl (fun i_ => nI ((fun _ => 0) i_))))]) (C := RX3) (T := TX3) (N := 13) (ci := 3) (ty := tyX3 0) h0 hn0 hiX3 tyX3 tyX3_ok nmX3 0 rfl rfl 0 (by decide) (List.mem_of_getElem? (i := 5) rfl) rfl rfl (by decide +kernel) (rfl) (rfl) (Nat.le_of_ble_eq_true rfl) dX3_init_9 rfl ?_
  refine xaload_n h0 0 dX3_init_12 rfl rfl ?_
  refine xbipush (v := (nI 8)) h0 dX3_init_13 (by decide) ?_
  refine xnewI h0 (List.mem_of_getElem? (i := 4) rfl) 0 rfl (by decide) ⟨by decide, by decide⟩ dX3_init_15 (fun q_2 => ?_)
  refine xeq (ws' := [(a0, .inr (3, [.ref q_1, .null, .null, .null, .null, .null, .null, .null, .int (nI 0), .int (nI 0), .int (nI 0), .int (nI 0), .int (nI 0)])), (q_1, .inl (cI, 8, .inl (fun i_ => nI ((fun _ => 0) i_)))), (q_2, .inl (cI, 8, .inl (fun i_ => nI ((fun _ => 0) i_))))]) rfl ?_
  refine xputF (ws' := [(a0, .inr (3, [.ref q_1, .ref q_2, .null, .null, .null, .null, .null, .null, .int (nI 0), .int (nI 0), .int (nI 0), .int (nI 0), .int (nI 0)])), (q_1, .inl (cI, 8, .inl (fun i_ => nI ((fun _ => 0) i_)))), (q_2, .inl (cI, 8, .inl (fun i_ => nI ((fun _ => 0) i_))))]) (C := RX3) (T := TX3) (N := 13) (ci := 3) (ty := tyX3 1) h0 hn0 hiX3 tyX3 tyX3_ok nmX3 0 rfl rfl 1 (by decide) (List.mem_of_getElem? (i := 6) rfl) rfl rfl (by decide +kernel) (rfl) (rfl) (Nat.le_of_ble_eq_true rfl) dX3_init_17 rfl ?_
  refine xaload_n h0 0 dX3_init_20 rfl rfl ?_
  refine xbipush (v := (nI 8)) h0 dX3_init_21 (by decide) ?_
  refine xnewI h0 (List.mem_of_getElem? (i := 4) rfl) 0 rfl (by decide) ⟨by decide, by decide⟩ dX3_init_23 (fun q_3 => ?_)
  refine xeq (ws' := [(a0, .inr (3, [.ref q_1, .ref q_2, .null, .null, .null, .null, .null, .null, .int (nI 0), .int (nI 0), .int (nI 0), .int (nI 0), .int (nI 0)])), (q_1, .inl (cI, 8, .inl (fun i_ => nI ((fun _ => 0) i_)))), (q_2, .inl (cI, 8, .inl (fun i_ => nI ((fun _ => 0) i_)))), (q_3, .inl (cI, 8, .inl (fun i_ => nI ((fun _ => 0) i_))))]) rfl ?_
  refine xputF (ws' := [(a0, .inr (3, [.ref q_1, .ref q_2, .ref q_3, .null, .null, .null, .null, .null, .int (nI 0), .int (nI 0), .int (nI 0), .int (nI 0), .int (nI 0)])), (q_1, .inl (cI, 8, .inl (fun i_ => nI ((fun _ => 0) i_)))), (q_2, .inl (cI, 8, .inl (fun i_ => nI ((fun _ => 0) i_)))), (q_3, .inl (cI, 8, .inl (fun i_ => nI ((fun _ => 0) i_))))]) (C := RX3) (T := TX3) (N := 13) (ci := 3) (ty := tyX3 2) h0 hn0 hiX3 tyX3 tyX3_ok nmX3 0 rfl rfl 2 (by decide) (List.mem_of_getElem? (i := 7) rfl) rfl rfl (by decide +kernel) (rfl) (rfl) (Nat.le_of_ble_eq_true rfl) dX3_init_25 rfl ?_
  refine xaload_n h0 0 dX3_init_28 rfl rfl ?_
  refine xbipush (v := (nI 8)) h0 dX3_init_29 (by decide) ?_
  refine xnewI h0 (List.mem_of_getElem? (i := 4) rfl) 0 rfl (by decide) ⟨by decide, by decide⟩ dX3_init_31 (fun q_4 => ?_)
  refine xeq (ws' := [(a0, .inr (3, [.ref q_1, .ref q_2, .ref q_3, .null, .null, .null, .null, .null, .int (nI 0), .int (nI 0), .int (nI 0), .int (nI 0), .int (nI 0)])), (q_1, .inl (cI, 8, .inl (fun i_ => nI ((fun _ => 0) i_)))), (q_2, .inl (cI, 8, .inl (fun i_ => nI ((fun _ => 0) i_)))), (q_3, .inl (cI, 8, .inl (fun i_ => nI ((fun _ => 0) i_)))), (q_4, .inl (cI, 8, .inl (fun i_ => nI ((fun _ => 0) i_))))]) rfl ?_
  refine xputF (ws' := [(a0, .inr (3, [.ref q_1, .ref q_2, .ref q_3, .ref q_4, .null, .null, .null, .null, .int (nI 0), .int (nI 0), .int (nI 0), .int (nI 0), .int (nI 0)])), (q_1, .inl (cI, 8, .inl (fun i_ => nI ((fun _ => 0) i_)))), (q_2, .inl (cI, 8, .inl (fun i_ => nI ((fun _ => 0) i_)))), (q_3, .inl (cI, 8, .inl (fun i_ => nI ((fun _ => 0) i_)))), (q_4, .inl (cI, 8, .inl (fun i_ => nI ((fun _ => 0) i_))))]) (C := RX3) (T := TX3) (N := 13) (ci := 3) (ty := tyX3 3) h0 hn0 hiX3 tyX3 tyX3_ok nmX3 0 rfl rfl 3 (by decide) (List.mem_of_getElem? (i := 8) rfl) rfl rfl (by decide +kernel) (rfl) (rfl) (Nat.le_of_ble_eq_true rfl) dX3_init_33 rfl ?_
  refine xaload_n h0 0 dX3_init_36 rfl rfl ?_
  refine xbipush (v := (nI 8)) h0 dX3_init_37 (by decide) ?_
  refine xnewI h0 (List.mem_of_getElem? (i := 4) rfl) 0 rfl (by decide) ⟨by decide, by decide⟩ dX3_init_39 (fun q_5 => ?_)
  refine xeq (ws' := [(a0, .inr (3, [.ref q_1, .ref q_2, .ref q_3, .ref q_4, .null, .null, .null, .null, .int (nI 0), .int (nI 0), .int (nI 0), .int (nI 0), .int (nI 0)])), (q_1, .inl (cI, 8, .inl (fun i_ => nI ((fun _ => 0) i_)))), (q_2, .inl (cI, 8, .inl (fun i_ => nI ((fun _ => 0) i_)))), (q_3, .inl (cI, 8, .inl (fun i_ => nI ((fun _ => 0) i_)))), (q_4, .inl (cI, 8, .inl (fun i_ => nI ((fun _ => 0) i_)))), (q_5, .inl (cI, 8, .inl (fun i_ => nI ((fun _ => 0) i_))))]) rfl ?_
  refine xputF (ws' := [(a0, .inr (3, [.ref q_1, .ref q_2, .ref q_3, .ref q_4, .ref q_5, .null, .null, .null, .int (nI 0), .int (nI 0), .int (nI 0), .int (nI 0), .int (nI 0)])), (q_1, .inl (cI, 8, .inl (fun i_ => nI ((fun _ => 0) i_)))), (q_2, .inl (cI, 8, .inl (fun i_ => nI ((fun _ => 0) i_)))), (q_3, .inl (cI, 8, .inl (fun i_ => nI ((fun _ => 0) i_)))), (q_4, .inl (cI, 8, .inl (fun i_ => nI ((fun _ => 0) i_)))), (q_5, .inl (cI, 8, .inl (fun i_ => nI ((fun _ => 0) i_))))]) (C := RX3) (T := TX3) (N := 13) (ci := 3) (ty := tyX3 4) h0 hn0 hiX3 tyX3 tyX3_ok nmX3 0 rfl rfl 4 (by decide) (List.mem_of_getElem? (i := 9) rfl) rfl rfl (by decide +kernel) (rfl) (rfl) (Nat.le_of_ble_eq_true rfl) dX3_init_41 rfl ?_
  refine xaload_n h0 0 dX3_init_44 rfl rfl ?_
  refine xbipush (v := (nI 8)) h0 dX3_init_45 (by decide) ?_
  refine xnewI h0 (List.mem_of_getElem? (i := 4) rfl) 0 rfl (by decide) ⟨by decide, by decide⟩ dX3_init_47 (fun q_6 => ?_)
  refine xeq (ws' := [(a0, .inr (3, [.ref q_1, .ref q_2, .ref q_3, .ref q_4, .ref q_5, .null, .null, .null, .int (nI 0), .int (nI 0), .int (nI 0), .int (nI 0), .int (nI 0)])), (q_1, .inl (cI, 8, .inl (fun i_ => nI ((fun _ => 0) i_)))), (q_2, .inl (cI, 8, .inl (fun i_ => nI ((fun _ => 0) i_)))), (q_3, .inl (cI, 8, .inl (fun i_ => nI ((fun _ => 0) i_)))), (q_4, .inl (cI, 8, .inl (fun i_ => nI ((fun _ => 0) i_)))), (q_5, .inl (cI, 8, .inl (fun i_ => nI ((fun _ => 0) i_)))), (q_6, .inl (cI, 8, .inl (fun i_ => nI ((fun _ => 0) i_))))]) rfl ?_
  refine xputF (ws' := [(a0, .inr (3, [.ref q_1, .ref q_2, .ref q_3, .ref q_4, .ref q_5, .ref q_6, .null, .null, .int (nI 0), .int (nI 0), .int (nI 0), .int (nI 0), .int (nI 0)])), (q_1, .inl (cI, 8, .inl (fun i_ => nI ((fun _ => 0) i_)))), (q_2, .inl (cI, 8, .inl (fun i_ => nI ((fun _ => 0) i_)))), (q_3, .inl (cI, 8, .inl (fun i_ => nI ((fun _ => 0) i_)))), (q_4, .inl (cI, 8, .inl (fun i_ => nI ((fun _ => 0) i_)))), (q_5, .inl (cI, 8, .inl (fun i_ => nI ((fun _ => 0) i_)))), (q_6, .inl (cI, 8, .inl (fun i_ => nI ((fun _ => 0) i_))))]) (C := RX3) (T := TX3) (N := 13) (ci := 3) (ty := tyX3 5) h0 hn0 hiX3 tyX3 tyX3_ok nmX3 0 rfl rfl 5 (by decide) (List.mem_of_getElem? (i := 10) rfl) rfl rfl (by decide +kernel) (rfl) (rfl) (Nat.le_of_ble_eq_true rfl) dX3_init_49 rfl ?_
  refine xaload_n h0 0 dX3_init_52 rfl rfl ?_
  refine xbipush (v := (nI 8)) h0 dX3_init_53 (by decide) ?_
  refine xnewI h0 (List.mem_of_getElem? (i := 4) rfl) 0 rfl (by decide) ⟨by decide, by decide⟩ dX3_init_55 (fun q_7 => ?_)
  refine xeq (ws' := [(a0, .inr (3, [.ref q_1, .ref q_2, .ref q_3, .ref q_4, .ref q_5, .ref q_6, .null, .null, .int (nI 0), .int (nI 0), .int (nI 0), .int (nI 0), .int (nI 0)])), (q_1, .inl (cI, 8, .inl (fun i_ => nI ((fun _ => 0) i_)))), (q_2, .inl (cI, 8, .inl (fun i_ => nI ((fun _ => 0) i_)))), (q_3, .inl (cI, 8, .inl (fun i_ => nI ((fun _ => 0) i_)))), (q_4, .inl (cI, 8, .inl (fun i_ => nI ((fun _ => 0) i_)))), (q_5, .inl (cI, 8, .inl (fun i_ => nI ((fun _ => 0) i_)))), (q_6, .inl (cI, 8, .inl (fun i_ => nI ((fun _ => 0) i_)))), (q_7, .inl (cI, 8, .inl (fun i_ => nI ((fun _ => 0) i_))))]) rfl ?_
  refine xputF (ws' := [(a0, .inr (3, [.ref q_1, .ref q_2, .ref q_3, .ref q_4, .ref q_5, .ref q_6, .ref q_7, .null, .int (nI 0), .int (nI 0), .int (nI 0), .int (nI 0), .int (nI 0)])), (q_1, .inl (cI, 8, .inl (fun i_ => nI ((fun _ => 0) i_)))), (q_2, .inl (cI, 8, .inl (fun i_ => nI ((fun _ => 0) i_)))), (q_3, .inl (cI, 8, .inl (fun i_ => nI ((fun _ => 0) i_)))), (q_4, .inl (cI, 8, .inl (fun i_ => nI ((fun _ => 0) i_)))), (q_5, .inl (cI, 8, .inl (fun i_ => nI ((fun _ => 0) i_)))), (q_6, .inl (cI, 8, .inl (fun i_ => nI ((fun _ => 0) i_)))), (q_7, .inl (cI, 8, .inl (fun i_ => nI ((fun _ => 0) i_))))]) (C := RX3) (T := TX3) (N := 13) (ci := 3) (ty := tyX3 6) h0 hn0 hiX3 tyX3 tyX3_ok nmX3 0 rfl rfl 6 (by decide) (List.mem_of_getElem? (i := 11) rfl) rfl rfl (by decide +kernel) (rfl) (rfl) (Nat.le_of_ble_eq_true rfl) dX3_init_57 rfl ?_
  refine xaload_n h0 0 dX3_init_60 rfl rfl ?_
  refine xbipush (v := (nI 64)) h0 dX3_init_61 (by decide) ?_
  refine xnewI h0 (List.mem_of_getElem? (i := 4) rfl) 0 rfl (by decide) ⟨by decide, by decide⟩ dX3_init_63 (fun q_8 => ?_)
  refine xeq (ws' := [(a0, .inr (3, [.ref q_1, .ref q_2, .ref q_3, .ref q_4, .ref q_5, .ref q_6, .ref q_7, .null, .int (nI 0), .int (nI 0), .int (nI 0), .int (nI 0), .int (nI 0)])), (q_1, .inl (cI, 8, .inl (fun i_ => nI ((fun _ => 0) i_)))), (q_2, .inl (cI, 8, .inl (fun i_ => nI ((fun _ => 0) i_)))), (q_3, .inl (cI, 8, .inl (fun i_ => nI ((fun _ => 0) i_)))), (q_4, .inl (cI, 8, .inl (fun i_ => nI ((fun _ => 0) i_)))), (q_5, .inl (cI, 8, .inl (fun i_ => nI ((fun _ => 0) i_)))), (q_6, .inl (cI, 8, .inl (fun i_ => nI ((fun _ => 0) i_)))), (q_7, .inl (cI, 8, .inl (fun i_ => nI ((fun _ => 0) i_)))), (q_8, .inl (cI, 64, .inl (fun i_ => nI ((fun _ => 0) i_))))]) rfl ?_
  refine xputF (ws' := [(a0, .inr (3, [.ref q_1, .ref q_2, .ref q_3, .ref q_4, .ref q_5, .ref q_6, .ref q_7, .ref q_8, .int (nI 0), .int (nI 0), .int (nI 0), .int (nI 0), .int (nI 0)])), (q_1, .inl (cI, 8, .inl (fun i_ => nI ((fun _ => 0) i_)))), (q_2, .inl (cI, 8, .inl (fun i_ => nI ((fun _ => 0) i_)))), (q_3, .inl (cI, 8, .inl (fun i_ => nI ((fun _ => 0) i_)))), (q_4, .inl (cI, 8, .inl (fun i_ => nI ((fun _ => 0) i_)))), (q_5, .inl (cI, 8, .inl (fun i_ => nI ((fun _ => 0) i_)))), (q_6, .inl (cI, 8, .inl (fun i_ => nI ((fun _ => 0) i_)))), (q_7, .inl (cI, 8, .inl (fun i_ => nI ((fun _ => 0) i_)))), (q_8, .inl (cI, 64, .inl (fun i_ => nI ((fun _ => 0) i_))))]) (C := RX3) (T := TX3) (N := 13) (ci := 3) (ty := tyX3 7) h0 hn0 hiX3 tyX3 tyX3_ok nmX3 0 rfl rfl 7 (by decide) (List.mem_of_getElem? (i := 12) rfl) rfl rfl (by decide +kernel) (rfl) (rfl) (Nat.le_of_ble_eq_true rfl) dX3_init_65 rfl ?_
  refine xarr (q0 := 5) (g := fun i_ => nI (mtS zT i_)) (ws' := [(a0, .inr (3, [.ref q_1, .ref q_2, .ref q_3, .ref q_4, .ref q_5, .ref q_6, .ref q_7, .ref q_8, .int (nI 0), .int (nI 0), .int (nI 0), .int (nI 0), .int (nI 0)])), (q_1, .inl (cI, 8, .inl (fun i_ => nI (zT 0 i_)))), (q_2, .inl (cI, 8, .inl (fun i_ => nI (zT 1 i_)))), (q_3, .inl (cI, 8, .inl (fun i_ => nI (zT 2 i_)))), (q_4, .inl (cI, 8, .inl (fun i_ => nI (zT 3 i_)))), (q_5, .inl (cI, 8, .inl (fun i_ => nI (mtS zT i_)))), (q_6, .inl (cI, 8, .inl (fun i_ => nI ((fun _ => 0) i_)))), (q_7, .inl (cI, 8, .inl (fun i_ => nI ((fun _ => 0) i_)))), (q_8, .inl (cI, 64, .inl (fun i_ => nI ((fun _ => 0) i_))))]) rfl (fun j _ => congrArg nI (mt_z j).symm) rfl ?_
  refine xarr (q0 := 6) (g := fun i_ => nI (rcS zT 8 i_)) (ws' := [(a0, .inr (3, [.ref q_1, .ref q_2, .ref q_3, .ref q_4, .ref q_5, .ref q_6, .ref q_7, .ref q_8, .int (nI 0), .int (nI 0), .int (nI 0), .int (nI 0), .int (nI 0)])), (q_1, .inl (cI, 8, .inl (fun i_ => nI (zT 0 i_)))), (q_2, .inl (cI, 8, .inl (fun i_ => nI (zT 1 i_)))), (q_3, .inl (cI, 8, .inl (fun i_ => nI (zT 2 i_)))), (q_4, .inl (cI, 8, .inl (fun i_ => nI (zT 3 i_)))), (q_5, .inl (cI, 8, .inl (fun i_ => nI (mtS zT i_)))), (q_6, .inl (cI, 8, .inl (fun i_ => nI (rcS zT 8 i_)))), (q_7, .inl (cI, 8, .inl (fun i_ => nI ((fun _ => 0) i_)))), (q_8, .inl (cI, 64, .inl (fun i_ => nI ((fun _ => 0) i_))))]) rfl (fun j _ => congrArg nI (rc_z 8 j).symm) rfl ?_
  refine xarr (q0 := 7) (g := fun i_ => nI (bkS zT i_)) (ws' := [(a0, .inr (3, [.ref q_1, .ref q_2, .ref q_3, .ref q_4, .ref q_5, .ref q_6, .ref q_7, .ref q_8, .int (nI 0), .int (nI 0), .int (nI 0), .int (nI 0), .int (nI 0)])), (q_1, .inl (cI, 8, .inl (fun i_ => nI (zT 0 i_)))), (q_2, .inl (cI, 8, .inl (fun i_ => nI (zT 1 i_)))), (q_3, .inl (cI, 8, .inl (fun i_ => nI (zT 2 i_)))), (q_4, .inl (cI, 8, .inl (fun i_ => nI (zT 3 i_)))), (q_5, .inl (cI, 8, .inl (fun i_ => nI (mtS zT i_)))), (q_6, .inl (cI, 8, .inl (fun i_ => nI (rcS zT 8 i_)))), (q_7, .inl (cI, 8, .inl (fun i_ => nI (bkS zT i_)))), (q_8, .inl (cI, 64, .inl (fun i_ => nI ((fun _ => 0) i_))))]) rfl (fun j _ => congrArg nI (bk_z j).symm) rfl ?_
  exact xvret h0 dX3_init_68 (fun i => [a0, q_1, q_2, q_3, q_4, q_5, q_6, q_7, q_8].getD i 0) (by rfl) rfl
set_option maxHeartbeats 4000000 in
set_option maxRecDepth 100000 in
theorem c_X3_become (l : Launch) (D : va_G) (cI cC : ClassId) (a b : Nat → Nat) (T : TT) (k mu tm dy : Nat) (T2 : TT) (k2 mu2 tm2 dy2 : Nat)  : XMv l yX3_become wsX3_become ({ frames := 1, cells := 0, slots := 0, locals := 100 } : Room) D (xT cI cC) xE0 ((wTown cI a T k mu tm dy) ++ (wTown cI b T2 k2 mu2 tm2 dy2)) [.ref (a 0), .ref (b 0)] (S := Unit) (fun _ => True) (fun _ => wTown cI a T2 k2 mu2 tm2 dy2 ++ wTown cI b T2 k2 mu2 tm2 dy2) 0 0 := by
  refine xMet_v (cc := cX3_become) (nL := 2)  (by decide +kernel) rfl (Nat.le_of_ble_eq_true rfl) (fun κ A h0 hn0 hE => ?_)
  have hiX3 : ∀ w ∈ u_ws RX3 TX3 13, w ∈ wsX3_become := by decide +kernel
  refine xlv (lv' := [(0, .ref (a 0)), (1, .ref (b 0))]) [0, 1] rfl ?_
  refine xaload_n h0 1 dX3_become_0 rfl rfl ?_
  refine xget (C := RX3) (T := TX3) (N := 13) (ci := 3) (v := .ref (b 1)) h0 hiX3 9 rfl rfl 0 (by decide) (List.mem_of_getElem? (i := 1) rfl) rfl dX3_become_1 ?_
  refine xiconst (v := (nI 0)) h0 dX3_become_4 (by decide) ?_
  refine xaload_n h0 0 dX3_become_5 rfl rfl ?_
  refine xget (C := RX3) (T := TX3) (N := 13) (ci := 3) (v := .ref (a 1)) h0 hiX3 0 rfl rfl 0 (by decide) (List.mem_of_getElem? (i := 1) rfl) rfl dX3_become_6 ?_
  refine xiconst (v := (nI 0)) h0 dX3_become_9 (by decide) ?_
  refine xbipush (v := (nI 8)) h0 dX3_become_10 (by decide) ?_
  refine xcopy (ws' := ([(a 0, .inr (3, [.ref (a 1), .ref (a 2), .ref (a 3), .ref (a 4), .ref (a 5), .ref (a 6), .ref (a 7), .ref (a 8), .int (nI (T 5 0)), .int (nI (T 5 1)), .int (nI k), .int (nI tm), .int (nI dy)])), (a 1, .inl (cI, 8, .inl (fun i_ => nI (T2 0 i_)))), (a 2, .inl (cI, 8, .inl (fun i_ => nI (T 1 i_)))), (a 3, .inl (cI, 8, .inl (fun i_ => nI (T 2 i_)))), (a 4, .inl (cI, 8, .inl (fun i_ => nI (T 3 i_)))), (a 5, .inl (cI, 8, .inl (fun i_ => nI (mtS T i_)))), (a 6, .inl (cI, 8, .inl (fun i_ => nI (rcS T mu i_)))), (a 7, .inl (cI, 8, .inl (fun i_ => nI (bkS T i_)))), (a 8, .inl (cI, 64, .inl (fun i_ => nI (T 4 i_))))] ++ (wTown cI b T2 k2 mu2 tm2 dy2))) h0 (List.mem_of_getElem? (i := 2) rfl) (List.mem_of_getElem? (i := 3) rfl) (List.mem_of_getElem? (i := 4) rfl) (List.mem_of_getElem? (i := 5) rfl) 10 1 0 rfl rfl rfl (by decide) ⟨by decide, by decide +kernel⟩ dX3_become_12 rfl ?_
  refine xaload_n h0 1 dX3_become_15 rfl rfl ?_
  refine xget (C := RX3) (T := TX3) (N := 13) (ci := 3) (v := .ref (b 2)) h0 hiX3 9 rfl rfl 1 (by decide) (List.mem_of_getElem? (i := 6) rfl) rfl dX3_become_16 ?_
  refine xiconst (v := (nI 0)) h0 dX3_become_19 (by decide) ?_
  refine xaload_n h0 0 dX3_become_20 rfl rfl ?_
  refine xget (C := RX3) (T := TX3) (N := 13) (ci := 3) (v := .ref (a 2)) h0 hiX3 0 rfl rfl 1 (by decide) (List.mem_of_getElem? (i := 6) rfl) rfl dX3_become_21 ?_
  refine xiconst (v := (nI 0)) h0 dX3_become_24 (by decide) ?_
  refine xbipush (v := (nI 8)) h0 dX3_become_25 (by decide) ?_
  refine xcopy (ws' := ([(a 0, .inr (3, [.ref (a 1), .ref (a 2), .ref (a 3), .ref (a 4), .ref (a 5), .ref (a 6), .ref (a 7), .ref (a 8), .int (nI (T 5 0)), .int (nI (T 5 1)), .int (nI k), .int (nI tm), .int (nI dy)])), (a 1, .inl (cI, 8, .inl (fun i_ => nI (T2 0 i_)))), (a 2, .inl (cI, 8, .inl (fun i_ => nI (T2 1 i_)))), (a 3, .inl (cI, 8, .inl (fun i_ => nI (T 2 i_)))), (a 4, .inl (cI, 8, .inl (fun i_ => nI (T 3 i_)))), (a 5, .inl (cI, 8, .inl (fun i_ => nI (mtS T i_)))), (a 6, .inl (cI, 8, .inl (fun i_ => nI (rcS T mu i_)))), (a 7, .inl (cI, 8, .inl (fun i_ => nI (bkS T i_)))), (a 8, .inl (cI, 64, .inl (fun i_ => nI (T 4 i_))))] ++ (wTown cI b T2 k2 mu2 tm2 dy2))) h0 (List.mem_of_getElem? (i := 2) rfl) (List.mem_of_getElem? (i := 3) rfl) (List.mem_of_getElem? (i := 4) rfl) (List.mem_of_getElem? (i := 5) rfl) 11 2 0 rfl rfl rfl (by decide) ⟨by decide, by decide +kernel⟩ dX3_become_27 rfl ?_
  refine xaload_n h0 1 dX3_become_30 rfl rfl ?_
  refine xget (C := RX3) (T := TX3) (N := 13) (ci := 3) (v := .ref (b 3)) h0 hiX3 9 rfl rfl 2 (by decide) (List.mem_of_getElem? (i := 7) rfl) rfl dX3_become_31 ?_
  refine xiconst (v := (nI 0)) h0 dX3_become_34 (by decide) ?_
  refine xaload_n h0 0 dX3_become_35 rfl rfl ?_
  refine xget (C := RX3) (T := TX3) (N := 13) (ci := 3) (v := .ref (a 3)) h0 hiX3 0 rfl rfl 2 (by decide) (List.mem_of_getElem? (i := 7) rfl) rfl dX3_become_36 ?_
  refine xiconst (v := (nI 0)) h0 dX3_become_39 (by decide) ?_
  refine xbipush (v := (nI 8)) h0 dX3_become_40 (by decide) ?_
  refine xcopy (ws' := ([(a 0, .inr (3, [.ref (a 1), .ref (a 2), .ref (a 3), .ref (a 4), .ref (a 5), .ref (a 6), .ref (a 7), .ref (a 8), .int (nI (T 5 0)), .int (nI (T 5 1)), .int (nI k), .int (nI tm), .int (nI dy)])), (a 1, .inl (cI, 8, .inl (fun i_ => nI (T2 0 i_)))), (a 2, .inl (cI, 8, .inl (fun i_ => nI (T2 1 i_)))), (a 3, .inl (cI, 8, .inl (fun i_ => nI (T2 2 i_)))), (a 4, .inl (cI, 8, .inl (fun i_ => nI (T 3 i_)))), (a 5, .inl (cI, 8, .inl (fun i_ => nI (mtS T i_)))), (a 6, .inl (cI, 8, .inl (fun i_ => nI (rcS T mu i_)))), (a 7, .inl (cI, 8, .inl (fun i_ => nI (bkS T i_)))), (a 8, .inl (cI, 64, .inl (fun i_ => nI (T 4 i_))))] ++ (wTown cI b T2 k2 mu2 tm2 dy2))) h0 (List.mem_of_getElem? (i := 2) rfl) (List.mem_of_getElem? (i := 3) rfl) (List.mem_of_getElem? (i := 4) rfl) (List.mem_of_getElem? (i := 5) rfl) 12 3 0 rfl rfl rfl (by decide) ⟨by decide, by decide +kernel⟩ dX3_become_42 rfl ?_
  refine xaload_n h0 1 dX3_become_45 rfl rfl ?_
  refine xget (C := RX3) (T := TX3) (N := 13) (ci := 3) (v := .ref (b 4)) h0 hiX3 9 rfl rfl 3 (by decide) (List.mem_of_getElem? (i := 8) rfl) rfl dX3_become_46 ?_
  refine xiconst (v := (nI 0)) h0 dX3_become_49 (by decide) ?_
  refine xaload_n h0 0 dX3_become_50 rfl rfl ?_
  refine xget (C := RX3) (T := TX3) (N := 13) (ci := 3) (v := .ref (a 4)) h0 hiX3 0 rfl rfl 3 (by decide) (List.mem_of_getElem? (i := 8) rfl) rfl dX3_become_51 ?_
  refine xiconst (v := (nI 0)) h0 dX3_become_54 (by decide) ?_
  refine xbipush (v := (nI 8)) h0 dX3_become_55 (by decide) ?_
  refine xcopy (ws' := ([(a 0, .inr (3, [.ref (a 1), .ref (a 2), .ref (a 3), .ref (a 4), .ref (a 5), .ref (a 6), .ref (a 7), .ref (a 8), .int (nI (T 5 0)), .int (nI (T 5 1)), .int (nI k), .int (nI tm), .int (nI dy)])), (a 1, .inl (cI, 8, .inl (fun i_ => nI (T2 0 i_)))), (a 2, .inl (cI, 8, .inl (fun i_ => nI (T2 1 i_)))), (a 3, .inl (cI, 8, .inl (fun i_ => nI (T2 2 i_)))), (a 4, .inl (cI, 8, .inl (fun i_ => nI (T2 3 i_)))), (a 5, .inl (cI, 8, .inl (fun i_ => nI (mtS T i_)))), (a 6, .inl (cI, 8, .inl (fun i_ => nI (rcS T mu i_)))), (a 7, .inl (cI, 8, .inl (fun i_ => nI (bkS T i_)))), (a 8, .inl (cI, 64, .inl (fun i_ => nI (T 4 i_))))] ++ (wTown cI b T2 k2 mu2 tm2 dy2))) h0 (List.mem_of_getElem? (i := 2) rfl) (List.mem_of_getElem? (i := 3) rfl) (List.mem_of_getElem? (i := 4) rfl) (List.mem_of_getElem? (i := 5) rfl) 13 4 0 rfl rfl rfl (by decide) ⟨by decide, by decide +kernel⟩ dX3_become_57 rfl ?_
  refine xaload_n h0 1 dX3_become_60 rfl rfl ?_
  refine xget (C := RX3) (T := TX3) (N := 13) (ci := 3) (v := .ref (b 5)) h0 hiX3 9 rfl rfl 4 (by decide) (List.mem_of_getElem? (i := 9) rfl) rfl dX3_become_61 ?_
  refine xiconst (v := (nI 0)) h0 dX3_become_64 (by decide) ?_
  refine xaload_n h0 0 dX3_become_65 rfl rfl ?_
  refine xget (C := RX3) (T := TX3) (N := 13) (ci := 3) (v := .ref (a 5)) h0 hiX3 0 rfl rfl 4 (by decide) (List.mem_of_getElem? (i := 9) rfl) rfl dX3_become_66 ?_
  refine xiconst (v := (nI 0)) h0 dX3_become_69 (by decide) ?_
  refine xbipush (v := (nI 8)) h0 dX3_become_70 (by decide) ?_
  refine xcopy (ws' := ([(a 0, .inr (3, [.ref (a 1), .ref (a 2), .ref (a 3), .ref (a 4), .ref (a 5), .ref (a 6), .ref (a 7), .ref (a 8), .int (nI (T 5 0)), .int (nI (T 5 1)), .int (nI k), .int (nI tm), .int (nI dy)])), (a 1, .inl (cI, 8, .inl (fun i_ => nI (T2 0 i_)))), (a 2, .inl (cI, 8, .inl (fun i_ => nI (T2 1 i_)))), (a 3, .inl (cI, 8, .inl (fun i_ => nI (T2 2 i_)))), (a 4, .inl (cI, 8, .inl (fun i_ => nI (T2 3 i_)))), (a 5, .inl (cI, 8, .inl (fun i_ => nI (mtS T2 i_)))), (a 6, .inl (cI, 8, .inl (fun i_ => nI (rcS T mu i_)))), (a 7, .inl (cI, 8, .inl (fun i_ => nI (bkS T i_)))), (a 8, .inl (cI, 64, .inl (fun i_ => nI (T 4 i_))))] ++ (wTown cI b T2 k2 mu2 tm2 dy2))) h0 (List.mem_of_getElem? (i := 2) rfl) (List.mem_of_getElem? (i := 3) rfl) (List.mem_of_getElem? (i := 4) rfl) (List.mem_of_getElem? (i := 5) rfl) 14 5 0 rfl rfl rfl (by decide) ⟨by decide, by decide +kernel⟩ dX3_become_72 rfl ?_
  refine xaload_n h0 1 dX3_become_75 rfl rfl ?_
  refine xget (C := RX3) (T := TX3) (N := 13) (ci := 3) (v := .ref (b 6)) h0 hiX3 9 rfl rfl 5 (by decide) (List.mem_of_getElem? (i := 10) rfl) rfl dX3_become_76 ?_
  refine xiconst (v := (nI 0)) h0 dX3_become_79 (by decide) ?_
  refine xaload_n h0 0 dX3_become_80 rfl rfl ?_
  refine xget (C := RX3) (T := TX3) (N := 13) (ci := 3) (v := .ref (a 6)) h0 hiX3 0 rfl rfl 5 (by decide) (List.mem_of_getElem? (i := 10) rfl) rfl dX3_become_81 ?_
  refine xiconst (v := (nI 0)) h0 dX3_become_84 (by decide) ?_
  refine xbipush (v := (nI 8)) h0 dX3_become_85 (by decide) ?_
  refine xcopy (ws' := ([(a 0, .inr (3, [.ref (a 1), .ref (a 2), .ref (a 3), .ref (a 4), .ref (a 5), .ref (a 6), .ref (a 7), .ref (a 8), .int (nI (T 5 0)), .int (nI (T 5 1)), .int (nI k), .int (nI tm), .int (nI dy)])), (a 1, .inl (cI, 8, .inl (fun i_ => nI (T2 0 i_)))), (a 2, .inl (cI, 8, .inl (fun i_ => nI (T2 1 i_)))), (a 3, .inl (cI, 8, .inl (fun i_ => nI (T2 2 i_)))), (a 4, .inl (cI, 8, .inl (fun i_ => nI (T2 3 i_)))), (a 5, .inl (cI, 8, .inl (fun i_ => nI (mtS T2 i_)))), (a 6, .inl (cI, 8, .inl (fun i_ => nI (rcS T2 mu2 i_)))), (a 7, .inl (cI, 8, .inl (fun i_ => nI (bkS T i_)))), (a 8, .inl (cI, 64, .inl (fun i_ => nI (T 4 i_))))] ++ (wTown cI b T2 k2 mu2 tm2 dy2))) h0 (List.mem_of_getElem? (i := 2) rfl) (List.mem_of_getElem? (i := 3) rfl) (List.mem_of_getElem? (i := 4) rfl) (List.mem_of_getElem? (i := 5) rfl) 15 6 0 rfl rfl rfl (by decide) ⟨by decide, by decide +kernel⟩ dX3_become_87 rfl ?_
  refine xaload_n h0 1 dX3_become_90 rfl rfl ?_
  refine xget (C := RX3) (T := TX3) (N := 13) (ci := 3) (v := .ref (b 7)) h0 hiX3 9 rfl rfl 6 (by decide) (List.mem_of_getElem? (i := 11) rfl) rfl dX3_become_91 ?_
  refine xiconst (v := (nI 0)) h0 dX3_become_94 (by decide) ?_
  refine xaload_n h0 0 dX3_become_95 rfl rfl ?_
  refine xget (C := RX3) (T := TX3) (N := 13) (ci := 3) (v := .ref (a 7)) h0 hiX3 0 rfl rfl 6 (by decide) (List.mem_of_getElem? (i := 11) rfl) rfl dX3_become_96 ?_
  refine xiconst (v := (nI 0)) h0 dX3_become_99 (by decide) ?_
  refine xbipush (v := (nI 8)) h0 dX3_become_100 (by decide) ?_
  refine xcopy (ws' := ([(a 0, .inr (3, [.ref (a 1), .ref (a 2), .ref (a 3), .ref (a 4), .ref (a 5), .ref (a 6), .ref (a 7), .ref (a 8), .int (nI (T 5 0)), .int (nI (T 5 1)), .int (nI k), .int (nI tm), .int (nI dy)])), (a 1, .inl (cI, 8, .inl (fun i_ => nI (T2 0 i_)))), (a 2, .inl (cI, 8, .inl (fun i_ => nI (T2 1 i_)))), (a 3, .inl (cI, 8, .inl (fun i_ => nI (T2 2 i_)))), (a 4, .inl (cI, 8, .inl (fun i_ => nI (T2 3 i_)))), (a 5, .inl (cI, 8, .inl (fun i_ => nI (mtS T2 i_)))), (a 6, .inl (cI, 8, .inl (fun i_ => nI (rcS T2 mu2 i_)))), (a 7, .inl (cI, 8, .inl (fun i_ => nI (bkS T2 i_)))), (a 8, .inl (cI, 64, .inl (fun i_ => nI (T 4 i_))))] ++ (wTown cI b T2 k2 mu2 tm2 dy2))) h0 (List.mem_of_getElem? (i := 2) rfl) (List.mem_of_getElem? (i := 3) rfl) (List.mem_of_getElem? (i := 4) rfl) (List.mem_of_getElem? (i := 5) rfl) 16 7 0 rfl rfl rfl (by decide) ⟨by decide, by decide +kernel⟩ dX3_become_102 rfl ?_
  refine xaload_n h0 1 dX3_become_105 rfl rfl ?_
  refine xget (C := RX3) (T := TX3) (N := 13) (ci := 3) (v := .ref (b 8)) h0 hiX3 9 rfl rfl 7 (by decide) (List.mem_of_getElem? (i := 12) rfl) rfl dX3_become_106 ?_
  refine xiconst (v := (nI 0)) h0 dX3_become_109 (by decide) ?_
  refine xaload_n h0 0 dX3_become_110 rfl rfl ?_
  refine xget (C := RX3) (T := TX3) (N := 13) (ci := 3) (v := .ref (a 8)) h0 hiX3 0 rfl rfl 7 (by decide) (List.mem_of_getElem? (i := 12) rfl) rfl dX3_become_111 ?_
  refine xiconst (v := (nI 0)) h0 dX3_become_114 (by decide) ?_
  refine xbipush (v := (nI 64)) h0 dX3_become_115 (by decide) ?_
  refine xcopy (ws' := ([(a 0, .inr (3, [.ref (a 1), .ref (a 2), .ref (a 3), .ref (a 4), .ref (a 5), .ref (a 6), .ref (a 7), .ref (a 8), .int (nI (T 5 0)), .int (nI (T 5 1)), .int (nI k), .int (nI tm), .int (nI dy)])), (a 1, .inl (cI, 8, .inl (fun i_ => nI (T2 0 i_)))), (a 2, .inl (cI, 8, .inl (fun i_ => nI (T2 1 i_)))), (a 3, .inl (cI, 8, .inl (fun i_ => nI (T2 2 i_)))), (a 4, .inl (cI, 8, .inl (fun i_ => nI (T2 3 i_)))), (a 5, .inl (cI, 8, .inl (fun i_ => nI (mtS T2 i_)))), (a 6, .inl (cI, 8, .inl (fun i_ => nI (rcS T2 mu2 i_)))), (a 7, .inl (cI, 8, .inl (fun i_ => nI (bkS T2 i_)))), (a 8, .inl (cI, 64, .inl (fun i_ => nI (T2 4 i_))))] ++ (wTown cI b T2 k2 mu2 tm2 dy2))) h0 (List.mem_of_getElem? (i := 2) rfl) (List.mem_of_getElem? (i := 3) rfl) (List.mem_of_getElem? (i := 4) rfl) (List.mem_of_getElem? (i := 5) rfl) 17 8 0 rfl rfl rfl (by decide) ⟨by decide, by decide +kernel⟩ dX3_become_117 rfl ?_
  refine xaload_n h0 0 dX3_become_120 rfl rfl ?_
  refine xaload_n h0 1 dX3_become_121 rfl rfl ?_
  refine xget (C := RX3) (T := TX3) (N := 13) (ci := 3) (v := .int (nI (T2 5 0))) h0 hiX3 9 rfl rfl 8 (by decide) (List.mem_of_getElem? (i := 13) rfl) rfl dX3_become_122 ?_
  refine xput (ws' := ([(a 0, .inr (3, [.ref (a 1), .ref (a 2), .ref (a 3), .ref (a 4), .ref (a 5), .ref (a 6), .ref (a 7), .ref (a 8), .int (nI (T2 5 0)), .int (nI (T 5 1)), .int (nI k), .int (nI tm), .int (nI dy)])), (a 1, .inl (cI, 8, .inl (fun i_ => nI (T2 0 i_)))), (a 2, .inl (cI, 8, .inl (fun i_ => nI (T2 1 i_)))), (a 3, .inl (cI, 8, .inl (fun i_ => nI (T2 2 i_)))), (a 4, .inl (cI, 8, .inl (fun i_ => nI (T2 3 i_)))), (a 5, .inl (cI, 8, .inl (fun i_ => nI (mtS T2 i_)))), (a 6, .inl (cI, 8, .inl (fun i_ => nI (rcS T2 mu2 i_)))), (a 7, .inl (cI, 8, .inl (fun i_ => nI (bkS T2 i_)))), (a 8, .inl (cI, 64, .inl (fun i_ => nI (T2 4 i_))))] ++ (wTown cI b T2 k2 mu2 tm2 dy2))) (C := RX3) (T := TX3) (N := 13) (ci := 3) (ty := tyX3 8) h0 hiX3 tyX3 tyX3_ok nmX3 0 rfl rfl 8 (by decide) (List.mem_of_getElem? (i := 13) rfl) rfl (by decide +kernel) (rfl) (rfl) (Nat.le_of_ble_eq_true rfl) dX3_become_125 rfl ?_
  refine xaload_n h0 0 dX3_become_128 rfl rfl ?_
  refine xaload_n h0 1 dX3_become_129 rfl rfl ?_
  refine xget (C := RX3) (T := TX3) (N := 13) (ci := 3) (v := .int (nI (T2 5 1))) h0 hiX3 9 rfl rfl 9 (by decide) (List.mem_of_getElem? (i := 14) rfl) rfl dX3_become_130 ?_
  refine xput (ws' := ([(a 0, .inr (3, [.ref (a 1), .ref (a 2), .ref (a 3), .ref (a 4), .ref (a 5), .ref (a 6), .ref (a 7), .ref (a 8), .int (nI (T2 5 0)), .int (nI (T2 5 1)), .int (nI k), .int (nI tm), .int (nI dy)])), (a 1, .inl (cI, 8, .inl (fun i_ => nI (T2 0 i_)))), (a 2, .inl (cI, 8, .inl (fun i_ => nI (T2 1 i_)))), (a 3, .inl (cI, 8, .inl (fun i_ => nI (T2 2 i_)))), (a 4, .inl (cI, 8, .inl (fun i_ => nI (T2 3 i_)))), (a 5, .inl (cI, 8, .inl (fun i_ => nI (mtS T2 i_)))), (a 6, .inl (cI, 8, .inl (fun i_ => nI (rcS T2 mu2 i_)))), (a 7, .inl (cI, 8, .inl (fun i_ => nI (bkS T2 i_)))), (a 8, .inl (cI, 64, .inl (fun i_ => nI (T2 4 i_))))] ++ (wTown cI b T2 k2 mu2 tm2 dy2))) (C := RX3) (T := TX3) (N := 13) (ci := 3) (ty := tyX3 9) h0 hiX3 tyX3 tyX3_ok nmX3 0 rfl rfl 9 (by decide) (List.mem_of_getElem? (i := 14) rfl) rfl (by decide +kernel) (rfl) (rfl) (Nat.le_of_ble_eq_true rfl) dX3_become_133 rfl ?_
  refine xaload_n h0 0 dX3_become_136 rfl rfl ?_
  refine xaload_n h0 1 dX3_become_137 rfl rfl ?_
  refine xget (C := RX3) (T := TX3) (N := 13) (ci := 3) (v := .int (nI k2)) h0 hiX3 9 rfl rfl 10 (by decide) (List.mem_of_getElem? (i := 15) rfl) rfl dX3_become_138 ?_
  refine xput (ws' := ([(a 0, .inr (3, [.ref (a 1), .ref (a 2), .ref (a 3), .ref (a 4), .ref (a 5), .ref (a 6), .ref (a 7), .ref (a 8), .int (nI (T2 5 0)), .int (nI (T2 5 1)), .int (nI k2), .int (nI tm), .int (nI dy)])), (a 1, .inl (cI, 8, .inl (fun i_ => nI (T2 0 i_)))), (a 2, .inl (cI, 8, .inl (fun i_ => nI (T2 1 i_)))), (a 3, .inl (cI, 8, .inl (fun i_ => nI (T2 2 i_)))), (a 4, .inl (cI, 8, .inl (fun i_ => nI (T2 3 i_)))), (a 5, .inl (cI, 8, .inl (fun i_ => nI (mtS T2 i_)))), (a 6, .inl (cI, 8, .inl (fun i_ => nI (rcS T2 mu2 i_)))), (a 7, .inl (cI, 8, .inl (fun i_ => nI (bkS T2 i_)))), (a 8, .inl (cI, 64, .inl (fun i_ => nI (T2 4 i_))))] ++ (wTown cI b T2 k2 mu2 tm2 dy2))) (C := RX3) (T := TX3) (N := 13) (ci := 3) (ty := tyX3 10) h0 hiX3 tyX3 tyX3_ok nmX3 0 rfl rfl 10 (by decide) (List.mem_of_getElem? (i := 15) rfl) rfl (by decide +kernel) (rfl) (rfl) (Nat.le_of_ble_eq_true rfl) dX3_become_141 rfl ?_
  refine xaload_n h0 0 dX3_become_144 rfl rfl ?_
  refine xaload_n h0 1 dX3_become_145 rfl rfl ?_
  refine xget (C := RX3) (T := TX3) (N := 13) (ci := 3) (v := .int (nI tm2)) h0 hiX3 9 rfl rfl 11 (by decide) (List.mem_of_getElem? (i := 16) rfl) rfl dX3_become_146 ?_
  refine xput (ws' := ([(a 0, .inr (3, [.ref (a 1), .ref (a 2), .ref (a 3), .ref (a 4), .ref (a 5), .ref (a 6), .ref (a 7), .ref (a 8), .int (nI (T2 5 0)), .int (nI (T2 5 1)), .int (nI k2), .int (nI tm2), .int (nI dy)])), (a 1, .inl (cI, 8, .inl (fun i_ => nI (T2 0 i_)))), (a 2, .inl (cI, 8, .inl (fun i_ => nI (T2 1 i_)))), (a 3, .inl (cI, 8, .inl (fun i_ => nI (T2 2 i_)))), (a 4, .inl (cI, 8, .inl (fun i_ => nI (T2 3 i_)))), (a 5, .inl (cI, 8, .inl (fun i_ => nI (mtS T2 i_)))), (a 6, .inl (cI, 8, .inl (fun i_ => nI (rcS T2 mu2 i_)))), (a 7, .inl (cI, 8, .inl (fun i_ => nI (bkS T2 i_)))), (a 8, .inl (cI, 64, .inl (fun i_ => nI (T2 4 i_))))] ++ (wTown cI b T2 k2 mu2 tm2 dy2))) (C := RX3) (T := TX3) (N := 13) (ci := 3) (ty := tyX3 11) h0 hiX3 tyX3 tyX3_ok nmX3 0 rfl rfl 11 (by decide) (List.mem_of_getElem? (i := 16) rfl) rfl (by decide +kernel) (rfl) (rfl) (Nat.le_of_ble_eq_true rfl) dX3_become_149 rfl ?_
  refine xaload_n h0 0 dX3_become_152 rfl rfl ?_
  refine xaload_n h0 1 dX3_become_153 rfl rfl ?_
  refine xget (C := RX3) (T := TX3) (N := 13) (ci := 3) (v := .int (nI dy2)) h0 hiX3 9 rfl rfl 12 (by decide) (List.mem_of_getElem? (i := 17) rfl) rfl dX3_become_154 ?_
  refine xput (ws' := ([(a 0, .inr (3, [.ref (a 1), .ref (a 2), .ref (a 3), .ref (a 4), .ref (a 5), .ref (a 6), .ref (a 7), .ref (a 8), .int (nI (T2 5 0)), .int (nI (T2 5 1)), .int (nI k2), .int (nI tm2), .int (nI dy2)])), (a 1, .inl (cI, 8, .inl (fun i_ => nI (T2 0 i_)))), (a 2, .inl (cI, 8, .inl (fun i_ => nI (T2 1 i_)))), (a 3, .inl (cI, 8, .inl (fun i_ => nI (T2 2 i_)))), (a 4, .inl (cI, 8, .inl (fun i_ => nI (T2 3 i_)))), (a 5, .inl (cI, 8, .inl (fun i_ => nI (mtS T2 i_)))), (a 6, .inl (cI, 8, .inl (fun i_ => nI (rcS T2 mu2 i_)))), (a 7, .inl (cI, 8, .inl (fun i_ => nI (bkS T2 i_)))), (a 8, .inl (cI, 64, .inl (fun i_ => nI (T2 4 i_))))] ++ (wTown cI b T2 k2 mu2 tm2 dy2))) (C := RX3) (T := TX3) (N := 13) (ci := 3) (ty := tyX3 12) h0 hiX3 tyX3 tyX3_ok nmX3 0 rfl rfl 12 (by decide) (List.mem_of_getElem? (i := 17) rfl) rfl (by decide +kernel) (rfl) (rfl) (Nat.le_of_ble_eq_true rfl) dX3_become_157 rfl ?_
  exact xvret h0 dX3_become_160 () (by trivial) rfl
set_option maxHeartbeats 4000000 in
set_option maxRecDepth 100000 in
theorem c_X3_addPerson (l : Launch) (D : va_G) (cI cC : ClassId) (a : Nat → Nat) (T : TT) (k mu tm dy : Nat) (as sa kn ki : Nat) (hn : T 5 0 ≤ 8) (hkn : kn < 2 ^ 31) (hki : ki < 2 ^ 31) (h3 : ∀ p, T 3 p < 2 ^ 31) : XMi l yX3_addPerson wsX3_addPerson ({ frames := 1, cells := 0, slots := 0, locals := 20 } : Room) D (xT cI cC) xE0 (wTown cI a T k mu tm dy) [.ref (a 0), .int (nI as), .int (nI sa), .int (nI kn), .int (nI ki)] (S := Unit) (fun r _ => r = bI (T 5 0 < 8 ∧ kn ≤ 100)) (fun _ => wTown cI a (addT T as sa kn ki) k mu tm dy) 0 0 := by
  refine xMet_i (cc := cX3_addPerson) (nL := 7) (ret := some .boolean) (by decide +kernel) rfl (Nat.le_of_ble_eq_true rfl) (fun κ A h0 hn0 hE => ?_)
  have hiX3 : ∀ w ∈ u_ws RX3 TX3 13, w ∈ wsX3_addPerson := by decide +kernel
  refine xlv (lv' := [(0, .ref (a 0)), (1, .int (nI as)), (2, .int (nI sa)), (3, .int (nI kn)), (4, .int (nI ki))]) [0, 1, 2, 3, 4] rfl ?_
  have h3i := h3
  refine xaload_n h0 0 dX3_addPerson_0 rfl rfl ?_
  refine xget (C := RX3) (T := TX3) (N := 13) (ci := 3) (v := .int (nI (T 5 0))) h0 hiX3 0 rfl rfl 8 (by decide) (List.mem_of_getElem? (i := 1) rfl) rfl dX3_addPerson_1 ?_
  refine xbipush (v := (nI 8)) h0 dX3_addPerson_4 (by decide) ?_
  refine xncmp_ge (tgt := 15) h0 dX3_addPerson_6 (by decide) (by omega) (by omega) (fun c_1 => ?_) (fun c_1 => ?_)
  · skip
    refine xiconst (v := (nI 0)) h0 dX3_addPerson_15 (by decide) ?_
    exact xzret h0 dX3_addPerson_16 nar_n0 () (by exact (bI_f (by first | omega | assumption | (simp_all; done))).symm) (by first | (rw [addT, if_neg (by omega)]) | (rw [addT, if_pos (by omega)]; rfl))
  · skip
    refine xiload_n h0 3 dX3_addPerson_9 rfl rfl ?_
    refine xbipush (v := (nI 100)) h0 dX3_addPerson_10 (by decide) ?_
    refine xncmp_le (tgt := 17) h0 dX3_addPerson_12 (by decide) (by omega) (by omega) (fun c_2 => ?_) (fun c_2 => ?_)
    · skip
      refine xaload_n h0 0 dX3_addPerson_17 rfl rfl ?_
      refine xget (C := RX3) (T := TX3) (N := 13) (ci := 3) (v := .int (nI (T 5 0))) h0 hiX3 0 rfl rfl 8 (by decide) (List.mem_of_getElem? (i := 1) rfl) rfl dX3_addPerson_18 ?_
      refine xistore (lv' := [(5, .int (nI (T 5 0))), (0, .ref (a 0)), (1, .int (nI as)), (2, .int (nI sa)), (3, .int (nI kn)), (4, .int (nI ki))]) h0 dX3_addPerson_21 (by decide) rfl ?_
      refine xaload_n h0 1 dX3_addPerson_23 rfl rfl ?_
      refine xget (C := RX3) (T := TX3) (N := 13) (ci := 3) (v := .ref (a 1)) h0 hiX3 0 rfl rfl 0 (by decide) (List.mem_of_getElem? (i := 2) rfl) rfl dX3_addPerson_24 ?_
      refine xiload h0 0 dX3_addPerson_27 rfl ?_
      refine xiload_n h0 2 dX3_addPerson_29 rfl rfl ?_
      refine xiastN (ws' := [(a 0, .inr (3, [.ref (a 1), .ref (a 2), .ref (a 3), .ref (a 4), .ref (a 5), .ref (a 6), .ref (a 7), .ref (a 8), .int (nI (T 5 0)), .int (nI (T 5 1)), .int (nI k), .int (nI tm), .int (nI dy)])), (a 1, .inl (cI, 8, .inl (fun i_ => nI ((upN (T 0) (T 5 0) as) i_)))), (a 2, .inl (cI, 8, .inl (fun i_ => nI (T 1 i_)))), (a 3, .inl (cI, 8, .inl (fun i_ => nI (T 2 i_)))), (a 4, .inl (cI, 8, .inl (fun i_ => nI (T 3 i_)))), (a 5, .inl (cI, 8, .inl (fun i_ => nI (mtS T i_)))), (a 6, .inl (cI, 8, .inl (fun i_ => nI (rcS T mu i_)))), (a 7, .inl (cI, 8, .inl (fun i_ => nI (bkS T i_)))), (a 8, .inl (cI, 64, .inl (fun i_ => nI (T 4 i_))))]) h0 1 0 rfl rfl (by omega) (by decide) dX3_addPerson_30 rfl ?_
      refine xaload_n h0 1 dX3_addPerson_31 rfl rfl ?_
      refine xget (C := RX3) (T := TX3) (N := 13) (ci := 3) (v := .ref (a 2)) h0 hiX3 0 rfl rfl 1 (by decide) (List.mem_of_getElem? (i := 3) rfl) rfl dX3_addPerson_32 ?_
      refine xiload h0 0 dX3_addPerson_35 rfl ?_
      refine xiload_n h0 3 dX3_addPerson_37 rfl rfl ?_
      refine xiastN (ws' := [(a 0, .inr (3, [.ref (a 1), .ref (a 2), .ref (a 3), .ref (a 4), .ref (a 5), .ref (a 6), .ref (a 7), .ref (a 8), .int (nI (T 5 0)), .int (nI (T 5 1)), .int (nI k), .int (nI tm), .int (nI dy)])), (a 1, .inl (cI, 8, .inl (fun i_ => nI ((upN (T 0) (T 5 0) as) i_)))), (a 2, .inl (cI, 8, .inl (fun i_ => nI ((upN (T 1) (T 5 0) sa) i_)))), (a 3, .inl (cI, 8, .inl (fun i_ => nI (T 2 i_)))), (a 4, .inl (cI, 8, .inl (fun i_ => nI (T 3 i_)))), (a 5, .inl (cI, 8, .inl (fun i_ => nI (mtS T i_)))), (a 6, .inl (cI, 8, .inl (fun i_ => nI (rcS T mu i_)))), (a 7, .inl (cI, 8, .inl (fun i_ => nI (bkS T i_)))), (a 8, .inl (cI, 64, .inl (fun i_ => nI (T 4 i_))))]) h0 2 0 rfl rfl (by omega) (by decide) dX3_addPerson_38 rfl ?_
      refine xaload_n h0 1 dX3_addPerson_39 rfl rfl ?_
      refine xget (C := RX3) (T := TX3) (N := 13) (ci := 3) (v := .ref (a 3)) h0 hiX3 0 rfl rfl 2 (by decide) (List.mem_of_getElem? (i := 4) rfl) rfl dX3_addPerson_40 ?_
      refine xiload h0 0 dX3_addPerson_43 rfl ?_
      refine xiload_n h0 4 dX3_addPerson_45 rfl rfl ?_
      refine xiastN (ws' := [(a 0, .inr (3, [.ref (a 1), .ref (a 2), .ref (a 3), .ref (a 4), .ref (a 5), .ref (a 6), .ref (a 7), .ref (a 8), .int (nI (T 5 0)), .int (nI (T 5 1)), .int (nI k), .int (nI tm), .int (nI dy)])), (a 1, .inl (cI, 8, .inl (fun i_ => nI ((upN (T 0) (T 5 0) as) i_)))), (a 2, .inl (cI, 8, .inl (fun i_ => nI ((upN (T 1) (T 5 0) sa) i_)))), (a 3, .inl (cI, 8, .inl (fun i_ => nI ((upN (T 2) (T 5 0) kn) i_)))), (a 4, .inl (cI, 8, .inl (fun i_ => nI (T 3 i_)))), (a 5, .inl (cI, 8, .inl (fun i_ => nI (mtS T i_)))), (a 6, .inl (cI, 8, .inl (fun i_ => nI (rcS T mu i_)))), (a 7, .inl (cI, 8, .inl (fun i_ => nI (bkS T i_)))), (a 8, .inl (cI, 64, .inl (fun i_ => nI (T 4 i_))))]) h0 3 0 rfl rfl (by omega) (by decide) dX3_addPerson_46 rfl ?_
      refine xaload_n h0 1 dX3_addPerson_47 rfl rfl ?_
      refine xget (C := RX3) (T := TX3) (N := 13) (ci := 3) (v := .ref (a 4)) h0 hiX3 0 rfl rfl 3 (by decide) (List.mem_of_getElem? (i := 5) rfl) rfl dX3_addPerson_48 ?_
      refine xiload h0 0 dX3_addPerson_51 rfl ?_
      refine xiload h0 5 dX3_addPerson_53 rfl ?_
      refine xiastN (ws' := [(a 0, .inr (3, [.ref (a 1), .ref (a 2), .ref (a 3), .ref (a 4), .ref (a 5), .ref (a 6), .ref (a 7), .ref (a 8), .int (nI (T 5 0)), .int (nI (T 5 1)), .int (nI k), .int (nI tm), .int (nI dy)])), (a 1, .inl (cI, 8, .inl (fun i_ => nI ((upN (T 0) (T 5 0) as) i_)))), (a 2, .inl (cI, 8, .inl (fun i_ => nI ((upN (T 1) (T 5 0) sa) i_)))), (a 3, .inl (cI, 8, .inl (fun i_ => nI ((upN (T 2) (T 5 0) kn) i_)))), (a 4, .inl (cI, 8, .inl (fun i_ => nI ((upN (T 3) (T 5 0) ki) i_)))), (a 5, .inl (cI, 8, .inl (fun i_ => nI (mtS T i_)))), (a 6, .inl (cI, 8, .inl (fun i_ => nI (rcS T mu i_)))), (a 7, .inl (cI, 8, .inl (fun i_ => nI (bkS T i_)))), (a 8, .inl (cI, 64, .inl (fun i_ => nI (T 4 i_))))]) h0 4 0 rfl rfl (by omega) (by decide) dX3_addPerson_55 rfl ?_
      refine xiconst (v := (nI 0)) h0 dX3_addPerson_56 (by decide) ?_
      refine xistore (lv' := [(6, .int (nI 0)), (5, .int (nI (T 5 0))), (0, .ref (a 0)), (1, .int (nI as)), (2, .int (nI sa)), (3, .int (nI kn)), (4, .int (nI ki))]) h0 dX3_addPerson_57 (by decide) rfl ?_
      have lp : ∀ (d_ : Nat) (i : Nat) (M : Nat → Nat), (9 - i ≤ d_) → (i ≤ T 5 0) → (M = mateK T ki i) → XG κ 7 D (xT cI cC) A (xQi (S := Unit) κ D (xT cI cC) A (fun r _ => r = bI (T 5 0 < 8 ∧ kn ≤ 100)) (fun _ => wTown cI a (addT T as sa kn ki) k mu tm dy) 0 0) [(a 0, .inr (3, [.ref (a 1), .ref (a 2), .ref (a 3), .ref (a 4), .ref (a 5), .ref (a 6), .ref (a 7), .ref (a 8), .int (nI (T 5 0)), .int (nI (T 5 1)), .int (nI k), .int (nI tm), .int (nI dy)])), (a 1, .inl (cI, 8, .inl (fun i_ => nI ((upN (T 0) (T 5 0) as) i_)))), (a 2, .inl (cI, 8, .inl (fun i_ => nI ((upN (T 1) (T 5 0) sa) i_)))), (a 3, .inl (cI, 8, .inl (fun i_ => nI ((upN (T 2) (T 5 0) kn) i_)))), (a 4, .inl (cI, 8, .inl (fun i_ => nI ((upN (T 3) (T 5 0) ki) i_)))), (a 5, .inl (cI, 8, .inl (fun i_ => nI (M i_)))), (a 6, .inl (cI, 8, .inl (fun i_ => nI (rcS T mu i_)))), (a 7, .inl (cI, 8, .inl (fun i_ => nI (bkS T i_)))), (a 8, .inl (cI, 64, .inl (fun i_ => nI (T 4 i_))))] 0 0 59 [(0, .ref (a 0)), (1, .int (nI as)), (2, .int (nI sa)), (3, .int (nI kn)), (4, .int (nI ki)), (5, .int (nI (T 5 0))), (6, .int (nI i))] [] := by
        intro d_
        induction d_ with
        | zero => intro i M hm_ hi hM; exact absurd hm_ (by omega)
        | succ d_ ih_lp =>
          intro i M hm_ hi hM
          refine xiload h0 6 dX3_addPerson_59 rfl ?_
          refine xiload h0 5 dX3_addPerson_61 rfl ?_
          refine xncmp_ge (tgt := 119) h0 dX3_addPerson_63 (by decide) (by omega) (by omega) (fun c_3 => ?_) (fun c_3 => ?_)
          · skip
            have hin : i = T 5 0 := by omega
            subst hM
            rw [hin]
            refine xarr (q0 := 5) (g := fun i_ => nI (mtS (addP T as sa kn ki) i_)) (ws' := [(a 0, .inr (3, [.ref (a 1), .ref (a 2), .ref (a 3), .ref (a 4), .ref (a 5), .ref (a 6), .ref (a 7), .ref (a 8), .int (nI (T 5 0)), .int (nI (T 5 1)), .int (nI k), .int (nI tm), .int (nI dy)])), (a 1, .inl (cI, 8, .inl (fun i_ => nI ((upN (T 0) (T 5 0) as) i_)))), (a 2, .inl (cI, 8, .inl (fun i_ => nI ((upN (T 1) (T 5 0) sa) i_)))), (a 3, .inl (cI, 8, .inl (fun i_ => nI ((upN (T 2) (T 5 0) kn) i_)))), (a 4, .inl (cI, 8, .inl (fun i_ => nI ((upN (T 3) (T 5 0) ki) i_)))), (a 5, .inl (cI, 8, .inl (fun i_ => nI ((mtS (addP T as sa kn ki)) i_)))), (a 6, .inl (cI, 8, .inl (fun i_ => nI (rcS T mu i_)))), (a 7, .inl (cI, 8, .inl (fun i_ => nI (bkS T i_)))), (a 8, .inl (cI, 64, .inl (fun i_ => nI (T 4 i_))))]) rfl (fun j hj => congrArg nI (mate_all as sa kn ki (by omega) j)) rfl ?_
            refine xaload_n h0 0 dX3_addPerson_119 rfl rfl ?_
            refine xdup h0 dX3_addPerson_120 rfl ?_
            refine xget (C := RX3) (T := TX3) (N := 13) (ci := 3) (v := .int (nI (T 5 0))) h0 hiX3 0 rfl rfl 8 (by decide) (List.mem_of_getElem? (i := 1) rfl) rfl dX3_addPerson_121 ?_
            refine xiconst (v := (nI 1)) h0 dX3_addPerson_124 (by decide) ?_
            refine xiadd (v := (nI ((T 5 0) + 1))) h0 dX3_addPerson_125 (nI_add _ _) ?_
            refine xput (ws' := [(a 0, .inr (3, [.ref (a 1), .ref (a 2), .ref (a 3), .ref (a 4), .ref (a 5), .ref (a 6), .ref (a 7), .ref (a 8), .int (nI ((T 5 0) + 1)), .int (nI (T 5 1)), .int (nI k), .int (nI tm), .int (nI dy)])), (a 1, .inl (cI, 8, .inl (fun i_ => nI ((upN (T 0) (T 5 0) as) i_)))), (a 2, .inl (cI, 8, .inl (fun i_ => nI ((upN (T 1) (T 5 0) sa) i_)))), (a 3, .inl (cI, 8, .inl (fun i_ => nI ((upN (T 2) (T 5 0) kn) i_)))), (a 4, .inl (cI, 8, .inl (fun i_ => nI ((upN (T 3) (T 5 0) ki) i_)))), (a 5, .inl (cI, 8, .inl (fun i_ => nI ((mtS (addP T as sa kn ki)) i_)))), (a 6, .inl (cI, 8, .inl (fun i_ => nI (rcS T mu i_)))), (a 7, .inl (cI, 8, .inl (fun i_ => nI (bkS T i_)))), (a 8, .inl (cI, 64, .inl (fun i_ => nI (T 4 i_))))]) (C := RX3) (T := TX3) (N := 13) (ci := 3) (ty := tyX3 8) h0 hiX3 tyX3 tyX3_ok nmX3 0 rfl rfl 8 (by decide) (List.mem_of_getElem? (i := 1) rfl) rfl (by decide +kernel) (rfl) (rfl) (Nat.le_of_ble_eq_true rfl) dX3_addPerson_126 rfl ?_
            refine xiconst (v := (nI 1)) h0 dX3_addPerson_129 (by decide) ?_
            exact xzret h0 dX3_addPerson_130 nar_n1 () (by exact (bI_t (by first | omega | assumption | (simp_all; done))).symm) (by first | (rw [addT, if_neg (by omega)]) | (rw [addT, if_pos (by omega)]; rfl))
          · skip
            refine xiload h0 4 dX3_addPerson_66 rfl ?_
            refine xnif_le (tgt := 113) h0 dX3_addPerson_68 (by decide) (by omega) (fun c_4 => ?_) (fun c_4 => ?_)
            · skip
              refine xiinc (v := (nI (i + 1))) (lv' := [(6, .int (nI (i + 1))), (0, .ref (a 0)), (1, .int (nI as)), (2, .int (nI sa)), (3, .int (nI kn)), (4, .int (nI ki)), (5, .int (nI (T 5 0)))]) h0 6 dX3_addPerson_113 rfl (nI_add _ _) (by decide) rfl ?_
              refine xgoto (tgt := 59) h0 dX3_addPerson_116 (by decide) ?_
              refine xlv [1, 2, 3, 4, 5, 6, 0] rfl ?_
              exact ih_lp (i + 1) M (by omega) (by omega) (by subst hM; first | exact (mateK_n (hit_0 (by assumption))).symm | exact (mateK_n (hit_n (by assumption))).symm | exact (mateK_y (hit_t (by assumption) (by assumption))).symm)
            · skip
              refine xaload_n h0 0 dX3_addPerson_71 rfl rfl ?_
              refine xget (C := RX3) (T := TX3) (N := 13) (ci := 3) (v := .ref (a 4)) h0 hiX3 0 rfl rfl 3 (by decide) (List.mem_of_getElem? (i := 5) rfl) rfl dX3_addPerson_72 ?_
              refine xiload h0 6 dX3_addPerson_75 rfl ?_
              refine xiald (v := (nI (T 3 i))) h0 4 0 rfl rfl (by omega) (by decide) dX3_addPerson_77 (congrArg nI (upN_n _ _ (by omega))) ?_
              refine xiload h0 4 dX3_addPerson_78 rfl ?_
              refine xncmp_ne (tgt := 113) h0 dX3_addPerson_80 (by decide) (by first | exact h3 i | omega) (by first | exact h3 i | omega) (fun c_5 => ?_) (fun c_5 => ?_)
              · skip
                refine xiinc (v := (nI (i + 1))) (lv' := [(6, .int (nI (i + 1))), (0, .ref (a 0)), (1, .int (nI as)), (2, .int (nI sa)), (3, .int (nI kn)), (4, .int (nI ki)), (5, .int (nI (T 5 0)))]) h0 6 dX3_addPerson_113 rfl (nI_add _ _) (by decide) rfl ?_
                refine xgoto (tgt := 59) h0 dX3_addPerson_116 (by decide) ?_
                refine xlv [1, 2, 3, 4, 5, 6, 0] rfl ?_
                exact ih_lp (i + 1) M (by omega) (by omega) (by subst hM; first | exact (mateK_n (hit_0 (by assumption))).symm | exact (mateK_n (hit_n (by assumption))).symm | exact (mateK_y (hit_t (by assumption) (by assumption))).symm)
              · skip
                refine xaload_n h0 0 dX3_addPerson_83 rfl rfl ?_
                refine xget (C := RX3) (T := TX3) (N := 13) (ci := 3) (v := .ref (a 5)) h0 hiX3 0 rfl rfl 4 (by decide) (List.mem_of_getElem? (i := 6) rfl) rfl dX3_addPerson_84 ?_
                refine xiload h0 6 dX3_addPerson_87 rfl ?_
                refine xdup2 h0 dX3_addPerson_89 rfl rfl ?_
                refine xiald (v := (nI (M i))) h0 5 0 rfl rfl (by omega) (by decide) dX3_addPerson_90 (rfl) ?_
                refine xiload h0 5 dX3_addPerson_91 rfl ?_
                refine xcallSN_i (nn := 1) (w2 := fun u_ => [(a 0, .inr (3, [.ref (a 1), .ref (a 2), .ref (a 3), .ref (a 4), .ref (a 5), .ref (a 6), .ref (a 7), .ref (a 8), .int (nI (T 5 0)), .int (nI (T 5 1)), .int (nI k), .int (nI tm), .int (nI dy)])), (a 1, .inl (cI, 8, .inl (fun i_ => nI ((upN (T 0) (T 5 0) as) i_)))), (a 2, .inl (cI, 8, .inl (fun i_ => nI ((upN (T 1) (T 5 0) sa) i_)))), (a 3, .inl (cI, 8, .inl (fun i_ => nI ((upN (T 2) (T 5 0) kn) i_)))), (a 4, .inl (cI, 8, .inl (fun i_ => nI ((upN (T 3) (T 5 0) ki) i_)))), (a 5, .inl (cI, 8, .inl (fun i_ => nI (M i_)))), (a 6, .inl (cI, 8, .inl (fun i_ => nI (rcS T mu i_)))), (a 7, .inl (cI, 8, .inl (fun i_ => nI (bkS T i_)))), (a 8, .inl (cI, 64, .inl (fun i_ => nI (T 4 i_))))]) (wr := [(a 0, .inr (3, [.ref (a 1), .ref (a 2), .ref (a 3), .ref (a 4), .ref (a 5), .ref (a 6), .ref (a 7), .ref (a 8), .int (nI (T 5 0)), .int (nI (T 5 1)), .int (nI k), .int (nI tm), .int (nI dy)])), (a 1, .inl (cI, 8, .inl (fun i_ => nI ((upN (T 0) (T 5 0) as) i_)))), (a 2, .inl (cI, 8, .inl (fun i_ => nI ((upN (T 1) (T 5 0) sa) i_)))), (a 3, .inl (cI, 8, .inl (fun i_ => nI ((upN (T 2) (T 5 0) kn) i_)))), (a 4, .inl (cI, 8, .inl (fun i_ => nI ((upN (T 3) (T 5 0) ki) i_)))), (a 5, .inl (cI, 8, .inl (fun i_ => nI (M i_)))), (a 6, .inl (cI, 8, .inl (fun i_ => nI (rcS T mu i_)))), (a 7, .inl (cI, 8, .inl (fun i_ => nI (bkS T i_)))), (a 8, .inl (cI, 64, .inl (fun i_ => nI (T 4 i_))))]) (rest := [.int (nI (M i)), .int (nI i), .ref (a 5)]) (host := "AskAnotherFirst") h0 (c_X5_bit (xL κ) D cI cC (T 5 0) (by omega)) gX3_addPerson_X5_bit_n72 (List.mem_of_getElem? (i := 6) rfl) (List.mem_of_getElem? (i := 8) rfl) (List.mem_of_getElem? (i := 7) rfl) (by decide +kernel) rfl rfl rfl ⟨Nat.le_of_ble_eq_true rfl, Nat.le_of_ble_eq_true rfl⟩ ⟨by decide, by decide⟩ (fun _ _ _ _ h => h) (fun _ _ _ _ _ _ _ => trivial) rfl (Nat.le_of_ble_eq_true rfl) rfl [] [0, 1, 2, 3, 4, 5, 6, 7, 8] [0, 1, 2, 3, 4, 5, 6, 7, 8] ⟨rfl, rfl, rfl, rfl, rfl⟩ (fun _ => ⟨rfl, rfl⟩) dX3_addPerson_93 (fun r_7 u_ hr_6 => ?_)
                subst hr_6
                refine xior (v := (nI ((M i) ||| (2 ^ (T 5 0))))) h0 dX3_addPerson_96 (nx_or _ _) ?_
                refine xiastN (ws' := [(a 0, .inr (3, [.ref (a 1), .ref (a 2), .ref (a 3), .ref (a 4), .ref (a 5), .ref (a 6), .ref (a 7), .ref (a 8), .int (nI (T 5 0)), .int (nI (T 5 1)), .int (nI k), .int (nI tm), .int (nI dy)])), (a 1, .inl (cI, 8, .inl (fun i_ => nI ((upN (T 0) (T 5 0) as) i_)))), (a 2, .inl (cI, 8, .inl (fun i_ => nI ((upN (T 1) (T 5 0) sa) i_)))), (a 3, .inl (cI, 8, .inl (fun i_ => nI ((upN (T 2) (T 5 0) kn) i_)))), (a 4, .inl (cI, 8, .inl (fun i_ => nI ((upN (T 3) (T 5 0) ki) i_)))), (a 5, .inl (cI, 8, .inl (fun i_ => nI ((upN M i ((M i) ||| (2 ^ (T 5 0)))) i_)))), (a 6, .inl (cI, 8, .inl (fun i_ => nI (rcS T mu i_)))), (a 7, .inl (cI, 8, .inl (fun i_ => nI (bkS T i_)))), (a 8, .inl (cI, 64, .inl (fun i_ => nI (T 4 i_))))]) h0 5 0 rfl rfl (by omega) (by decide) dX3_addPerson_97 rfl ?_
                refine xaload_n h0 0 dX3_addPerson_98 rfl rfl ?_
                refine xget (C := RX3) (T := TX3) (N := 13) (ci := 3) (v := .ref (a 5)) h0 hiX3 0 rfl rfl 4 (by decide) (List.mem_of_getElem? (i := 6) rfl) rfl dX3_addPerson_99 ?_
                refine xiload h0 5 dX3_addPerson_102 rfl ?_
                refine xdup2 h0 dX3_addPerson_104 rfl rfl ?_
                refine xiald (v := (nI ((upN M i ((M i) ||| (2 ^ (T 5 0)))) (T 5 0)))) h0 5 0 rfl rfl (by omega) (by decide) dX3_addPerson_105 (rfl) ?_
                refine xiload h0 6 dX3_addPerson_106 rfl ?_
                refine xcallSN_i (nn := 1) (w2 := fun u_ => [(a 0, .inr (3, [.ref (a 1), .ref (a 2), .ref (a 3), .ref (a 4), .ref (a 5), .ref (a 6), .ref (a 7), .ref (a 8), .int (nI (T 5 0)), .int (nI (T 5 1)), .int (nI k), .int (nI tm), .int (nI dy)])), (a 1, .inl (cI, 8, .inl (fun i_ => nI ((upN (T 0) (T 5 0) as) i_)))), (a 2, .inl (cI, 8, .inl (fun i_ => nI ((upN (T 1) (T 5 0) sa) i_)))), (a 3, .inl (cI, 8, .inl (fun i_ => nI ((upN (T 2) (T 5 0) kn) i_)))), (a 4, .inl (cI, 8, .inl (fun i_ => nI ((upN (T 3) (T 5 0) ki) i_)))), (a 5, .inl (cI, 8, .inl (fun i_ => nI ((upN M i ((M i) ||| (2 ^ (T 5 0)))) i_)))), (a 6, .inl (cI, 8, .inl (fun i_ => nI (rcS T mu i_)))), (a 7, .inl (cI, 8, .inl (fun i_ => nI (bkS T i_)))), (a 8, .inl (cI, 64, .inl (fun i_ => nI (T 4 i_))))]) (wr := [(a 0, .inr (3, [.ref (a 1), .ref (a 2), .ref (a 3), .ref (a 4), .ref (a 5), .ref (a 6), .ref (a 7), .ref (a 8), .int (nI (T 5 0)), .int (nI (T 5 1)), .int (nI k), .int (nI tm), .int (nI dy)])), (a 1, .inl (cI, 8, .inl (fun i_ => nI ((upN (T 0) (T 5 0) as) i_)))), (a 2, .inl (cI, 8, .inl (fun i_ => nI ((upN (T 1) (T 5 0) sa) i_)))), (a 3, .inl (cI, 8, .inl (fun i_ => nI ((upN (T 2) (T 5 0) kn) i_)))), (a 4, .inl (cI, 8, .inl (fun i_ => nI ((upN (T 3) (T 5 0) ki) i_)))), (a 5, .inl (cI, 8, .inl (fun i_ => nI ((upN M i ((M i) ||| (2 ^ (T 5 0)))) i_)))), (a 6, .inl (cI, 8, .inl (fun i_ => nI (rcS T mu i_)))), (a 7, .inl (cI, 8, .inl (fun i_ => nI (bkS T i_)))), (a 8, .inl (cI, 64, .inl (fun i_ => nI (T 4 i_))))]) (rest := [.int (nI ((upN M i ((M i) ||| (2 ^ (T 5 0)))) (T 5 0))), .int (nI (T 5 0)), .ref (a 5)]) (host := "AskAnotherFirst") h0 (c_X5_bit (xL κ) D cI cC i (by omega)) gX3_addPerson_X5_bit_n72 (List.mem_of_getElem? (i := 6) rfl) (List.mem_of_getElem? (i := 8) rfl) (List.mem_of_getElem? (i := 7) rfl) (by decide +kernel) rfl rfl rfl ⟨Nat.le_of_ble_eq_true rfl, Nat.le_of_ble_eq_true rfl⟩ ⟨by decide, by decide⟩ (fun _ _ _ _ h => h) (fun _ _ _ _ _ _ _ => trivial) rfl (Nat.le_of_ble_eq_true rfl) rfl [] [0, 1, 2, 3, 4, 5, 6, 7, 8] [0, 1, 2, 3, 4, 5, 6, 7, 8] ⟨rfl, rfl, rfl, rfl, rfl⟩ (fun _ => ⟨rfl, rfl⟩) dX3_addPerson_108 (fun r_9 u_ hr_8 => ?_)
                subst hr_8
                refine xior (v := (nI (((upN M i ((M i) ||| (2 ^ (T 5 0)))) (T 5 0)) ||| (2 ^ i)))) h0 dX3_addPerson_111 (nx_or _ _) ?_
                refine xiastN (ws' := [(a 0, .inr (3, [.ref (a 1), .ref (a 2), .ref (a 3), .ref (a 4), .ref (a 5), .ref (a 6), .ref (a 7), .ref (a 8), .int (nI (T 5 0)), .int (nI (T 5 1)), .int (nI k), .int (nI tm), .int (nI dy)])), (a 1, .inl (cI, 8, .inl (fun i_ => nI ((upN (T 0) (T 5 0) as) i_)))), (a 2, .inl (cI, 8, .inl (fun i_ => nI ((upN (T 1) (T 5 0) sa) i_)))), (a 3, .inl (cI, 8, .inl (fun i_ => nI ((upN (T 2) (T 5 0) kn) i_)))), (a 4, .inl (cI, 8, .inl (fun i_ => nI ((upN (T 3) (T 5 0) ki) i_)))), (a 5, .inl (cI, 8, .inl (fun i_ => nI ((upN (upN M i ((M i) ||| (2 ^ (T 5 0)))) (T 5 0) (((upN M i ((M i) ||| (2 ^ (T 5 0)))) (T 5 0)) ||| (2 ^ i))) i_)))), (a 6, .inl (cI, 8, .inl (fun i_ => nI (rcS T mu i_)))), (a 7, .inl (cI, 8, .inl (fun i_ => nI (bkS T i_)))), (a 8, .inl (cI, 64, .inl (fun i_ => nI (T 4 i_))))]) h0 5 0 rfl rfl (by omega) (by decide) dX3_addPerson_112 rfl ?_
                refine xiinc (v := (nI (i + 1))) (lv' := [(6, .int (nI (i + 1))), (0, .ref (a 0)), (1, .int (nI as)), (2, .int (nI sa)), (3, .int (nI kn)), (4, .int (nI ki)), (5, .int (nI (T 5 0)))]) h0 6 dX3_addPerson_113 rfl (nI_add _ _) (by decide) rfl ?_
                refine xgoto (tgt := 59) h0 dX3_addPerson_116 (by decide) ?_
                refine xlv [1, 2, 3, 4, 5, 6, 0] rfl ?_
                exact ih_lp (i + 1) (upN (upN M i ((M i) ||| (2 ^ (T 5 0)))) (T 5 0) (((upN M i ((M i) ||| (2 ^ (T 5 0)))) (T 5 0)) ||| (2 ^ i))) (by omega) (by omega) (by subst hM; first | exact (mateK_n (hit_0 (by assumption))).symm | exact (mateK_n (hit_n (by assumption))).symm | exact (mateK_y (hit_t (by assumption) (by assumption))).symm)
      refine xlv [2, 3, 4, 5, 6, 1, 0] rfl ?_
      exact lp (9) 0 (mtS T) (by omega) (by omega) (by rfl)
    · skip
      refine xiconst (v := (nI 0)) h0 dX3_addPerson_15 (by decide) ?_
      exact xzret h0 dX3_addPerson_16 nar_n0 () (by exact (bI_f (by first | omega | assumption | (simp_all; done))).symm) (by first | (rw [addT, if_neg (by omega)]) | (rw [addT, if_pos (by omega)]; rfl))
set_option maxHeartbeats 4000000 in
set_option maxRecDepth 100000 in
theorem c_X3_addMinutes (l : Launch) (D : va_G) (cI cC : ClassId) (a : Nat → Nat) (T : TT) (k mu tm dy : Nat) (on ot by_ bo : Nat) (hn : T 5 0 ≤ 8) (hon : on < 2 ^ 31) (hot : ot < 2 ^ 31) (hby : by_ < 2 ^ 31) (hbo : bo < 2 ^ 31) (hmu : 8 ≤ mu) : XMi l yX3_addMinutes wsX3_addMinutes ({ frames := 1, cells := 0, slots := 0, locals := 21 } : Room) D (xT cI cC) xE0 (wTown cI a T k mu tm dy) [.ref (a 0), .int (nI on), .int (nI ot), .int (nI by_), .int (nI bo)] (S := Unit) (fun r _ => r = bI (on < T 5 0 ∧ ot < T 5 0 ∧ on ≠ ot ∧ 1 ≤ by_ ∧ by_ ≤ 60)) (fun _ => wTown cI a (addM T on ot by_ bo) k mu tm dy) 0 0 := by
  refine xMet_i (cc := cX3_addMinutes) (nL := 5) (ret := some .boolean) (by decide +kernel) rfl (Nat.le_of_ble_eq_true rfl) (fun κ A h0 hn0 hE => ?_)
  have hiX3 : ∀ w ∈ u_ws RX3 TX3 13, w ∈ wsX3_addMinutes := by decide +kernel
  refine xlv (lv' := [(0, .ref (a 0)), (1, .int (nI on)), (2, .int (nI ot)), (3, .int (nI by_)), (4, .int (nI bo))]) [0, 1, 2, 3, 4] rfl ?_
  refine xaload_n h0 0 dX3_addMinutes_0 rfl rfl ?_
  refine xiload_n h0 1 dX3_addMinutes_1 rfl rfl ?_
  refine xcallV_i (nn := 1) (w2 := fun u_ => (wTown cI a T k mu tm dy)) (wr := []) (rest := []) h0 (c_X3_has (xL κ) D cI cC a T k mu tm dy (nI on) (by omega)) gX3_addMinutes_X3_has (by decide +kernel) rfl rfl rfl ⟨Nat.le_of_ble_eq_true rfl, Nat.le_of_ble_eq_true rfl⟩ ⟨by decide, by decide⟩ (fun _ _ _ _ h => h) (fun _ _ _ _ _ _ _ => trivial) rfl (Nat.le_of_ble_eq_true rfl) (q0 := 0) rfl rfl rfl [0, 1, 2, 3, 4, 5, 6, 7, 8] [] [0, 1, 2, 3, 4, 5, 6, 7, 8] ⟨rfl, rfl, rfl, rfl, rfl⟩ (fun _ => ⟨rfl, rfl⟩) dX3_addMinutes_2 (fun r_2 u_ hr_1 => ?_)
  subst hr_1
  refine xbif_eq (tgt := 32) h0 dX3_addMinutes_5 (by decide)  (fun c_3 => ?_) (fun c_3 => ?_)
  · skip
    have zc_3 : ¬ _ := fun z => c_3 ((okN_n hn (by omega)).mpr z)
    refine xiconst (v := (nI 0)) h0 dX3_addMinutes_32 (by decide) ?_
    exact xzret h0 dX3_addMinutes_33 nar_n0 () (by exact (bI_f (by first | omega | assumption | (simp_all; done))).symm) (by (unfold addM; (repeat' split) <;> first | rfl | (exfalso; omega)))
  · skip
    have zc_3 := (okN_n hn (by omega)).mp c_3
    refine xaload_n h0 0 dX3_addMinutes_8 rfl rfl ?_
    refine xiload_n h0 2 dX3_addMinutes_9 rfl rfl ?_
    refine xcallV_i (nn := 1) (w2 := fun u_ => (wTown cI a T k mu tm dy)) (wr := []) (rest := []) h0 (c_X3_has (xL κ) D cI cC a T k mu tm dy (nI ot) (by omega)) gX3_addMinutes_X3_has (by decide +kernel) rfl rfl rfl ⟨Nat.le_of_ble_eq_true rfl, Nat.le_of_ble_eq_true rfl⟩ ⟨by decide, by decide⟩ (fun _ _ _ _ h => h) (fun _ _ _ _ _ _ _ => trivial) rfl (Nat.le_of_ble_eq_true rfl) (q0 := 0) rfl rfl rfl [0, 1, 2, 3, 4, 5, 6, 7, 8] [] [0, 1, 2, 3, 4, 5, 6, 7, 8] ⟨rfl, rfl, rfl, rfl, rfl⟩ (fun _ => ⟨rfl, rfl⟩) dX3_addMinutes_10 (fun r_5 u_ hr_4 => ?_)
    subst hr_4
    refine xbif_eq (tgt := 32) h0 dX3_addMinutes_13 (by decide)  (fun c_6 => ?_) (fun c_6 => ?_)
    · skip
      have zc_6 : ¬ _ := fun z => c_6 ((okN_n hn (by omega)).mpr z)
      refine xiconst (v := (nI 0)) h0 dX3_addMinutes_32 (by decide) ?_
      exact xzret h0 dX3_addMinutes_33 nar_n0 () (by exact (bI_f (by first | omega | assumption | (simp_all; done))).symm) (by (unfold addM; (repeat' split) <;> first | rfl | (exfalso; omega)))
    · skip
      have zc_6 := (okN_n hn (by omega)).mp c_6
      refine xiload_n h0 1 dX3_addMinutes_16 rfl rfl ?_
      refine xiload_n h0 2 dX3_addMinutes_17 rfl rfl ?_
      refine xncmp_eq (tgt := 32) h0 dX3_addMinutes_18 (by decide) (by omega) (by omega) (fun c_7 => ?_) (fun c_7 => ?_)
      · skip
        refine xiconst (v := (nI 0)) h0 dX3_addMinutes_32 (by decide) ?_
        exact xzret h0 dX3_addMinutes_33 nar_n0 () (by exact (bI_f (by first | omega | assumption | (simp_all; done))).symm) (by (unfold addM; (repeat' split) <;> first | rfl | (exfalso; omega)))
      · skip
        refine xiload_n h0 3 dX3_addMinutes_21 rfl rfl ?_
        refine xiconst (v := (nI 1)) h0 dX3_addMinutes_22 (by decide) ?_
        refine xncmp_lt (tgt := 32) h0 dX3_addMinutes_23 (by decide) (by omega) (by omega) (fun c_8 => ?_) (fun c_8 => ?_)
        · skip
          refine xiconst (v := (nI 0)) h0 dX3_addMinutes_32 (by decide) ?_
          exact xzret h0 dX3_addMinutes_33 nar_n0 () (by exact (bI_f (by first | omega | assumption | (simp_all; done))).symm) (by (unfold addM; (repeat' split) <;> first | rfl | (exfalso; omega)))
        · skip
          refine xiload_n h0 3 dX3_addMinutes_26 rfl rfl ?_
          refine xbipush (v := (nI 60)) h0 dX3_addMinutes_27 (by decide) ?_
          refine xncmp_le (tgt := 34) h0 dX3_addMinutes_29 (by decide) (by omega) (by omega) (fun c_9 => ?_) (fun c_9 => ?_)
          · skip
            refine xaload_n h0 0 dX3_addMinutes_34 rfl rfl ?_
            refine xget (C := RX3) (T := TX3) (N := 13) (ci := 3) (v := .ref (a 8)) h0 hiX3 0 rfl rfl 7 (by decide) (List.mem_of_getElem? (i := 1) rfl) rfl dX3_addMinutes_35 ?_
            refine xiload_n h0 1 dX3_addMinutes_38 rfl rfl ?_
            refine xbipush (v := (nI 8)) h0 dX3_addMinutes_39 (by decide) ?_
            refine ximul (v := (nI (on * 8))) h0 dX3_addMinutes_41 (pk_mul _ _) ?_
            refine xiload_n h0 2 dX3_addMinutes_42 rfl rfl ?_
            refine xiadd (v := (nI (8 * on + ot))) h0 dX3_addMinutes_43 (by rw [nI_add]; congr 1; omega) ?_
            refine xiload_n h0 3 dX3_addMinutes_44 rfl rfl ?_
            refine xiastN (ws' := [(a 0, .inr (3, [.ref (a 1), .ref (a 2), .ref (a 3), .ref (a 4), .ref (a 5), .ref (a 6), .ref (a 7), .ref (a 8), .int (nI (T 5 0)), .int (nI (T 5 1)), .int (nI k), .int (nI tm), .int (nI dy)])), (a 1, .inl (cI, 8, .inl (fun i_ => nI (T 0 i_)))), (a 2, .inl (cI, 8, .inl (fun i_ => nI (T 1 i_)))), (a 3, .inl (cI, 8, .inl (fun i_ => nI (T 2 i_)))), (a 4, .inl (cI, 8, .inl (fun i_ => nI (T 3 i_)))), (a 5, .inl (cI, 8, .inl (fun i_ => nI (mtS T i_)))), (a 6, .inl (cI, 8, .inl (fun i_ => nI (rcS T mu i_)))), (a 7, .inl (cI, 8, .inl (fun i_ => nI (bkS T i_)))), (a 8, .inl (cI, 64, .inl (fun i_ => nI ((upN (T 4) (8 * on + ot) by_) i_))))]) h0 8 0 rfl rfl (by omega) (by decide) dX3_addMinutes_45 rfl ?_
            refine xaload_n h0 0 dX3_addMinutes_46 rfl rfl ?_
            refine xget (C := RX3) (T := TX3) (N := 13) (ci := 3) (v := .ref (a 6)) h0 hiX3 0 rfl rfl 5 (by decide) (List.mem_of_getElem? (i := 2) rfl) rfl dX3_addMinutes_47 ?_
            refine xiload_n h0 1 dX3_addMinutes_50 rfl rfl ?_
            refine xdup2 h0 dX3_addMinutes_51 rfl rfl ?_
            refine xiald (v := (nI (rcS T mu on))) h0 6 0 rfl rfl (by omega) (by decide) dX3_addMinutes_52 (rfl) ?_
            refine xiload_n h0 2 dX3_addMinutes_53 rfl rfl ?_
            refine xcallSN_i (nn := 1) (w2 := fun u_ => [(a 0, .inr (3, [.ref (a 1), .ref (a 2), .ref (a 3), .ref (a 4), .ref (a 5), .ref (a 6), .ref (a 7), .ref (a 8), .int (nI (T 5 0)), .int (nI (T 5 1)), .int (nI k), .int (nI tm), .int (nI dy)])), (a 1, .inl (cI, 8, .inl (fun i_ => nI (T 0 i_)))), (a 2, .inl (cI, 8, .inl (fun i_ => nI (T 1 i_)))), (a 3, .inl (cI, 8, .inl (fun i_ => nI (T 2 i_)))), (a 4, .inl (cI, 8, .inl (fun i_ => nI (T 3 i_)))), (a 5, .inl (cI, 8, .inl (fun i_ => nI (mtS T i_)))), (a 6, .inl (cI, 8, .inl (fun i_ => nI (rcS T mu i_)))), (a 7, .inl (cI, 8, .inl (fun i_ => nI (bkS T i_)))), (a 8, .inl (cI, 64, .inl (fun i_ => nI ((upN (T 4) (8 * on + ot) by_) i_))))]) (wr := [(a 0, .inr (3, [.ref (a 1), .ref (a 2), .ref (a 3), .ref (a 4), .ref (a 5), .ref (a 6), .ref (a 7), .ref (a 8), .int (nI (T 5 0)), .int (nI (T 5 1)), .int (nI k), .int (nI tm), .int (nI dy)])), (a 1, .inl (cI, 8, .inl (fun i_ => nI (T 0 i_)))), (a 2, .inl (cI, 8, .inl (fun i_ => nI (T 1 i_)))), (a 3, .inl (cI, 8, .inl (fun i_ => nI (T 2 i_)))), (a 4, .inl (cI, 8, .inl (fun i_ => nI (T 3 i_)))), (a 5, .inl (cI, 8, .inl (fun i_ => nI (mtS T i_)))), (a 6, .inl (cI, 8, .inl (fun i_ => nI (rcS T mu i_)))), (a 7, .inl (cI, 8, .inl (fun i_ => nI (bkS T i_)))), (a 8, .inl (cI, 64, .inl (fun i_ => nI ((upN (T 4) (8 * on + ot) by_) i_))))]) (rest := [.int (nI (rcS T mu on)), .int (nI on), .ref (a 6)]) (host := "AskAnotherFirst") h0 (c_X5_bit (xL κ) D cI cC ot (by omega)) gX3_addMinutes_X5_bit_n72 (List.mem_of_getElem? (i := 6) rfl) (List.mem_of_getElem? (i := 11) rfl) (List.mem_of_getElem? (i := 10) rfl) (by decide +kernel) rfl rfl rfl ⟨Nat.le_of_ble_eq_true rfl, Nat.le_of_ble_eq_true rfl⟩ ⟨by decide, by decide⟩ (fun _ _ _ _ h => h) (fun _ _ _ _ _ _ _ => trivial) rfl (Nat.le_of_ble_eq_true rfl) rfl [] [0, 1, 2, 3, 4, 5, 6, 7, 8] [0, 1, 2, 3, 4, 5, 6, 7, 8] ⟨rfl, rfl, rfl, rfl, rfl⟩ (fun _ => ⟨rfl, rfl⟩) dX3_addMinutes_54 (fun r_11 u_ hr_10 => ?_)
            subst hr_10
            refine xior (v := (nI ((rcS T mu on) ||| (2 ^ ot)))) h0 dX3_addMinutes_57 (nx_or _ _) ?_
            refine xiastN (ws' := [(a 0, .inr (3, [.ref (a 1), .ref (a 2), .ref (a 3), .ref (a 4), .ref (a 5), .ref (a 6), .ref (a 7), .ref (a 8), .int (nI (T 5 0)), .int (nI (T 5 1)), .int (nI k), .int (nI tm), .int (nI dy)])), (a 1, .inl (cI, 8, .inl (fun i_ => nI (T 0 i_)))), (a 2, .inl (cI, 8, .inl (fun i_ => nI (T 1 i_)))), (a 3, .inl (cI, 8, .inl (fun i_ => nI (T 2 i_)))), (a 4, .inl (cI, 8, .inl (fun i_ => nI (T 3 i_)))), (a 5, .inl (cI, 8, .inl (fun i_ => nI (mtS T i_)))), (a 6, .inl (cI, 8, .inl (fun i_ => nI ((upN (rcS T mu) on ((rcS T mu on) ||| (2 ^ ot))) i_)))), (a 7, .inl (cI, 8, .inl (fun i_ => nI (bkS T i_)))), (a 8, .inl (cI, 64, .inl (fun i_ => nI ((upN (T 4) (8 * on + ot) by_) i_))))]) h0 6 0 rfl rfl (by omega) (by decide) dX3_addMinutes_58 rfl ?_
            refine xarr (q0 := 6) (g := fun i_ => nI (rcS (up2 T 4 (8 * on + ot) by_) mu i_)) (ws' := [(a 0, .inr (3, [.ref (a 1), .ref (a 2), .ref (a 3), .ref (a 4), .ref (a 5), .ref (a 6), .ref (a 7), .ref (a 8), .int (nI (T 5 0)), .int (nI (T 5 1)), .int (nI k), .int (nI tm), .int (nI dy)])), (a 1, .inl (cI, 8, .inl (fun i_ => nI (T 0 i_)))), (a 2, .inl (cI, 8, .inl (fun i_ => nI (T 1 i_)))), (a 3, .inl (cI, 8, .inl (fun i_ => nI (T 2 i_)))), (a 4, .inl (cI, 8, .inl (fun i_ => nI (T 3 i_)))), (a 5, .inl (cI, 8, .inl (fun i_ => nI (mtS T i_)))), (a 6, .inl (cI, 8, .inl (fun i_ => nI ((rcS (up2 T 4 (8 * on + ot) by_) mu) i_)))), (a 7, .inl (cI, 8, .inl (fun i_ => nI (bkS T i_)))), (a 8, .inl (cI, 64, .inl (fun i_ => nI ((upN (T 4) (8 * on + ot) by_) i_))))]) rfl (fun j hj => congrArg nI (rc_add (by omega) (by omega) (by omega) hmu j)) rfl ?_
            refine xaload_n h0 0 dX3_addMinutes_59 rfl rfl ?_
            refine xget (C := RX3) (T := TX3) (N := 13) (ci := 3) (v := .ref (a 7)) h0 hiX3 0 rfl rfl 6 (by decide) (List.mem_of_getElem? (i := 3) rfl) rfl dX3_addMinutes_60 ?_
            refine xiload_n h0 2 dX3_addMinutes_63 rfl rfl ?_
            refine xdup2 h0 dX3_addMinutes_64 rfl rfl ?_
            refine xiald (v := (nI (bkS T ot))) h0 7 0 rfl rfl (by omega) (by decide) dX3_addMinutes_65 (rfl) ?_
            refine xiload_n h0 1 dX3_addMinutes_66 rfl rfl ?_
            refine xcallSN_i (nn := 1) (w2 := fun u_ => [(a 0, .inr (3, [.ref (a 1), .ref (a 2), .ref (a 3), .ref (a 4), .ref (a 5), .ref (a 6), .ref (a 7), .ref (a 8), .int (nI (T 5 0)), .int (nI (T 5 1)), .int (nI k), .int (nI tm), .int (nI dy)])), (a 1, .inl (cI, 8, .inl (fun i_ => nI (T 0 i_)))), (a 2, .inl (cI, 8, .inl (fun i_ => nI (T 1 i_)))), (a 3, .inl (cI, 8, .inl (fun i_ => nI (T 2 i_)))), (a 4, .inl (cI, 8, .inl (fun i_ => nI (T 3 i_)))), (a 5, .inl (cI, 8, .inl (fun i_ => nI (mtS T i_)))), (a 6, .inl (cI, 8, .inl (fun i_ => nI ((rcS (up2 T 4 (8 * on + ot) by_) mu) i_)))), (a 7, .inl (cI, 8, .inl (fun i_ => nI (bkS T i_)))), (a 8, .inl (cI, 64, .inl (fun i_ => nI ((upN (T 4) (8 * on + ot) by_) i_))))]) (wr := [(a 0, .inr (3, [.ref (a 1), .ref (a 2), .ref (a 3), .ref (a 4), .ref (a 5), .ref (a 6), .ref (a 7), .ref (a 8), .int (nI (T 5 0)), .int (nI (T 5 1)), .int (nI k), .int (nI tm), .int (nI dy)])), (a 1, .inl (cI, 8, .inl (fun i_ => nI (T 0 i_)))), (a 2, .inl (cI, 8, .inl (fun i_ => nI (T 1 i_)))), (a 3, .inl (cI, 8, .inl (fun i_ => nI (T 2 i_)))), (a 4, .inl (cI, 8, .inl (fun i_ => nI (T 3 i_)))), (a 5, .inl (cI, 8, .inl (fun i_ => nI (mtS T i_)))), (a 6, .inl (cI, 8, .inl (fun i_ => nI ((rcS (up2 T 4 (8 * on + ot) by_) mu) i_)))), (a 7, .inl (cI, 8, .inl (fun i_ => nI (bkS T i_)))), (a 8, .inl (cI, 64, .inl (fun i_ => nI ((upN (T 4) (8 * on + ot) by_) i_))))]) (rest := [.int (nI (bkS T ot)), .int (nI ot), .ref (a 7)]) (host := "AskAnotherFirst") h0 (c_X5_bit (xL κ) D cI cC on (by omega)) gX3_addMinutes_X5_bit_n72 (List.mem_of_getElem? (i := 6) rfl) (List.mem_of_getElem? (i := 11) rfl) (List.mem_of_getElem? (i := 10) rfl) (by decide +kernel) rfl rfl rfl ⟨Nat.le_of_ble_eq_true rfl, Nat.le_of_ble_eq_true rfl⟩ ⟨by decide, by decide⟩ (fun _ _ _ _ h => h) (fun _ _ _ _ _ _ _ => trivial) rfl (Nat.le_of_ble_eq_true rfl) rfl [] [0, 1, 2, 3, 4, 5, 6, 7, 8] [0, 1, 2, 3, 4, 5, 6, 7, 8] ⟨rfl, rfl, rfl, rfl, rfl⟩ (fun _ => ⟨rfl, rfl⟩) dX3_addMinutes_67 (fun r_13 u_ hr_12 => ?_)
            subst hr_12
            refine xior (v := (nI ((bkS T ot) ||| (2 ^ on)))) h0 dX3_addMinutes_70 (nx_or _ _) ?_
            refine xiastN (ws' := [(a 0, .inr (3, [.ref (a 1), .ref (a 2), .ref (a 3), .ref (a 4), .ref (a 5), .ref (a 6), .ref (a 7), .ref (a 8), .int (nI (T 5 0)), .int (nI (T 5 1)), .int (nI k), .int (nI tm), .int (nI dy)])), (a 1, .inl (cI, 8, .inl (fun i_ => nI (T 0 i_)))), (a 2, .inl (cI, 8, .inl (fun i_ => nI (T 1 i_)))), (a 3, .inl (cI, 8, .inl (fun i_ => nI (T 2 i_)))), (a 4, .inl (cI, 8, .inl (fun i_ => nI (T 3 i_)))), (a 5, .inl (cI, 8, .inl (fun i_ => nI (mtS T i_)))), (a 6, .inl (cI, 8, .inl (fun i_ => nI ((rcS (up2 T 4 (8 * on + ot) by_) mu) i_)))), (a 7, .inl (cI, 8, .inl (fun i_ => nI ((upN (bkS T) ot ((bkS T ot) ||| (2 ^ on))) i_)))), (a 8, .inl (cI, 64, .inl (fun i_ => nI ((upN (T 4) (8 * on + ot) by_) i_))))]) h0 7 0 rfl rfl (by omega) (by decide) dX3_addMinutes_71 rfl ?_
            refine xarr (q0 := 7) (g := fun i_ => nI (bkS (up2 T 4 (8 * on + ot) by_) i_)) (ws' := [(a 0, .inr (3, [.ref (a 1), .ref (a 2), .ref (a 3), .ref (a 4), .ref (a 5), .ref (a 6), .ref (a 7), .ref (a 8), .int (nI (T 5 0)), .int (nI (T 5 1)), .int (nI k), .int (nI tm), .int (nI dy)])), (a 1, .inl (cI, 8, .inl (fun i_ => nI (T 0 i_)))), (a 2, .inl (cI, 8, .inl (fun i_ => nI (T 1 i_)))), (a 3, .inl (cI, 8, .inl (fun i_ => nI (T 2 i_)))), (a 4, .inl (cI, 8, .inl (fun i_ => nI (T 3 i_)))), (a 5, .inl (cI, 8, .inl (fun i_ => nI (mtS T i_)))), (a 6, .inl (cI, 8, .inl (fun i_ => nI ((rcS (up2 T 4 (8 * on + ot) by_) mu) i_)))), (a 7, .inl (cI, 8, .inl (fun i_ => nI ((bkS (up2 T 4 (8 * on + ot) by_)) i_)))), (a 8, .inl (cI, 64, .inl (fun i_ => nI ((upN (T 4) (8 * on + ot) by_) i_))))]) rfl (fun j hj => congrArg nI (bk_add (by omega) (by omega) (by omega) j hj)) rfl ?_
            refine xiload h0 4 dX3_addMinutes_72 rfl ?_
            refine xnif_eq (tgt := 115) h0 dX3_addMinutes_74 (by decide) (by omega) (fun c_14 => ?_) (fun c_14 => ?_)
            · skip
              refine xiconst (v := (nI 1)) h0 dX3_addMinutes_115 (by decide) ?_
              exact xzret h0 dX3_addMinutes_116 nar_n1 () (by exact (bI_t (by first | omega | assumption | (simp_all; done))).symm) (by (unfold addM; (repeat' split) <;> first | rfl | (exfalso; omega)))
            · skip
              refine xaload_n h0 0 dX3_addMinutes_77 rfl rfl ?_
              refine xget (C := RX3) (T := TX3) (N := 13) (ci := 3) (v := .ref (a 8)) h0 hiX3 0 rfl rfl 7 (by decide) (List.mem_of_getElem? (i := 1) rfl) rfl dX3_addMinutes_78 ?_
              refine xiload_n h0 2 dX3_addMinutes_81 rfl rfl ?_
              refine xbipush (v := (nI 8)) h0 dX3_addMinutes_82 (by decide) ?_
              refine ximul (v := (nI (ot * 8))) h0 dX3_addMinutes_84 (pk_mul _ _) ?_
              refine xiload_n h0 1 dX3_addMinutes_85 rfl rfl ?_
              refine xiadd (v := (nI (8 * ot + on))) h0 dX3_addMinutes_86 (by rw [nI_add]; congr 1; omega) ?_
              refine xiload_n h0 3 dX3_addMinutes_87 rfl rfl ?_
              refine xiastN (ws' := [(a 0, .inr (3, [.ref (a 1), .ref (a 2), .ref (a 3), .ref (a 4), .ref (a 5), .ref (a 6), .ref (a 7), .ref (a 8), .int (nI (T 5 0)), .int (nI (T 5 1)), .int (nI k), .int (nI tm), .int (nI dy)])), (a 1, .inl (cI, 8, .inl (fun i_ => nI (T 0 i_)))), (a 2, .inl (cI, 8, .inl (fun i_ => nI (T 1 i_)))), (a 3, .inl (cI, 8, .inl (fun i_ => nI (T 2 i_)))), (a 4, .inl (cI, 8, .inl (fun i_ => nI (T 3 i_)))), (a 5, .inl (cI, 8, .inl (fun i_ => nI (mtS T i_)))), (a 6, .inl (cI, 8, .inl (fun i_ => nI ((rcS (up2 T 4 (8 * on + ot) by_) mu) i_)))), (a 7, .inl (cI, 8, .inl (fun i_ => nI ((bkS (up2 T 4 (8 * on + ot) by_)) i_)))), (a 8, .inl (cI, 64, .inl (fun i_ => nI ((upN (upN (T 4) (8 * on + ot) by_) (8 * ot + on) by_) i_))))]) h0 8 0 rfl rfl (by omega) (by decide) dX3_addMinutes_88 rfl ?_
              refine xaload_n h0 0 dX3_addMinutes_89 rfl rfl ?_
              refine xget (C := RX3) (T := TX3) (N := 13) (ci := 3) (v := .ref (a 6)) h0 hiX3 0 rfl rfl 5 (by decide) (List.mem_of_getElem? (i := 2) rfl) rfl dX3_addMinutes_90 ?_
              refine xiload_n h0 2 dX3_addMinutes_93 rfl rfl ?_
              refine xdup2 h0 dX3_addMinutes_94 rfl rfl ?_
              refine xiald (v := (nI ((rcS (up2 T 4 (8 * on + ot) by_) mu) ot))) h0 6 0 rfl rfl (by omega) (by decide) dX3_addMinutes_95 (rfl) ?_
              refine xiload_n h0 1 dX3_addMinutes_96 rfl rfl ?_
              refine xcallSN_i (nn := 1) (w2 := fun u_ => [(a 0, .inr (3, [.ref (a 1), .ref (a 2), .ref (a 3), .ref (a 4), .ref (a 5), .ref (a 6), .ref (a 7), .ref (a 8), .int (nI (T 5 0)), .int (nI (T 5 1)), .int (nI k), .int (nI tm), .int (nI dy)])), (a 1, .inl (cI, 8, .inl (fun i_ => nI (T 0 i_)))), (a 2, .inl (cI, 8, .inl (fun i_ => nI (T 1 i_)))), (a 3, .inl (cI, 8, .inl (fun i_ => nI (T 2 i_)))), (a 4, .inl (cI, 8, .inl (fun i_ => nI (T 3 i_)))), (a 5, .inl (cI, 8, .inl (fun i_ => nI (mtS T i_)))), (a 6, .inl (cI, 8, .inl (fun i_ => nI ((rcS (up2 T 4 (8 * on + ot) by_) mu) i_)))), (a 7, .inl (cI, 8, .inl (fun i_ => nI ((bkS (up2 T 4 (8 * on + ot) by_)) i_)))), (a 8, .inl (cI, 64, .inl (fun i_ => nI ((upN (upN (T 4) (8 * on + ot) by_) (8 * ot + on) by_) i_))))]) (wr := [(a 0, .inr (3, [.ref (a 1), .ref (a 2), .ref (a 3), .ref (a 4), .ref (a 5), .ref (a 6), .ref (a 7), .ref (a 8), .int (nI (T 5 0)), .int (nI (T 5 1)), .int (nI k), .int (nI tm), .int (nI dy)])), (a 1, .inl (cI, 8, .inl (fun i_ => nI (T 0 i_)))), (a 2, .inl (cI, 8, .inl (fun i_ => nI (T 1 i_)))), (a 3, .inl (cI, 8, .inl (fun i_ => nI (T 2 i_)))), (a 4, .inl (cI, 8, .inl (fun i_ => nI (T 3 i_)))), (a 5, .inl (cI, 8, .inl (fun i_ => nI (mtS T i_)))), (a 6, .inl (cI, 8, .inl (fun i_ => nI ((rcS (up2 T 4 (8 * on + ot) by_) mu) i_)))), (a 7, .inl (cI, 8, .inl (fun i_ => nI ((bkS (up2 T 4 (8 * on + ot) by_)) i_)))), (a 8, .inl (cI, 64, .inl (fun i_ => nI ((upN (upN (T 4) (8 * on + ot) by_) (8 * ot + on) by_) i_))))]) (rest := [.int (nI ((rcS (up2 T 4 (8 * on + ot) by_) mu) ot)), .int (nI ot), .ref (a 6)]) (host := "AskAnotherFirst") h0 (c_X5_bit (xL κ) D cI cC on (by omega)) gX3_addMinutes_X5_bit_n72 (List.mem_of_getElem? (i := 6) rfl) (List.mem_of_getElem? (i := 11) rfl) (List.mem_of_getElem? (i := 10) rfl) (by decide +kernel) rfl rfl rfl ⟨Nat.le_of_ble_eq_true rfl, Nat.le_of_ble_eq_true rfl⟩ ⟨by decide, by decide⟩ (fun _ _ _ _ h => h) (fun _ _ _ _ _ _ _ => trivial) rfl (Nat.le_of_ble_eq_true rfl) rfl [] [0, 1, 2, 3, 4, 5, 6, 7, 8] [0, 1, 2, 3, 4, 5, 6, 7, 8] ⟨rfl, rfl, rfl, rfl, rfl⟩ (fun _ => ⟨rfl, rfl⟩) dX3_addMinutes_97 (fun r_16 u_ hr_15 => ?_)
              subst hr_15
              refine xior (v := (nI (((rcS (up2 T 4 (8 * on + ot) by_) mu) ot) ||| (2 ^ on)))) h0 dX3_addMinutes_100 (nx_or _ _) ?_
              refine xiastN (ws' := [(a 0, .inr (3, [.ref (a 1), .ref (a 2), .ref (a 3), .ref (a 4), .ref (a 5), .ref (a 6), .ref (a 7), .ref (a 8), .int (nI (T 5 0)), .int (nI (T 5 1)), .int (nI k), .int (nI tm), .int (nI dy)])), (a 1, .inl (cI, 8, .inl (fun i_ => nI (T 0 i_)))), (a 2, .inl (cI, 8, .inl (fun i_ => nI (T 1 i_)))), (a 3, .inl (cI, 8, .inl (fun i_ => nI (T 2 i_)))), (a 4, .inl (cI, 8, .inl (fun i_ => nI (T 3 i_)))), (a 5, .inl (cI, 8, .inl (fun i_ => nI (mtS T i_)))), (a 6, .inl (cI, 8, .inl (fun i_ => nI ((upN (rcS (up2 T 4 (8 * on + ot) by_) mu) ot (((rcS (up2 T 4 (8 * on + ot) by_) mu) ot) ||| (2 ^ on))) i_)))), (a 7, .inl (cI, 8, .inl (fun i_ => nI ((bkS (up2 T 4 (8 * on + ot) by_)) i_)))), (a 8, .inl (cI, 64, .inl (fun i_ => nI ((upN (upN (T 4) (8 * on + ot) by_) (8 * ot + on) by_) i_))))]) h0 6 0 rfl rfl (by omega) (by decide) dX3_addMinutes_101 rfl ?_
              refine xarr (q0 := 6) (g := fun i_ => nI (rcS (up2 (up2 T 4 (8 * on + ot) by_) 4 (8 * ot + on) by_) mu i_)) (ws' := [(a 0, .inr (3, [.ref (a 1), .ref (a 2), .ref (a 3), .ref (a 4), .ref (a 5), .ref (a 6), .ref (a 7), .ref (a 8), .int (nI (T 5 0)), .int (nI (T 5 1)), .int (nI k), .int (nI tm), .int (nI dy)])), (a 1, .inl (cI, 8, .inl (fun i_ => nI (T 0 i_)))), (a 2, .inl (cI, 8, .inl (fun i_ => nI (T 1 i_)))), (a 3, .inl (cI, 8, .inl (fun i_ => nI (T 2 i_)))), (a 4, .inl (cI, 8, .inl (fun i_ => nI (T 3 i_)))), (a 5, .inl (cI, 8, .inl (fun i_ => nI (mtS T i_)))), (a 6, .inl (cI, 8, .inl (fun i_ => nI ((rcS (up2 (up2 T 4 (8 * on + ot) by_) 4 (8 * ot + on) by_) mu) i_)))), (a 7, .inl (cI, 8, .inl (fun i_ => nI ((bkS (up2 T 4 (8 * on + ot) by_)) i_)))), (a 8, .inl (cI, 64, .inl (fun i_ => nI ((upN (upN (T 4) (8 * on + ot) by_) (8 * ot + on) by_) i_))))]) rfl (fun j hj => congrArg nI (rc_add (T := up2 T 4 (8 * on + ot) by_) (by omega) (by omega) (by omega) hmu j)) rfl ?_
              refine xaload_n h0 0 dX3_addMinutes_102 rfl rfl ?_
              refine xget (C := RX3) (T := TX3) (N := 13) (ci := 3) (v := .ref (a 7)) h0 hiX3 0 rfl rfl 6 (by decide) (List.mem_of_getElem? (i := 3) rfl) rfl dX3_addMinutes_103 ?_
              refine xiload_n h0 1 dX3_addMinutes_106 rfl rfl ?_
              refine xdup2 h0 dX3_addMinutes_107 rfl rfl ?_
              refine xiald (v := (nI ((bkS (up2 T 4 (8 * on + ot) by_)) on))) h0 7 0 rfl rfl (by omega) (by decide) dX3_addMinutes_108 (rfl) ?_
              refine xiload_n h0 2 dX3_addMinutes_109 rfl rfl ?_
              refine xcallSN_i (nn := 1) (w2 := fun u_ => [(a 0, .inr (3, [.ref (a 1), .ref (a 2), .ref (a 3), .ref (a 4), .ref (a 5), .ref (a 6), .ref (a 7), .ref (a 8), .int (nI (T 5 0)), .int (nI (T 5 1)), .int (nI k), .int (nI tm), .int (nI dy)])), (a 1, .inl (cI, 8, .inl (fun i_ => nI (T 0 i_)))), (a 2, .inl (cI, 8, .inl (fun i_ => nI (T 1 i_)))), (a 3, .inl (cI, 8, .inl (fun i_ => nI (T 2 i_)))), (a 4, .inl (cI, 8, .inl (fun i_ => nI (T 3 i_)))), (a 5, .inl (cI, 8, .inl (fun i_ => nI (mtS T i_)))), (a 6, .inl (cI, 8, .inl (fun i_ => nI ((rcS (up2 (up2 T 4 (8 * on + ot) by_) 4 (8 * ot + on) by_) mu) i_)))), (a 7, .inl (cI, 8, .inl (fun i_ => nI ((bkS (up2 T 4 (8 * on + ot) by_)) i_)))), (a 8, .inl (cI, 64, .inl (fun i_ => nI ((upN (upN (T 4) (8 * on + ot) by_) (8 * ot + on) by_) i_))))]) (wr := [(a 0, .inr (3, [.ref (a 1), .ref (a 2), .ref (a 3), .ref (a 4), .ref (a 5), .ref (a 6), .ref (a 7), .ref (a 8), .int (nI (T 5 0)), .int (nI (T 5 1)), .int (nI k), .int (nI tm), .int (nI dy)])), (a 1, .inl (cI, 8, .inl (fun i_ => nI (T 0 i_)))), (a 2, .inl (cI, 8, .inl (fun i_ => nI (T 1 i_)))), (a 3, .inl (cI, 8, .inl (fun i_ => nI (T 2 i_)))), (a 4, .inl (cI, 8, .inl (fun i_ => nI (T 3 i_)))), (a 5, .inl (cI, 8, .inl (fun i_ => nI (mtS T i_)))), (a 6, .inl (cI, 8, .inl (fun i_ => nI ((rcS (up2 (up2 T 4 (8 * on + ot) by_) 4 (8 * ot + on) by_) mu) i_)))), (a 7, .inl (cI, 8, .inl (fun i_ => nI ((bkS (up2 T 4 (8 * on + ot) by_)) i_)))), (a 8, .inl (cI, 64, .inl (fun i_ => nI ((upN (upN (T 4) (8 * on + ot) by_) (8 * ot + on) by_) i_))))]) (rest := [.int (nI ((bkS (up2 T 4 (8 * on + ot) by_)) on)), .int (nI on), .ref (a 7)]) (host := "AskAnotherFirst") h0 (c_X5_bit (xL κ) D cI cC ot (by omega)) gX3_addMinutes_X5_bit_n72 (List.mem_of_getElem? (i := 6) rfl) (List.mem_of_getElem? (i := 11) rfl) (List.mem_of_getElem? (i := 10) rfl) (by decide +kernel) rfl rfl rfl ⟨Nat.le_of_ble_eq_true rfl, Nat.le_of_ble_eq_true rfl⟩ ⟨by decide, by decide⟩ (fun _ _ _ _ h => h) (fun _ _ _ _ _ _ _ => trivial) rfl (Nat.le_of_ble_eq_true rfl) rfl [] [0, 1, 2, 3, 4, 5, 6, 7, 8] [0, 1, 2, 3, 4, 5, 6, 7, 8] ⟨rfl, rfl, rfl, rfl, rfl⟩ (fun _ => ⟨rfl, rfl⟩) dX3_addMinutes_110 (fun r_18 u_ hr_17 => ?_)
              subst hr_17
              refine xior (v := (nI (((bkS (up2 T 4 (8 * on + ot) by_)) on) ||| (2 ^ ot)))) h0 dX3_addMinutes_113 (nx_or _ _) ?_
              refine xiastN (ws' := [(a 0, .inr (3, [.ref (a 1), .ref (a 2), .ref (a 3), .ref (a 4), .ref (a 5), .ref (a 6), .ref (a 7), .ref (a 8), .int (nI (T 5 0)), .int (nI (T 5 1)), .int (nI k), .int (nI tm), .int (nI dy)])), (a 1, .inl (cI, 8, .inl (fun i_ => nI (T 0 i_)))), (a 2, .inl (cI, 8, .inl (fun i_ => nI (T 1 i_)))), (a 3, .inl (cI, 8, .inl (fun i_ => nI (T 2 i_)))), (a 4, .inl (cI, 8, .inl (fun i_ => nI (T 3 i_)))), (a 5, .inl (cI, 8, .inl (fun i_ => nI (mtS T i_)))), (a 6, .inl (cI, 8, .inl (fun i_ => nI ((rcS (up2 (up2 T 4 (8 * on + ot) by_) 4 (8 * ot + on) by_) mu) i_)))), (a 7, .inl (cI, 8, .inl (fun i_ => nI ((upN (bkS (up2 T 4 (8 * on + ot) by_)) on (((bkS (up2 T 4 (8 * on + ot) by_)) on) ||| (2 ^ ot))) i_)))), (a 8, .inl (cI, 64, .inl (fun i_ => nI ((upN (upN (T 4) (8 * on + ot) by_) (8 * ot + on) by_) i_))))]) h0 7 0 rfl rfl (by omega) (by decide) dX3_addMinutes_114 rfl ?_
              refine xarr (q0 := 7) (g := fun i_ => nI (bkS (up2 (up2 T 4 (8 * on + ot) by_) 4 (8 * ot + on) by_) i_)) (ws' := [(a 0, .inr (3, [.ref (a 1), .ref (a 2), .ref (a 3), .ref (a 4), .ref (a 5), .ref (a 6), .ref (a 7), .ref (a 8), .int (nI (T 5 0)), .int (nI (T 5 1)), .int (nI k), .int (nI tm), .int (nI dy)])), (a 1, .inl (cI, 8, .inl (fun i_ => nI (T 0 i_)))), (a 2, .inl (cI, 8, .inl (fun i_ => nI (T 1 i_)))), (a 3, .inl (cI, 8, .inl (fun i_ => nI (T 2 i_)))), (a 4, .inl (cI, 8, .inl (fun i_ => nI (T 3 i_)))), (a 5, .inl (cI, 8, .inl (fun i_ => nI (mtS T i_)))), (a 6, .inl (cI, 8, .inl (fun i_ => nI ((rcS (up2 (up2 T 4 (8 * on + ot) by_) 4 (8 * ot + on) by_) mu) i_)))), (a 7, .inl (cI, 8, .inl (fun i_ => nI ((bkS (up2 (up2 T 4 (8 * on + ot) by_) 4 (8 * ot + on) by_)) i_)))), (a 8, .inl (cI, 64, .inl (fun i_ => nI ((upN (upN (T 4) (8 * on + ot) by_) (8 * ot + on) by_) i_))))]) rfl (fun j hj => congrArg nI (bk_add (T := up2 T 4 (8 * on + ot) by_) (by omega) (by omega) (by omega) j hj)) rfl ?_
              refine xiconst (v := (nI 1)) h0 dX3_addMinutes_115 (by decide) ?_
              exact xzret h0 dX3_addMinutes_116 nar_n1 () (by exact (bI_t (by first | omega | assumption | (simp_all; done))).symm) (by (unfold addM; (repeat' split) <;> first | rfl | (exfalso; omega)))
          · skip
            refine xiconst (v := (nI 0)) h0 dX3_addMinutes_32 (by decide) ?_
            exact xzret h0 dX3_addMinutes_33 nar_n0 () (by exact (bI_f (by first | omega | assumption | (simp_all; done))).symm) (by (unfold addM; (repeat' split) <;> first | rfl | (exfalso; omega)))
set_option maxHeartbeats 4000000 in
set_option maxRecDepth 100000 in
theorem c_X3_setLaw (l : Launch) (D : va_G) (cI cC : ClassId) (a : Nat → Nat) (T : TT) (k mu tm dy : Nat) (v : Nat) (hv : v < 2 ^ 31) : XMi l yX3_setLaw wsX3_setLaw ({ frames := 0, cells := 0, slots := 0, locals := 0 } : Room) D (xT cI cC) xE0 (wTown cI a T k mu tm dy) [.ref (a 0), .int (nI v)] (S := Unit) (fun r _ => r = bI (v ≤ 4)) (fun _ => wTown cI a (setL T v) k mu tm dy) 0 0 := by
  refine xMet_i (cc := cX3_setLaw) (nL := 2) (ret := some .boolean) (by decide +kernel) rfl (Nat.le_of_ble_eq_true rfl) (fun κ A h0 hn0 hE => ?_)
  have hiX3 : ∀ w ∈ u_ws RX3 TX3 13, w ∈ wsX3_setLaw := by decide +kernel
  refine xlv (lv' := [(0, .ref (a 0)), (1, .int (nI v))]) [0, 1] rfl ?_
  refine xiload_n h0 1 dX3_setLaw_0 rfl rfl ?_
  refine xnif_lt (tgt := 9) h0 dX3_setLaw_1 (by decide) (by omega) ?_
  refine xiload_n h0 1 dX3_setLaw_4 rfl rfl ?_
  refine xiconst (v := (nI 4)) h0 dX3_setLaw_5 (by decide) ?_
  refine xncmp_le (tgt := 11) h0 dX3_setLaw_6 (by decide) (by omega) (by omega) (fun c_2 => ?_) (fun c_2 => ?_)
  · skip
    refine xaload_n h0 0 dX3_setLaw_11 rfl rfl ?_
    refine xiload_n h0 1 dX3_setLaw_12 rfl rfl ?_
    refine xput (ws' := [(a 0, .inr (3, [.ref (a 1), .ref (a 2), .ref (a 3), .ref (a 4), .ref (a 5), .ref (a 6), .ref (a 7), .ref (a 8), .int (nI (T 5 0)), .int (nI v), .int (nI k), .int (nI tm), .int (nI dy)])), (a 1, .inl (cI, 8, .inl (fun i_ => nI (T 0 i_)))), (a 2, .inl (cI, 8, .inl (fun i_ => nI (T 1 i_)))), (a 3, .inl (cI, 8, .inl (fun i_ => nI (T 2 i_)))), (a 4, .inl (cI, 8, .inl (fun i_ => nI (T 3 i_)))), (a 5, .inl (cI, 8, .inl (fun i_ => nI (mtS T i_)))), (a 6, .inl (cI, 8, .inl (fun i_ => nI (rcS T mu i_)))), (a 7, .inl (cI, 8, .inl (fun i_ => nI (bkS T i_)))), (a 8, .inl (cI, 64, .inl (fun i_ => nI (T 4 i_))))]) (C := RX3) (T := TX3) (N := 13) (ci := 3) (ty := tyX3 9) h0 hiX3 tyX3 tyX3_ok nmX3 0 rfl rfl 9 (by decide) (List.mem_of_getElem? (i := 1) rfl) rfl (by decide +kernel) (rfl) (rfl) (Nat.le_of_ble_eq_true rfl) dX3_setLaw_13 rfl ?_
    refine xiconst (v := (nI 1)) h0 dX3_setLaw_16 (by decide) ?_
    exact xzret h0 dX3_setLaw_17 nar_n1 () (by exact (bI_t (by first | omega | assumption | (simp_all; done))).symm) (by (unfold setL; split <;> first | rfl | (exfalso; omega)))
  · skip
    refine xiconst (v := (nI 0)) h0 dX3_setLaw_9 (by decide) ?_
    exact xzret h0 dX3_setLaw_10 nar_n0 () (by exact (bI_f (by first | omega | assumption | (simp_all; done))).symm) (by (unfold setL; split <;> first | rfl | (exfalso; omega)))
set_option maxHeartbeats 4000000 in
set_option maxRecDepth 100000 in
theorem c_X3_setAsker (l : Launch) (D : va_G) (cI cC : ClassId) (a : Nat → Nat) (T : TT) (k mu tm dy : Nat) (p v : Nat) (hn : T 5 0 ≤ 8) (hp : p < T 5 0) : XMv l yX3_setAsker wsX3_setAsker ({ frames := 1, cells := 0, slots := 0, locals := 21 } : Room) D (xT cI cC) xE0 (wTown cI a T k mu tm dy) [.ref (a 0), .int (nI p), .int (nI v)] (S := Unit) (fun _ => True) (fun _ => wTown cI a (up2 T 0 p v) k mu tm dy) 0 0 := by
  refine xMet_v (cc := cX3_setAsker) (nL := 3)  (by decide +kernel) rfl (Nat.le_of_ble_eq_true rfl) (fun κ A h0 hn0 hE => ?_)
  have hiX3 : ∀ w ∈ u_ws RX3 TX3 13, w ∈ wsX3_setAsker := by decide +kernel
  refine xlv (lv' := [(0, .ref (a 0)), (1, .int (nI p)), (2, .int (nI v))]) [0, 1, 2] rfl ?_
  refine xaload_n h0 0 dX3_setAsker_0 rfl rfl ?_
  refine xiload_n h0 1 dX3_setAsker_1 rfl rfl ?_
  refine xcallV_i (nn := 1) (w2 := fun u_ => (wTown cI a T k mu tm dy)) (wr := []) (rest := []) h0 (c_X3_has (xL κ) D cI cC a T k mu tm dy (nI p) (by omega)) gX3_setAsker_X3_has (by decide +kernel) rfl rfl rfl ⟨Nat.le_of_ble_eq_true rfl, Nat.le_of_ble_eq_true rfl⟩ ⟨by decide, by decide⟩ (fun _ _ _ _ h => h) (fun _ _ _ _ _ _ _ => trivial) rfl (Nat.le_of_ble_eq_true rfl) (q0 := 0) rfl rfl rfl [0, 1, 2, 3, 4, 5, 6, 7, 8] [] [0, 1, 2, 3, 4, 5, 6, 7, 8] ⟨rfl, rfl, rfl, rfl, rfl⟩ (fun _ => ⟨rfl, rfl⟩) dX3_setAsker_2 (fun r_2 u_ hr_1 => ?_)
  subst hr_1
  refine xbif_eq (tgt := 15) h0 dX3_setAsker_5 (by decide)  (fun c_3 => ?_) (fun c_3 => ?_)
  · exact absurd (by exact (okN_n (by omega) (by omega)).mpr (by omega)) c_3
  · skip
    refine xaload_n h0 0 dX3_setAsker_8 rfl rfl ?_
    refine xget (C := RX3) (T := TX3) (N := 13) (ci := 3) (v := .ref (a 1)) h0 hiX3 0 rfl rfl 0 (by decide) (List.mem_of_getElem? (i := 1) rfl) rfl dX3_setAsker_9 ?_
    refine xiload_n h0 1 dX3_setAsker_12 rfl rfl ?_
    refine xiload_n h0 2 dX3_setAsker_13 rfl rfl ?_
    refine xiastN (ws' := [(a 0, .inr (3, [.ref (a 1), .ref (a 2), .ref (a 3), .ref (a 4), .ref (a 5), .ref (a 6), .ref (a 7), .ref (a 8), .int (nI (T 5 0)), .int (nI (T 5 1)), .int (nI k), .int (nI tm), .int (nI dy)])), (a 1, .inl (cI, 8, .inl (fun i_ => nI ((upN (T 0) p v) i_)))), (a 2, .inl (cI, 8, .inl (fun i_ => nI (T 1 i_)))), (a 3, .inl (cI, 8, .inl (fun i_ => nI (T 2 i_)))), (a 4, .inl (cI, 8, .inl (fun i_ => nI (T 3 i_)))), (a 5, .inl (cI, 8, .inl (fun i_ => nI (mtS T i_)))), (a 6, .inl (cI, 8, .inl (fun i_ => nI (rcS T mu i_)))), (a 7, .inl (cI, 8, .inl (fun i_ => nI (bkS T i_)))), (a 8, .inl (cI, 64, .inl (fun i_ => nI (T 4 i_))))]) h0 1 0 rfl rfl (by omega) (by decide) dX3_setAsker_14 rfl ?_
    exact xvret h0 dX3_setAsker_15 () (by trivial) rfl
set_option maxHeartbeats 4000000 in
set_option maxRecDepth 100000 in
theorem c_X3_setSayer (l : Launch) (D : va_G) (cI cC : ClassId) (a : Nat → Nat) (T : TT) (k mu tm dy : Nat) (p v : Nat) (hn : T 5 0 ≤ 8) (hp : p < T 5 0) : XMv l yX3_setSayer wsX3_setSayer ({ frames := 1, cells := 0, slots := 0, locals := 21 } : Room) D (xT cI cC) xE0 (wTown cI a T k mu tm dy) [.ref (a 0), .int (nI p), .int (nI v)] (S := Unit) (fun _ => True) (fun _ => wTown cI a (up2 T 1 p v) k mu tm dy) 0 0 := by
  refine xMet_v (cc := cX3_setSayer) (nL := 3)  (by decide +kernel) rfl (Nat.le_of_ble_eq_true rfl) (fun κ A h0 hn0 hE => ?_)
  have hiX3 : ∀ w ∈ u_ws RX3 TX3 13, w ∈ wsX3_setSayer := by decide +kernel
  refine xlv (lv' := [(0, .ref (a 0)), (1, .int (nI p)), (2, .int (nI v))]) [0, 1, 2] rfl ?_
  refine xaload_n h0 0 dX3_setSayer_0 rfl rfl ?_
  refine xiload_n h0 1 dX3_setSayer_1 rfl rfl ?_
  refine xcallV_i (nn := 1) (w2 := fun u_ => (wTown cI a T k mu tm dy)) (wr := []) (rest := []) h0 (c_X3_has (xL κ) D cI cC a T k mu tm dy (nI p) (by omega)) gX3_setSayer_X3_has (by decide +kernel) rfl rfl rfl ⟨Nat.le_of_ble_eq_true rfl, Nat.le_of_ble_eq_true rfl⟩ ⟨by decide, by decide⟩ (fun _ _ _ _ h => h) (fun _ _ _ _ _ _ _ => trivial) rfl (Nat.le_of_ble_eq_true rfl) (q0 := 0) rfl rfl rfl [0, 1, 2, 3, 4, 5, 6, 7, 8] [] [0, 1, 2, 3, 4, 5, 6, 7, 8] ⟨rfl, rfl, rfl, rfl, rfl⟩ (fun _ => ⟨rfl, rfl⟩) dX3_setSayer_2 (fun r_2 u_ hr_1 => ?_)
  subst hr_1
  refine xbif_eq (tgt := 15) h0 dX3_setSayer_5 (by decide)  (fun c_3 => ?_) (fun c_3 => ?_)
  · exact absurd (by exact (okN_n (by omega) (by omega)).mpr (by omega)) c_3
  · skip
    refine xaload_n h0 0 dX3_setSayer_8 rfl rfl ?_
    refine xget (C := RX3) (T := TX3) (N := 13) (ci := 3) (v := .ref (a 2)) h0 hiX3 0 rfl rfl 1 (by decide) (List.mem_of_getElem? (i := 1) rfl) rfl dX3_setSayer_9 ?_
    refine xiload_n h0 1 dX3_setSayer_12 rfl rfl ?_
    refine xiload_n h0 2 dX3_setSayer_13 rfl rfl ?_
    refine xiastN (ws' := [(a 0, .inr (3, [.ref (a 1), .ref (a 2), .ref (a 3), .ref (a 4), .ref (a 5), .ref (a 6), .ref (a 7), .ref (a 8), .int (nI (T 5 0)), .int (nI (T 5 1)), .int (nI k), .int (nI tm), .int (nI dy)])), (a 1, .inl (cI, 8, .inl (fun i_ => nI (T 0 i_)))), (a 2, .inl (cI, 8, .inl (fun i_ => nI ((upN (T 1) p v) i_)))), (a 3, .inl (cI, 8, .inl (fun i_ => nI (T 2 i_)))), (a 4, .inl (cI, 8, .inl (fun i_ => nI (T 3 i_)))), (a 5, .inl (cI, 8, .inl (fun i_ => nI (mtS T i_)))), (a 6, .inl (cI, 8, .inl (fun i_ => nI (rcS T mu i_)))), (a 7, .inl (cI, 8, .inl (fun i_ => nI (bkS T i_)))), (a 8, .inl (cI, 64, .inl (fun i_ => nI (T 4 i_))))]) h0 2 0 rfl rfl (by omega) (by decide) dX3_setSayer_14 rfl ?_
    exact xvret h0 dX3_setSayer_15 () (by trivial) rfl
set_option maxHeartbeats 4000000 in
set_option maxRecDepth 100000 in
theorem c_X3_silence (l : Launch) (D : va_G) (cI cC : ClassId) (a : Nat → Nat) (T : TT) (k tm dy p : Nat) (hn : T 5 0 ≤ 8) (hp : p < T 5 0) : XMv l yX3_silence wsX3_silence ({ frames := 1, cells := 0, slots := 0, locals := 21 } : Room) D (xT cI cC) xE0 (wTown cI a T k 8 tm dy) [.ref (a 0), .int (nI p)] (S := Unit) (fun _ => True) (fun _ => wTown cI a T k p tm dy) 0 0 := by
  refine xMet_v (cc := cX3_silence) (nL := 2)  (by decide +kernel) rfl (Nat.le_of_ble_eq_true rfl) (fun κ A h0 hn0 hE => ?_)
  have hiX3 : ∀ w ∈ u_ws RX3 TX3 13, w ∈ wsX3_silence := by decide +kernel
  refine xlv (lv' := [(0, .ref (a 0)), (1, .int (nI p))]) [0, 1] rfl ?_
  refine xaload_n h0 0 dX3_silence_0 rfl rfl ?_
  refine xiload_n h0 1 dX3_silence_1 rfl rfl ?_
  refine xcallV_i (nn := 1) (w2 := fun u_ => (wTown cI a T k 8 tm dy)) (wr := []) (rest := []) h0 (c_X3_has (xL κ) D cI cC a T k 8 tm dy (nI p) (by omega)) gX3_silence_X3_has (by decide +kernel) rfl rfl rfl ⟨Nat.le_of_ble_eq_true rfl, Nat.le_of_ble_eq_true rfl⟩ ⟨by decide, by decide⟩ (fun _ _ _ _ h => h) (fun _ _ _ _ _ _ _ => trivial) rfl (Nat.le_of_ble_eq_true rfl) (q0 := 0) rfl rfl rfl [0, 1, 2, 3, 4, 5, 6, 7, 8] [] [0, 1, 2, 3, 4, 5, 6, 7, 8] ⟨rfl, rfl, rfl, rfl, rfl⟩ (fun _ => ⟨rfl, rfl⟩) dX3_silence_2 (fun r_2 u_ hr_1 => ?_)
  subst hr_1
  refine xbif_eq (tgt := 15) h0 dX3_silence_5 (by decide)  (fun c_3 => ?_) (fun c_3 => ?_)
  · exact absurd (by exact (okN_n (by omega) (by omega)).mpr (by omega)) c_3
  · skip
    refine xaload_n h0 0 dX3_silence_8 rfl rfl ?_
    refine xget (C := RX3) (T := TX3) (N := 13) (ci := 3) (v := .ref (a 6)) h0 hiX3 0 rfl rfl 5 (by decide) (List.mem_of_getElem? (i := 1) rfl) rfl dX3_silence_9 ?_
    refine xiload_n h0 1 dX3_silence_12 rfl rfl ?_
    refine xiconst (v := (nI 0)) h0 dX3_silence_13 (by decide) ?_
    refine xiastN (ws' := [(a 0, .inr (3, [.ref (a 1), .ref (a 2), .ref (a 3), .ref (a 4), .ref (a 5), .ref (a 6), .ref (a 7), .ref (a 8), .int (nI (T 5 0)), .int (nI (T 5 1)), .int (nI k), .int (nI tm), .int (nI dy)])), (a 1, .inl (cI, 8, .inl (fun i_ => nI (T 0 i_)))), (a 2, .inl (cI, 8, .inl (fun i_ => nI (T 1 i_)))), (a 3, .inl (cI, 8, .inl (fun i_ => nI (T 2 i_)))), (a 4, .inl (cI, 8, .inl (fun i_ => nI (T 3 i_)))), (a 5, .inl (cI, 8, .inl (fun i_ => nI (mtS T i_)))), (a 6, .inl (cI, 8, .inl (fun i_ => nI ((upN (rcS T 8) p 0) i_)))), (a 7, .inl (cI, 8, .inl (fun i_ => nI (bkS T i_)))), (a 8, .inl (cI, 64, .inl (fun i_ => nI (T 4 i_))))]) h0 6 0 rfl rfl (by omega) (by decide) dX3_silence_14 rfl ?_
    refine xarr (q0 := 6) (g := fun i_ => nI (rcS T p i_)) (ws' := [(a 0, .inr (3, [.ref (a 1), .ref (a 2), .ref (a 3), .ref (a 4), .ref (a 5), .ref (a 6), .ref (a 7), .ref (a 8), .int (nI (T 5 0)), .int (nI (T 5 1)), .int (nI k), .int (nI tm), .int (nI dy)])), (a 1, .inl (cI, 8, .inl (fun i_ => nI (T 0 i_)))), (a 2, .inl (cI, 8, .inl (fun i_ => nI (T 1 i_)))), (a 3, .inl (cI, 8, .inl (fun i_ => nI (T 2 i_)))), (a 4, .inl (cI, 8, .inl (fun i_ => nI (T 3 i_)))), (a 5, .inl (cI, 8, .inl (fun i_ => nI (mtS T i_)))), (a 6, .inl (cI, 8, .inl (fun i_ => nI (rcS T p i_)))), (a 7, .inl (cI, 8, .inl (fun i_ => nI (bkS T i_)))), (a 8, .inl (cI, 64, .inl (fun i_ => nI (T 4 i_))))]) rfl (fun j hj => congrArg nI (rc_sil T hj)) rfl ?_
    exact xvret h0 dX3_silence_15 () (by trivial) rfl
set_option maxHeartbeats 4000000 in
set_option maxRecDepth 100000 in
theorem c_X4_init (l : Launch) (D : va_G) (cI cC : ClassId) (a0 : Nat)  : XMv l yX4_init wsX4_init ({ frames := 1, cells := 1, slots := 8, locals := 12 } : Room) D (xT cI cC) xE0 [(a0, .inr (4, [.null, .int (nI 0), .int (nI 0)]))] [.ref a0] (S := Nat) (fun _ => True) (fun b => wWay cI a0 b [] (fun _ => 0)) 1 8 := by
  refine xMet_v (cc := cX4_init) (nL := 1)  (by decide +kernel) rfl (Nat.le_of_ble_eq_true rfl) (fun κ A h0 hn0 hE => ?_)
  have hiX4 : ∀ w ∈ u_ws RX4 TX4 3, w ∈ wsX4_init := by decide +kernel
  refine xlv (lv' := [(0, .ref a0)]) [0] rfl ?_
  refine xaload_n h0 0 dX4_init_0 rfl rfl ?_
  refine xobj h0 (List.mem_of_getElem? (i := 1) rfl) (List.mem_of_getElem? (i := 2) rfl) (List.mem_of_getElem? (i := 3) rfl) ⟨by decide, by decide⟩ dX4_init_1 ?_
  refine xaload_n h0 0 dX4_init_4 rfl rfl ?_
  refine xbipush (v := (nI 8)) h0 dX4_init_5 (by decide) ?_
  refine xnewI h0 (List.mem_of_getElem? (i := 4) rfl) 0 rfl (by decide) ⟨by decide, by decide⟩ dX4_init_7 (fun q_1 => ?_)
  refine xeq (ws' := [(a0, .inr (4, [.null, .int (nI 0), .int (nI 0)])), (q_1, .inl (cI, 8, .inl (fun i_ => nI ((fun _ => 0) i_))))]) rfl ?_
  refine xputF (ws' := [(a0, .inr (4, [.ref q_1, .int (nI 0), .int (nI 0)])), (q_1, .inl (cI, 8, .inl (fun i_ => nI ((fun _ => 0) i_))))]) (C := RX4) (T := TX4) (N := 3) (ci := 4) (ty := tyX4 0) h0 hn0 hiX4 tyX4 tyX4_ok nmX4 0 rfl rfl 0 (by decide) (List.mem_of_getElem? (i := 5) rfl) rfl rfl (by decide +kernel) (rfl) (rfl) (Nat.le_of_ble_eq_true rfl) dX4_init_9 rfl ?_
  exact xvret h0 dX4_init_12 q_1 (by trivial) rfl
set_option maxHeartbeats 4000000 in
set_option maxRecDepth 100000 in
theorem c_X2_init (l : Launch) (D : va_G) (cI cC : ClassId) (a0 : Nat)  : XMv l yX2_init wsX2_init ({ frames := 1, cells := 0, slots := 0, locals := 12 } : Room) D (xT cI cC) xE0 [(a0, .inr (2, [.int (nI 0), .int (nI 0)]))] [.ref a0] (S := Unit) (fun _ => True) (fun _ => [(a0, .inr (2, [.int (nI 0), .int (nI 0)]))]) 0 0 := by
  refine xMet_v (cc := cX2_init) (nL := 1)  (by decide +kernel) rfl (Nat.le_of_ble_eq_true rfl) (fun κ A h0 hn0 hE => ?_)
  refine xlv (lv' := [(0, .ref a0)]) [0] rfl ?_
  refine xaload_n h0 0 dX2_init_0 rfl rfl ?_
  refine xobj h0 (List.mem_of_getElem? (i := 1) rfl) (List.mem_of_getElem? (i := 2) rfl) (List.mem_of_getElem? (i := 3) rfl) ⟨by decide, by decide⟩ dX2_init_1 ?_
  exact xvret h0 dX2_init_4 () (by trivial) rfl
set_option maxHeartbeats 4000000 in
set_option maxRecDepth 100000 in
theorem c_X1_init (l : Launch) (D : va_G) (cI cC : ClassId) (a0 : Nat)  : XMv l yX1_init wsX1_init ({ frames := 1, cells := 1, slots := 64, locals := 12 } : Room) D (xT cI cC) xE0 [(a0, .inr (1, [.null, .int (nI 0), .int (nI 0), .int (nI 0)]))] [.ref a0] (S := Nat) (fun _ => True) (fun b => [(a0, .inr (1, [.ref b, .int (nI 0), .int (nI 0), .int (nI 0)])), (b, .inl (cC, 64, .inl (fun i => nI ((fun _ => 0) i))))]) 1 64 := by
  refine xMet_v (cc := cX1_init) (nL := 1)  (by decide +kernel) rfl (Nat.le_of_ble_eq_true rfl) (fun κ A h0 hn0 hE => ?_)
  have hiX1 : ∀ w ∈ u_ws RX1 TX1 4, w ∈ wsX1_init := by decide +kernel
  refine xlv (lv' := [(0, .ref a0)]) [0] rfl ?_
  refine xaload_n h0 0 dX1_init_0 rfl rfl ?_
  refine xobj h0 (List.mem_of_getElem? (i := 1) rfl) (List.mem_of_getElem? (i := 2) rfl) (List.mem_of_getElem? (i := 3) rfl) ⟨by decide, by decide⟩ dX1_init_1 ?_
  refine xaload_n h0 0 dX1_init_4 rfl rfl ?_
  refine xbipush (v := (nI 64)) h0 dX1_init_5 (by decide) ?_
  refine xnewC h0 (List.mem_of_getElem? (i := 4) rfl) 1 rfl (by decide) ⟨by decide, by decide⟩ dX1_init_7 (fun q_1 => ?_)
  refine xeq (ws' := [(a0, .inr (1, [.null, .int (nI 0), .int (nI 0), .int (nI 0)])), (q_1, .inl (cC, 64, .inl (fun i_ => nI ((fun _ => 0) i_))))]) rfl ?_
  refine xputF (ws' := [(a0, .inr (1, [.ref q_1, .int (nI 0), .int (nI 0), .int (nI 0)])), (q_1, .inl (cC, 64, .inl (fun i_ => nI ((fun _ => 0) i_))))]) (C := RX1) (T := TX1) (N := 4) (ci := 1) (ty := tyX1 0) h0 hn0 hiX1 tyX1 tyX1_ok nmX1 0 rfl rfl 0 (by decide) (List.mem_of_getElem? (i := 5) rfl) rfl rfl (by decide +kernel) (rfl) (rfl) (Nat.le_of_ble_eq_true rfl) dX1_init_9 rfl ?_
  exact xvret h0 dX1_init_12 q_1 (by trivial) rfl
