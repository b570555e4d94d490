/-! THE CLASS Town -/
abbrev wTown (cI : ClassId) (a : Nat → Nat) (T : TT) (k mu tm dy : Nat) : va_W := [(a 0, .inr (3, [.ref (a 1), .ref (a 2), .ref (a 3), .ref (a 4), .ref (a 5), .ref (a 6), .ref (a 7), .ref (a 8), .int (nI (T 5 0)), .int (nI (T 5 1)), .int (nI k), .int (nI tm), .int (nI dy)])), (a 1, .inl (cI, 8, .inl (fun i => nI (T 0 i)))), (a 2, .inl (cI, 8, .inl (fun i => nI (T 1 i)))), (a 3, .inl (cI, 8, .inl (fun i => nI (T 2 i)))), (a 4, .inl (cI, 8, .inl (fun i => nI (T 3 i)))), (a 5, .inl (cI, 8, .inl (fun i => nI (mtS T i)))), (a 6, .inl (cI, 8, .inl (fun i => nI (rcS T mu i)))), (a 7, .inl (cI, 8, .inl (fun i => nI (bkS T i)))), (a 8, .inl (cI, 64, .inl (fun i => nI (T 4 i))))]
theorem xname {κ : Cx} {nL : Nat} {D : va_G} {tys : List (ClassId × FieldType)} {A : Nat → Prop} {Q : State → Prop} {ws : va_W} {n k pc : Nat} {lv : List (Nat × Value)} {st : List Value} {v : Int32} (kk : ∀ y : Int32, y = v → XG κ nL D tys A Q ws n k pc lv (.int y :: st)) : XG κ nL D tys A Q ws n k pc lv (.int v :: st) := kk v rfl
/-- somebody's number -/
abbrev okN (n : Nat) (x : Int32) : Prop := ¬ x < 0 ∧ x < nI n
theorem okN_n {n p : Nat} (hn : n ≤ 8) (hp : p < 2 ^ 31) : okN n (nI p) ↔ p < n := ⟨fun h => (nI_ltI hp (by omega)).mp h.2, fun h => ⟨nI_pos hp, (nI_ltI hp (by omega)).mpr h⟩⟩
theorem okN_of {n : Nat} {x : Int32} (hn : n ≤ 8) (h : okN n x) : ∃ p, p < n ∧ x = nI p := by
  obtain ⟨j, hj, rfl⟩ := nI_of h.1
  exact ⟨j, (okN_n hn hj).mp h, rfl⟩
def bc1 (x : Int32) : Int32 := x - ((Int32.toUInt32 x >>> (Int32.toUInt32 (nI 1) &&& Int32.toUInt32 31)).toInt32 &&& nI 1431655765)
def bc2 (x : Int32) : Int32 := (x &&& nI 858993459) + ((Int32.toUInt32 x >>> (Int32.toUInt32 (nI 2) &&& Int32.toUInt32 31)).toInt32 &&& nI 858993459)
def bc3 (x : Int32) : Int32 := (x + (Int32.toUInt32 x >>> (Int32.toUInt32 (nI 4) &&& Int32.toUInt32 31)).toInt32) &&& nI 252645135
def bc4 (x : Int32) : Int32 := x + (Int32.toUInt32 x >>> (Int32.toUInt32 (nI 8) &&& Int32.toUInt32 31)).toInt32
def bc5 (x : Int32) : Int32 := x + (Int32.toUInt32 x >>> (Int32.toUInt32 (nI 16) &&& Int32.toUInt32 31)).toInt32
theorem bc_all : ∀ S, S < 256 → bc5 (bc4 (bc3 (bc2 (bc1 (nI S))))) &&& nI 63 = nI (cdS S) := by decide +kernel
def mtoK (T : TT) (mu : Nat) : Nat → Nat
  | 0 => 0
  | k + 1 => mtoK T mu k + cdS (rcS T mu k)
theorem cd_or {S q : Nat} (hS : S < 256) (hq : q < 8) : 1 ≤ cdS (S ||| 2 ^ q) := cdS_pos _ (or_lt256 hS (pw_lt256 hq)) q hq (by rw [Nat.testBit_or, Nat.testBit_two_pow_self, Bool.or_true])
theorem cd_msk {w : List Nat} {p : Nat} (h : ∀ z ∈ w ++ [p], z < 8) : 1 ≤ cdS (mskL (w ++ [p])) := cdS_pos _ (mskL_lt _ h) p (h p (by simp)) (by rw [mskL_bit]; simp)
theorem may_stop {T : TT} {h S k mu : Nat} (hc : 1 ≤ cdS S) (z : (T 5 1 = 2 ∧ 3 ≤ cdS S - 1) ∨ (T 5 1 = 3 ∧ 6 ≤ cdS S - 1)) : mayS T h S k mu = 0 := by
  unfold mayS
  split
  · rfl
  · split
    · rfl
    · exfalso; omega
theorem may_go {T : TT} (hT : TOK T) {h S k mu : Nat} (hc : 1 ≤ cdS S) (z : ¬ ((T 5 1 = 2 ∧ 3 ≤ cdS S - 1) ∨ (T 5 1 = 3 ∧ 6 ≤ cdS S - 1))) : mayS T h S k mu = opS T h (k ||| S) mu := by
  rw [opS_eq hT, Nat.or_comm k S]
  unfold mayS
  split
  · rfl
  · split
    · exfalso; omega
    · rfl
theorem oI_m {b : Option Nat} (hb : ∀ c, b = some c → c < 2 ^ 31) (h : oI b = -1) : b = none := by
  cases b with
  | none => rfl
  | some c =>
    have h2 := nI_pos (hb c rfl)
    have h3 : nI c = -1 := h
    rw [h3] at h2
    exact absurd (by decide) h2
theorem oI_s {b : Option Nat} (h : ¬ oI b = -1) : ∃ c, b = some c := by
  cases b with
  | none => exact absurd rfl h
  | some c => exact ⟨c, rfl⟩
def oJ : Nat → Int32
  | 0 => -1
  | j + 1 => nI j
theorem oJ_neg {j : Nat} (hj : j < 2 ^ 31) (h : oJ j < 0) : j = 0 := by
  cases j with
  | zero => rfl
  | succ j => exact absurd h (nI_pos (by omega))
theorem oJ_pos {j : Nat} (h : ¬ oJ j < 0) : ∃ i, j = i + 1 := by
  cases j with
  | zero => exact absurd (by decide) h
  | succ j => exact ⟨j, rfl⟩
theorem oJ_sub {n : Nat} (h : 1 ≤ n) : nI n - nI 1 = oJ n := by
  cases n with
  | zero => exact absurd h (by decide)
  | succ j => exact pk_sub (by omega)
theorem oJ_pred (j : Nat) : nI j + (-1) = oJ j := by
  cases j with
  | zero => decide
  | succ j => exact pk_m1 j
theorem getD_mem {w : List Nat} {i : Nat} (h : i < w.length) : w.getD i 0 ∈ w := by
  rw [List.getD_eq_getElem?_getD, List.getElem?_eq_getElem h]
  exact List.getElem_mem h
theorem oI_rt {T : TT} {w : List Nat} (h : 1 ≤ w.length) : oI (rtS T (w.drop 0)) = nI (rgS T w) := by
  rw [List.drop_zero]
  cases w with
  | nil => exact absurd h (by decide)
  | cons p r => rfl

set_option maxHeartbeats 4000000 in
set_option maxRecDepth 100000 in
theorem c_J6_bitCount_0f7a4 (l : Launch) (D : va_G) (cI cC : ClassId) (S : Nat) (hS : S < 256) : XMi l yJ6_bitCount_0f7a4 wsJ6_bitCount_0f7a4 ({ frames := 0, cells := 0, slots := 0, locals := 0 } : Room) D (xT cI cC) xE0 [] [.int (nI S)] (S := Unit) (fun r _ => r = nI (cdS S)) (fun _ => []) 0 0 := by
  refine xMet_i (cc := cJ6_bitCount_0f7a4) (nL := 1) (ret := some .int) (by decide +kernel) rfl (Nat.le_of_ble_eq_true rfl) (fun κ A h0 hn0 hE => ?_)
  refine xlv (lv' := [(0, .int (nI S))]) [0] rfl ?_
  refine xiload_n h0 0 dJ6_bitCount_0f7a4_0 rfl rfl ?_
  refine xiload_n h0 0 dJ6_bitCount_0f7a4_1 rfl rfl ?_
  refine xiconst (v := (nI 1)) h0 dJ6_bitCount_0f7a4_2 (by decide) ?_
  refine xiushr (v := ((Int32.toUInt32 (nI S) >>> (Int32.toUInt32 (nI 1) &&& Int32.toUInt32 31)).toInt32)) h0 dJ6_bitCount_0f7a4_3 rfl ?_
  refine xldcw (v := (nI 1431655765)) h0 (List.mem_of_getElem? (i := 1) rfl) dJ6_bitCount_0f7a4_4 ?_
  refine xiand (v := (((Int32.toUInt32 (nI S) >>> (Int32.toUInt32 (nI 1) &&& Int32.toUInt32 31)).toInt32) &&& (nI 1431655765))) h0 dJ6_bitCount_0f7a4_7 rfl ?_
  refine xisub (v := ((nI S) - (((Int32.toUInt32 (nI S) >>> (Int32.toUInt32 (nI 1) &&& Int32.toUInt32 31)).toInt32) &&& (nI 1431655765)))) h0 dJ6_bitCount_0f7a4_8 rfl ?_
  refine xname (fun y1 ey1 => ?_)
  refine xistore_n (lv' := [(0, .int y1)]) h0 dJ6_bitCount_0f7a4_9 rfl (by decide) rfl ?_
  refine xiload_n h0 0 dJ6_bitCount_0f7a4_10 rfl rfl ?_
  refine xldcw (v := (nI 858993459)) h0 (List.mem_of_getElem? (i := 2) rfl) dJ6_bitCount_0f7a4_11 ?_
  refine xiand (v := (y1 &&& (nI 858993459))) h0 dJ6_bitCount_0f7a4_14 rfl ?_
  refine xiload_n h0 0 dJ6_bitCount_0f7a4_15 rfl rfl ?_
  refine xiconst (v := (nI 2)) h0 dJ6_bitCount_0f7a4_16 (by decide) ?_
  refine xiushr (v := ((Int32.toUInt32 y1 >>> (Int32.toUInt32 (nI 2) &&& Int32.toUInt32 31)).toInt32)) h0 dJ6_bitCount_0f7a4_17 rfl ?_
  refine xldcw (v := (nI 858993459)) h0 (List.mem_of_getElem? (i := 2) rfl) dJ6_bitCount_0f7a4_18 ?_
  refine xiand (v := (((Int32.toUInt32 y1 >>> (Int32.toUInt32 (nI 2) &&& Int32.toUInt32 31)).toInt32) &&& (nI 858993459))) h0 dJ6_bitCount_0f7a4_21 rfl ?_
  refine xiadd (v := ((y1 &&& (nI 858993459)) + (((Int32.toUInt32 y1 >>> (Int32.toUInt32 (nI 2) &&& Int32.toUInt32 31)).toInt32) &&& (nI 858993459)))) h0 dJ6_bitCount_0f7a4_22 rfl ?_
  refine xname (fun y2 ey2 => ?_)
  refine xistore_n (lv' := [(0, .int y2)]) h0 dJ6_bitCount_0f7a4_23 rfl (by decide) rfl ?_
  refine xiload_n h0 0 dJ6_bitCount_0f7a4_24 rfl rfl ?_
  refine xiload_n h0 0 dJ6_bitCount_0f7a4_25 rfl rfl ?_
  refine xiconst (v := (nI 4)) h0 dJ6_bitCount_0f7a4_26 (by decide) ?_
  refine xiushr (v := ((Int32.toUInt32 y2 >>> (Int32.toUInt32 (nI 4) &&& Int32.toUInt32 31)).toInt32)) h0 dJ6_bitCount_0f7a4_27 rfl ?_
  refine xiadd (v := (y2 + ((Int32.toUInt32 y2 >>> (Int32.toUInt32 (nI 4) &&& Int32.toUInt32 31)).toInt32))) h0 dJ6_bitCount_0f7a4_28 rfl ?_
  refine xldcw (v := (nI 252645135)) h0 (List.mem_of_getElem? (i := 3) rfl) dJ6_bitCount_0f7a4_29 ?_
  refine xiand (v := ((y2 + ((Int32.toUInt32 y2 >>> (Int32.toUInt32 (nI 4) &&& Int32.toUInt32 31)).toInt32)) &&& (nI 252645135))) h0 dJ6_bitCount_0f7a4_32 rfl ?_
  refine xname (fun y3 ey3 => ?_)
  refine xistore_n (lv' := [(0, .int y3)]) h0 dJ6_bitCount_0f7a4_33 rfl (by decide) rfl ?_
  refine xiload_n h0 0 dJ6_bitCount_0f7a4_34 rfl rfl ?_
  refine xiload_n h0 0 dJ6_bitCount_0f7a4_35 rfl rfl ?_
  refine xbipush (v := (nI 8)) h0 dJ6_bitCount_0f7a4_36 (by decide) ?_
  refine xiushr (v := ((Int32.toUInt32 y3 >>> (Int32.toUInt32 (nI 8) &&& Int32.toUInt32 31)).toInt32)) h0 dJ6_bitCount_0f7a4_38 rfl ?_
  refine xiadd (v := (y3 + ((Int32.toUInt32 y3 >>> (Int32.toUInt32 (nI 8) &&& Int32.toUInt32 31)).toInt32))) h0 dJ6_bitCount_0f7a4_39 rfl ?_
  refine xname (fun y4 ey4 => ?_)
  refine xistore_n (lv' := [(0, .int y4)]) h0 dJ6_bitCount_0f7a4_40 rfl (by decide) rfl ?_
  refine xiload_n h0 0 dJ6_bitCount_0f7a4_41 rfl rfl ?_
  refine xiload_n h0 0 dJ6_bitCount_0f7a4_42 rfl rfl ?_
  refine xbipush (v := (nI 16)) h0 dJ6_bitCount_0f7a4_43 (by decide) ?_
  refine xiushr (v := ((Int32.toUInt32 y4 >>> (Int32.toUInt32 (nI 16) &&& Int32.toUInt32 31)).toInt32)) h0 dJ6_bitCount_0f7a4_45 rfl ?_
  refine xiadd (v := (y4 + ((Int32.toUInt32 y4 >>> (Int32.toUInt32 (nI 16) &&& Int32.toUInt32 31)).toInt32))) h0 dJ6_bitCount_0f7a4_46 rfl ?_
  refine xname (fun y5 ey5 => ?_)
  refine xistore_n (lv' := [(0, .int y5)]) h0 dJ6_bitCount_0f7a4_47 rfl (by decide) rfl ?_
  refine xiload_n h0 0 dJ6_bitCount_0f7a4_48 rfl rfl ?_
  refine xbipush (v := (nI 63)) h0 dJ6_bitCount_0f7a4_49 (by decide) ?_
  refine xiand (v := (y5 &&& (nI 63))) h0 dJ6_bitCount_0f7a4_51 rfl ?_
  exact xiret h0 dJ6_bitCount_0f7a4_52 () (by rw [ey5, ey4, ey3, ey2, ey1]; exact bc_all S hS) rfl
set_option maxHeartbeats 4000000 in
set_option maxRecDepth 100000 in
theorem c_X3_has (l : Launch) (D : va_G) (cI cC : ClassId) (a : Nat → Nat) (T : TT) (k mu tm dy : Nat) (x : Int32) (hn : T 5 0 ≤ 8) : XMi l yX3_has wsX3_has ({ frames := 0, cells := 0, slots := 0, locals := 0 } : Room) D (xT cI cC) xE0 (wTown cI a T k mu tm dy) [.ref (a 0), .int x] (S := Unit) (fun r _ => r = bI (okN (T 5 0) x)) (fun _ => (wTown cI a T k mu tm dy)) 0 0 := by
  refine xMet_i (cc := cX3_has) (nL := 2) (ret := some .boolean) (by decide +kernel) rfl (Nat.le_of_ble_eq_true rfl) (fun κ A h0 hn0 hE => ?_)
  have hiX3 : ∀ w ∈ u_ws RX3 TX3 13, w ∈ wsX3_has := by decide +kernel
  refine xlv (lv' := [(0, .ref (a 0)), (1, .int x)]) [0, 1] rfl ?_
  refine xiload_n h0 1 dX3_has_0 rfl rfl ?_
  refine xif_lt (tgt := 22) h0 dX3_has_1 (by decide)  (fun c_1 => ?_) (fun c_1 => ?_)
  · skip
    refine xiconst (v := (nI 0)) h0 dX3_has_22 (by decide) ?_
    exact xzret h0 dX3_has_23 nar_n0 () (by exact (by first | exact (bI_f (fun z => z.1 (by assumption))).symm | exact (bI_f (fun z => absurd ((okN_n hn hj).mp z) (by omega))).symm | exact (bI_t ((okN_n hn hj).mpr (by omega))).symm)) rfl
  · skip
    obtain ⟨j, hj, rfl⟩ := nI_of c_1
    refine xiload_n h0 1 dX3_has_4 rfl rfl ?_
    refine xaload_n h0 0 dX3_has_5 rfl rfl ?_
    refine xget (C := RX3) (T := TX3) (N := 13) (ci := 3) (v := .int (nI (T 5 0))) h0 hiX3 0 rfl rfl 8 (by decide) (List.mem_of_getElem? (i := 1) rfl) rfl dX3_has_6 ?_
    refine xncmp_ge (tgt := 22) h0 dX3_has_9 (by decide) (by omega) (by omega) (fun c_2 => ?_) (fun c_2 => ?_)
    · skip
      refine xiconst (v := (nI 0)) h0 dX3_has_22 (by decide) ?_
      exact xzret h0 dX3_has_23 nar_n0 () (by exact (by first | exact (bI_f (fun z => z.1 (by assumption))).symm | exact (bI_f (fun z => absurd ((okN_n hn hj).mp z) (by omega))).symm | exact (bI_t ((okN_n hn hj).mpr (by omega))).symm)) rfl
    · skip
      refine xiload_n h0 1 dX3_has_12 rfl rfl ?_
      refine xbipush (v := (nI 8)) h0 dX3_has_13 (by decide) ?_
      refine xncmp_ge (tgt := 22) h0 dX3_has_15 (by decide) (by omega) (by omega) (fun c_3 => ?_) (fun c_3 => ?_)
      · skip
        refine xiconst (v := (nI 0)) h0 dX3_has_22 (by decide) ?_
        exact xzret h0 dX3_has_23 nar_n0 () (by exact (by first | exact (bI_f (fun z => z.1 (by assumption))).symm | exact (bI_f (fun z => absurd ((okN_n hn hj).mp z) (by omega))).symm | exact (bI_t ((okN_n hn hj).mpr (by omega))).symm)) rfl
      · skip
        refine xiconst (v := (nI 1)) h0 dX3_has_18 (by decide) ?_
        refine xgoto (tgt := 23) h0 dX3_has_19 (by decide) ?_
        exact xzret h0 dX3_has_23 nar_n1 () (by exact (by first | exact (bI_f (fun z => z.1 (by assumption))).symm | exact (bI_f (fun z => absurd ((okN_n hn hj).mp z) (by omega))).symm | exact (bI_t ((okN_n hn hj).mpr (by omega))).symm)) rfl
set_option maxHeartbeats 4000000 in
set_option maxRecDepth 100000 in
theorem c_X3_wasAsked (l : Launch) (D : va_G) (cI cC : ClassId) (a : Nat → Nat) (T : TT) (k mu tm dy : Nat) (p : Nat) (hn : T 5 0 ≤ 8) (hp : p < T 5 0) (hk : k < 2 ^ 31) : XMi l yX3_wasAsked wsX3_wasAsked ({ frames := 2, cells := 0, slots := 0, locals := 41 } : Room) D (xT cI cC) xE0 (wTown cI a T k mu tm dy) [.ref (a 0), .int (nI p)] (S := Unit) (fun r _ => r = bI (k.testBit p = true)) (fun _ => (wTown cI a T k mu tm dy)) 0 0 := by
  refine xMet_i (cc := cX3_wasAsked) (nL := 2) (ret := some .boolean) (by decide +kernel) rfl (Nat.le_of_ble_eq_true rfl) (fun κ A h0 hn0 hE => ?_)
  have hiX3 : ∀ w ∈ u_ws RX3 TX3 13, w ∈ wsX3_wasAsked := by decide +kernel
  refine xlv (lv' := [(0, .ref (a 0)), (1, .int (nI p))]) [0, 1] rfl ?_
  refine xaload_n h0 0 dX3_wasAsked_0 rfl rfl ?_
  refine xiload_n h0 1 dX3_wasAsked_1 rfl rfl ?_
  refine xcallV_i (nn := 1) (w2 := fun u_ => (wTown cI a T k mu tm dy)) (wr := []) (rest := []) h0 (c_X3_has (xL κ) D cI cC a T k mu tm dy (nI p) (by omega)) gX3_wasAsked_X3_has (by decide +kernel) rfl rfl rfl ⟨Nat.le_of_ble_eq_true rfl, Nat.le_of_ble_eq_true rfl⟩ ⟨by decide, by decide⟩ (fun _ _ _ _ h => h) (fun _ _ _ _ _ _ _ => trivial) rfl (Nat.le_of_ble_eq_true rfl) (q0 := 0) rfl rfl rfl [0, 1, 2, 3, 4, 5, 6, 7, 8] [] [0, 1, 2, 3, 4, 5, 6, 7, 8] ⟨rfl, rfl, rfl, rfl, rfl⟩ (fun _ => ⟨rfl, rfl⟩) dX3_wasAsked_2 (fun r_2 u_ hr_1 => ?_)
  subst hr_1
  refine xbif_eq (tgt := 23) h0 dX3_wasAsked_5 (by decide)  (fun c_3 => ?_) (fun c_3 => ?_)
  · exact absurd (by exact (okN_n (by omega) (by omega)).mpr (by omega)) c_3
  · skip
    refine xaload_n h0 0 dX3_wasAsked_8 rfl rfl ?_
    refine xget (C := RX3) (T := TX3) (N := 13) (ci := 3) (v := .int (nI k)) h0 hiX3 0 rfl rfl 10 (by decide) (List.mem_of_getElem? (i := 1) rfl) rfl dX3_wasAsked_9 ?_
    refine xiload_n h0 1 dX3_wasAsked_12 rfl rfl ?_
    refine xcallSN_i (nn := 2) (w2 := fun u_ => (wTown cI a T k mu tm dy)) (wr := [(a 0, .inr (3, [.ref (a 1), .ref (a 2), .ref (a 3), .ref (a 4), .ref (a 5), .ref (a 6), .ref (a 7), .ref (a 8), .int (nI (T 5 0)), .int (nI (T 5 1)), .int (nI k), .int (nI tm), .int (nI dy)])), (a 1, .inl (cI, 8, .inl (fun i => nI (T 0 i)))), (a 2, .inl (cI, 8, .inl (fun i => nI (T 1 i)))), (a 3, .inl (cI, 8, .inl (fun i => nI (T 2 i)))), (a 4, .inl (cI, 8, .inl (fun i => nI (T 3 i)))), (a 5, .inl (cI, 8, .inl (fun i => nI (mtS T i)))), (a 6, .inl (cI, 8, .inl (fun i => nI (rcS T mu i)))), (a 7, .inl (cI, 8, .inl (fun i => nI (bkS T i)))), (a 8, .inl (cI, 64, .inl (fun i => nI (T 4 i))))]) (rest := []) (host := "AskAnotherFirst") h0 (c_X5_holds (xL κ) D cI cC k p (by omega) (by omega)) gX3_wasAsked_X5_holds_n62 (List.mem_of_getElem? (i := 7) rfl) (List.mem_of_getElem? (i := 9) rfl) (List.mem_of_getElem? (i := 8) rfl) (by decide +kernel) rfl rfl rfl ⟨Nat.le_of_ble_eq_true rfl, Nat.le_of_ble_eq_true rfl⟩ ⟨by decide, by decide⟩ (fun _ _ _ _ h => h) (fun _ _ _ _ _ _ _ => trivial) rfl (Nat.le_of_ble_eq_true rfl) rfl [] [0, 1, 2, 3, 4, 5, 6, 7, 8] [0, 1, 2, 3, 4, 5, 6, 7, 8] ⟨rfl, rfl, rfl, rfl, rfl⟩ (fun _ => ⟨rfl, rfl⟩) dX3_wasAsked_13 (fun r_5 u_ hr_4 => ?_)
    subst hr_4
    refine xbif_eq (tgt := 23) h0 dX3_wasAsked_16 (by decide)  (fun c_6 => ?_) (fun c_6 => ?_)
    · skip
      refine xiconst (v := (nI 0)) h0 dX3_wasAsked_23 (by decide) ?_
      exact xzret h0 dX3_wasAsked_24 nar_n0 () (by exact (bI_f (by first | omega | assumption | (simp_all; done))).symm) rfl
    · skip
      refine xiconst (v := (nI 1)) h0 dX3_wasAsked_19 (by decide) ?_
      refine xgoto (tgt := 24) h0 dX3_wasAsked_20 (by decide) ?_
      exact xzret h0 dX3_wasAsked_24 nar_n1 () (by exact (bI_t (by first | omega | assumption | (simp_all; done))).symm) rfl
set_option maxHeartbeats 4000000 in
set_option maxRecDepth 100000 in
theorem c_X3_minutesFrom (l : Launch) (D : va_G) (cI cC : ClassId) (a : Nat → Nat) (T : TT) (k mu tm dy : Nat) (p q : Nat) (hn : T 5 0 ≤ 8) (hp : p < T 5 0) (hq : q < T 5 0) : XMi l yX3_minutesFrom wsX3_minutesFrom ({ frames := 1, cells := 0, slots := 0, locals := 21 } : Room) D (xT cI cC) xE0 (wTown cI a T k mu tm dy) [.ref (a 0), .int (nI p), .int (nI q)] (S := Unit) (fun r _ => r = nI (T 4 (8 * p + q))) (fun _ => (wTown cI a T k mu tm dy)) 0 0 := by
  refine xMet_i (cc := cX3_minutesFrom) (nL := 3) (ret := some .int) (by decide +kernel) rfl (Nat.le_of_ble_eq_true rfl) (fun κ A h0 hn0 hE => ?_)
  have hiX3 : ∀ w ∈ u_ws RX3 TX3 13, w ∈ wsX3_minutesFrom := by decide +kernel
  refine xlv (lv' := [(0, .ref (a 0)), (1, .int (nI p)), (2, .int (nI q))]) [0, 1, 2] rfl ?_
  refine xaload_n h0 0 dX3_minutesFrom_0 rfl rfl ?_
  refine xiload_n h0 1 dX3_minutesFrom_1 rfl rfl ?_
  refine xcallV_i (nn := 1) (w2 := fun u_ => (wTown cI a T k mu tm dy)) (wr := []) (rest := []) h0 (c_X3_has (xL κ) D cI cC a T k mu tm dy (nI p) (by omega)) gX3_minutesFrom_X3_has (by decide +kernel) rfl rfl rfl ⟨Nat.le_of_ble_eq_true rfl, Nat.le_of_ble_eq_true rfl⟩ ⟨by decide, by decide⟩ (fun _ _ _ _ h => h) (fun _ _ _ _ _ _ _ => trivial) rfl (Nat.le_of_ble_eq_true rfl) (q0 := 0) rfl rfl rfl [0, 1, 2, 3, 4, 5, 6, 7, 8] [] [0, 1, 2, 3, 4, 5, 6, 7, 8] ⟨rfl, rfl, rfl, rfl, rfl⟩ (fun _ => ⟨rfl, rfl⟩) dX3_minutesFrom_2 (fun r_2 u_ hr_1 => ?_)
  subst hr_1
  refine xbif_eq (tgt := 30) h0 dX3_minutesFrom_5 (by decide)  (fun c_3 => ?_) (fun c_3 => ?_)
  · exact absurd (by exact (okN_n (by omega) (by omega)).mpr (by omega)) c_3
  · skip
    refine xaload_n h0 0 dX3_minutesFrom_8 rfl rfl ?_
    refine xiload_n h0 2 dX3_minutesFrom_9 rfl rfl ?_
    refine xcallV_i (nn := 1) (w2 := fun u_ => (wTown cI a T k mu tm dy)) (wr := []) (rest := []) h0 (c_X3_has (xL κ) D cI cC a T k mu tm dy (nI q) (by omega)) gX3_minutesFrom_X3_has (by decide +kernel) rfl rfl rfl ⟨Nat.le_of_ble_eq_true rfl, Nat.le_of_ble_eq_true rfl⟩ ⟨by decide, by decide⟩ (fun _ _ _ _ h => h) (fun _ _ _ _ _ _ _ => trivial) rfl (Nat.le_of_ble_eq_true rfl) (q0 := 0) rfl rfl rfl [0, 1, 2, 3, 4, 5, 6, 7, 8] [] [0, 1, 2, 3, 4, 5, 6, 7, 8] ⟨rfl, rfl, rfl, rfl, rfl⟩ (fun _ => ⟨rfl, rfl⟩) dX3_minutesFrom_10 (fun r_5 u_ hr_4 => ?_)
    subst hr_4
    refine xbif_eq (tgt := 30) h0 dX3_minutesFrom_13 (by decide)  (fun c_6 => ?_) (fun c_6 => ?_)
    · exact absurd (by exact (okN_n (by omega) (by omega)).mpr (by omega)) c_6
    · skip
      refine xaload_n h0 0 dX3_minutesFrom_16 rfl rfl ?_
      refine xget (C := RX3) (T := TX3) (N := 13) (ci := 3) (v := .ref (a 8)) h0 hiX3 0 rfl rfl 7 (by decide) (List.mem_of_getElem? (i := 1) rfl) rfl dX3_minutesFrom_17 ?_
      refine xiload_n h0 1 dX3_minutesFrom_20 rfl rfl ?_
      refine xbipush (v := (nI 8)) h0 dX3_minutesFrom_21 (by decide) ?_
      refine ximul (v := (nI (p * 8))) h0 dX3_minutesFrom_23 (pk_mul _ _) ?_
      refine xiload_n h0 2 dX3_minutesFrom_24 rfl rfl ?_
      refine xiadd (v := (nI ((p * 8) + q))) h0 dX3_minutesFrom_25 (nI_add _ _) ?_
      refine xiald (v := (nI (T 4 (8 * p + q)))) h0 8 0 rfl rfl (by omega) (by decide) dX3_minutesFrom_26 (by rw [show p * 8 + q = 8 * p + q by omega]) ?_
      refine xgoto (tgt := 31) h0 dX3_minutesFrom_27 (by decide) ?_
      exact xiret h0 dX3_minutesFrom_31 () (by rfl) rfl
set_option maxHeartbeats 4000000 in
set_option maxRecDepth 100000 in
theorem c_X3_minutesTold (l : Launch) (D : va_G) (cI cC : ClassId) (a : Nat → Nat) (T : TT) (k mu tm dy : Nat)  : XMi l yX3_minutesTold wsX3_minutesTold ({ frames := 1, cells := 0, slots := 0, locals := 20 } : Room) D (xT cI cC) xE0 (wTown cI a T k mu tm dy) [.ref (a 0)] (S := Unit) (fun r _ => r = nI (mtoK T mu 8)) (fun _ => (wTown cI a T k mu tm dy)) 0 0 := by
  refine xMet_i (cc := cX3_minutesTold) (nL := 3) (ret := some .int) (by decide +kernel) rfl (Nat.le_of_ble_eq_true rfl) (fun κ A h0 hn0 hE => ?_)
  have hiX3 : ∀ w ∈ u_ws RX3 TX3 13, w ∈ wsX3_minutesTold := by decide +kernel
  refine xlv (lv' := [(0, .ref (a 0))]) [0] rfl ?_
  refine xiconst (v := (nI 0)) h0 dX3_minutesTold_0 (by decide) ?_
  refine xistore_n (lv' := [(1, .int (nI 0)), (0, .ref (a 0))]) h0 dX3_minutesTold_1 rfl (by decide) rfl ?_
  refine xiconst (v := (nI 0)) h0 dX3_minutesTold_2 (by decide) ?_
  refine xistore_n (lv' := [(2, .int (nI 0)), (1, .int (nI 0)), (0, .ref (a 0))]) h0 dX3_minutesTold_3 rfl (by decide) rfl ?_
  have lp : ∀ (d_ : Nat) (i : Nat), (9 - i ≤ d_) → (i ≤ 8) → XG κ 3 D (xT cI cC) A (xQi (S := Unit) κ D (xT cI cC) A (fun r _ => r = nI (mtoK T mu 8)) (fun _ => (wTown cI a T k mu tm dy)) 0 0) (wTown cI a T k mu tm dy) 0 0 4 [(0, .ref (a 0)), (1, .int (nI (mtoK T mu i))), (2, .int (nI i))] [] := by
    intro d_
    induction d_ with
    | zero => intro i hm_ hi; exact absurd hm_ (by omega)
    | succ d_ ih_lp =>
      intro i hm_ hi
      refine xiload_n h0 2 dX3_minutesTold_4 rfl rfl ?_
      refine xbipush (v := (nI 8)) h0 dX3_minutesTold_5 (by decide) ?_
      refine xncmp_ge (tgt := 28) h0 dX3_minutesTold_7 (by decide) (by omega) (by omega) (fun c_1 => ?_) (fun c_1 => ?_)
      · skip
        refine xiload_n h0 1 dX3_minutesTold_28 rfl rfl ?_
        exact xiret h0 dX3_minutesTold_29 () (by rw [show i = 8 by omega]) rfl
      · skip
        refine xiload_n h0 1 dX3_minutesTold_10 rfl rfl ?_
        refine xaload_n h0 0 dX3_minutesTold_11 rfl rfl ?_
        refine xget (C := RX3) (T := TX3) (N := 13) (ci := 3) (v := .ref (a 6)) h0 hiX3 0 rfl rfl 5 (by decide) (List.mem_of_getElem? (i := 1) rfl) rfl dX3_minutesTold_12 ?_
        refine xiload_n h0 2 dX3_minutesTold_15 rfl rfl ?_
        refine xiald (v := (nI (rcS T mu i))) h0 6 0 rfl rfl (by omega) (by decide) dX3_minutesTold_16 (rfl) ?_
        refine xcallS_i (nn := 1) (w2 := fun u_ => (wTown cI a T k mu tm dy)) (wr := [(a 0, .inr (3, [.ref (a 1), .ref (a 2), .ref (a 3), .ref (a 4), .ref (a 5), .ref (a 6), .ref (a 7), .ref (a 8), .int (nI (T 5 0)), .int (nI (T 5 1)), .int (nI k), .int (nI tm), .int (nI dy)])), (a 1, .inl (cI, 8, .inl (fun i => nI (T 0 i)))), (a 2, .inl (cI, 8, .inl (fun i => nI (T 1 i)))), (a 3, .inl (cI, 8, .inl (fun i => nI (T 2 i)))), (a 4, .inl (cI, 8, .inl (fun i => nI (T 3 i)))), (a 5, .inl (cI, 8, .inl (fun i => nI (mtS T i)))), (a 6, .inl (cI, 8, .inl (fun i => nI (rcS T mu i)))), (a 7, .inl (cI, 8, .inl (fun i => nI (bkS T i)))), (a 8, .inl (cI, 64, .inl (fun i => nI (T 4 i))))]) (rest := [.int (nI (mtoK T mu i))]) h0 (c_J6_bitCount_0f7a4 (xL κ) D cI cC (rcS T mu i) (by exact rcS_lt T mu i)) gX3_minutesTold_J6_bitCount_0f7a4 (by decide +kernel) rfl rfl rfl ⟨Nat.le_of_ble_eq_true rfl, Nat.le_of_ble_eq_true rfl⟩ ⟨by decide, by decide⟩ (fun _ _ _ _ h => h) (fun _ _ _ _ _ _ _ => trivial) rfl (Nat.le_of_ble_eq_true rfl) rfl [] [0, 1, 2, 3, 4, 5, 6, 7, 8] [0, 1, 2, 3, 4, 5, 6, 7, 8] ⟨rfl, rfl, rfl, rfl, rfl⟩ (fun _ => ⟨rfl, rfl⟩) dX3_minutesTold_17 (fun r_3 u_ hr_2 => ?_)
        subst hr_2
        refine xiadd (v := (nI ((mtoK T mu i) + (cdS (rcS T mu i))))) h0 dX3_minutesTold_20 (nI_add _ _) ?_
        refine xistore_n (lv' := [(1, .int (nI ((mtoK T mu i) + (cdS (rcS T mu i))))), (0, .ref (a 0)), (2, .int (nI i))]) h0 dX3_minutesTold_21 rfl (by decide) rfl ?_
        refine xiinc (v := (nI (i + 1))) (lv' := [(2, .int (nI (i + 1))), (1, .int (nI ((mtoK T mu i) + (cdS (rcS T mu i))))), (0, .ref (a 0))]) h0 2 dX3_minutesTold_22 rfl (nI_add _ _) (by decide) rfl ?_
        refine xgoto (tgt := 4) h0 dX3_minutesTold_25 (by decide) ?_
        refine xlv [2, 1, 0] rfl ?_
        exact ih_lp (i + 1) (by omega) (by omega)
  refine xlv [2, 1, 0] rfl ?_
  exact lp (9) 0 (by omega) (by omega)
set_option maxHeartbeats 4000000 in
set_option maxRecDepth 100000 in
theorem c_X3_isStopped (l : Launch) (D : va_G) (cI cC : ClassId) (a : Nat → Nat) (T : TT) (k mu tm dy : Nat) (x : Nat) (hl : T 5 1 < 2 ^ 31) (hx : x < 2 ^ 31) : XMi l yX3_isStopped wsX3_isStopped ({ frames := 0, cells := 0, slots := 0, locals := 0 } : Room) D (xT cI cC) xE0 (wTown cI a T k mu tm dy) [.ref (a 0), .int (nI x)] (S := Unit) (fun r _ => r = bI ((T 5 1 = 2 ∧ 3 ≤ x) ∨ (T 5 1 = 3 ∧ 6 ≤ x))) (fun _ => (wTown cI a T k mu tm dy)) 0 0 := by
  refine xMet_i (cc := cX3_isStopped) (nL := 2) (ret := some .boolean) (by decide +kernel) rfl (Nat.le_of_ble_eq_true rfl) (fun κ A h0 hn0 hE => ?_)
  have hiX3 : ∀ w ∈ u_ws RX3 TX3 13, w ∈ wsX3_isStopped := by decide +kernel
  refine xlv (lv' := [(0, .ref (a 0)), (1, .int (nI x))]) [0, 1] rfl ?_
  refine xaload_n h0 0 dX3_isStopped_0 rfl rfl ?_
  refine xget (C := RX3) (T := TX3) (N := 13) (ci := 3) (v := .int (nI (T 5 1))) h0 hiX3 0 rfl rfl 9 (by decide) (List.mem_of_getElem? (i := 1) rfl) rfl dX3_isStopped_1 ?_
  refine xiconst (v := (nI 2)) h0 dX3_isStopped_4 (by decide) ?_
  refine xncmp_ne (tgt := 13) h0 dX3_isStopped_5 (by decide) (by omega) (by omega) (fun c_1 => ?_) (fun c_1 => ?_)
  · skip
    refine xaload_n h0 0 dX3_isStopped_13 rfl rfl ?_
    refine xget (C := RX3) (T := TX3) (N := 13) (ci := 3) (v := .int (nI (T 5 1))) h0 hiX3 0 rfl rfl 9 (by decide) (List.mem_of_getElem? (i := 1) rfl) rfl dX3_isStopped_14 ?_
    refine xiconst (v := (nI 3)) h0 dX3_isStopped_17 (by decide) ?_
    refine xncmp_ne (tgt := 31) h0 dX3_isStopped_18 (by decide) (by omega) (by omega) (fun c_2 => ?_) (fun c_2 => ?_)
    · skip
      refine xiconst (v := (nI 0)) h0 dX3_isStopped_31 (by decide) ?_
      exact xzret h0 dX3_isStopped_32 nar_n0 () (by exact (bI_f (by first | omega | assumption | (simp_all; done))).symm) rfl
    · skip
      refine xiload_n h0 1 dX3_isStopped_21 rfl rfl ?_
      refine xbipush (v := (nI 6)) h0 dX3_isStopped_22 (by decide) ?_
      refine xncmp_lt (tgt := 31) h0 dX3_isStopped_24 (by decide) (by omega) (by omega) (fun c_3 => ?_) (fun c_3 => ?_)
      · skip
        refine xiconst (v := (nI 0)) h0 dX3_isStopped_31 (by decide) ?_
        exact xzret h0 dX3_isStopped_32 nar_n0 () (by exact (bI_f (by first | omega | assumption | (simp_all; done))).symm) rfl
      · skip
        refine xiconst (v := (nI 1)) h0 dX3_isStopped_27 (by decide) ?_
        refine xgoto (tgt := 32) h0 dX3_isStopped_28 (by decide) ?_
        exact xzret h0 dX3_isStopped_32 nar_n1 () (by exact (bI_t (by first | omega | assumption | (simp_all; done))).symm) rfl
  · skip
    refine xiload_n h0 1 dX3_isStopped_8 rfl rfl ?_
    refine xiconst (v := (nI 3)) h0 dX3_isStopped_9 (by decide) ?_
    refine xncmp_ge (tgt := 27) h0 dX3_isStopped_10 (by decide) (by omega) (by omega) (fun c_4 => ?_) (fun c_4 => ?_)
    · skip
      refine xiconst (v := (nI 1)) h0 dX3_isStopped_27 (by decide) ?_
      refine xgoto (tgt := 32) h0 dX3_isStopped_28 (by decide) ?_
      exact xzret h0 dX3_isStopped_32 nar_n1 () (by exact (bI_t (by first | omega | assumption | (simp_all; done))).symm) rfl
    · skip
      refine xaload_n h0 0 dX3_isStopped_13 rfl rfl ?_
      refine xget (C := RX3) (T := TX3) (N := 13) (ci := 3) (v := .int (nI (T 5 1))) h0 hiX3 0 rfl rfl 9 (by decide) (List.mem_of_getElem? (i := 1) rfl) rfl dX3_isStopped_14 ?_
      refine xiconst (v := (nI 3)) h0 dX3_isStopped_17 (by decide) ?_
      refine xncmp_ne (tgt := 31) h0 dX3_isStopped_18 (by decide) (by omega) (by omega) (fun c_5 => ?_) (fun c_5 => ?_)
      · skip
        refine xiconst (v := (nI 0)) h0 dX3_isStopped_31 (by decide) ?_
        exact xzret h0 dX3_isStopped_32 nar_n0 () (by exact (bI_f (by first | omega | assumption | (simp_all; done))).symm) rfl
      · skip
        refine xiload_n h0 1 dX3_isStopped_21 rfl rfl ?_
        refine xbipush (v := (nI 6)) h0 dX3_isStopped_22 (by decide) ?_
        refine xncmp_lt (tgt := 31) h0 dX3_isStopped_24 (by decide) (by omega) (by omega) (fun c_6 => ?_) (fun c_6 => ?_)
        · skip
          refine xiconst (v := (nI 0)) h0 dX3_isStopped_31 (by decide) ?_
          exact xzret h0 dX3_isStopped_32 nar_n0 () (by exact (bI_f (by first | omega | assumption | (simp_all; done))).symm) rfl
        · skip
          refine xiconst (v := (nI 1)) h0 dX3_isStopped_27 (by decide) ?_
          refine xgoto (tgt := 32) h0 dX3_isStopped_28 (by decide) ?_
          exact xzret h0 dX3_isStopped_32 nar_n1 () (by exact (bI_t (by first | omega | assumption | (simp_all; done))).symm) rfl
set_option maxHeartbeats 4000000 in
set_option maxRecDepth 100000 in
theorem c_X3_withoutMatesOf (l : Launch) (D : va_G) (cI cC : ClassId) (a : Nat → Nat) (T : TT) (k mu tm dy : Nat) (G o : Nat) (ho : o < 256) : XMi l yX3_withoutMatesOf wsX3_withoutMatesOf ({ frames := 0, cells := 0, slots := 0, locals := 0 } : Room) D (xT cI cC) xE0 (wTown cI a T k mu tm dy) [.ref (a 0), .int (nI G), .int (nI o)] (S := Unit) (fun r _ => r = nI (wmK T G o 8)) (fun _ => (wTown cI a T k mu tm dy)) 0 0 := by
  refine xMet_i (cc := cX3_withoutMatesOf) (nL := 5) (ret := some .int) (by decide +kernel) rfl (Nat.le_of_ble_eq_true rfl) (fun κ A h0 hn0 hE => ?_)
  have hiX3 : ∀ w ∈ u_ws RX3 TX3 13, w ∈ wsX3_withoutMatesOf := by decide +kernel
  refine xlv (lv' := [(0, .ref (a 0)), (1, .int (nI G)), (2, .int (nI o))]) [0, 1, 2] rfl ?_
  refine xiload_n h0 2 dX3_withoutMatesOf_0 rfl rfl ?_
  refine xistore_n (lv' := [(3, .int (nI o)), (0, .ref (a 0)), (1, .int (nI G)), (2, .int (nI o))]) h0 dX3_withoutMatesOf_1 rfl (by decide) rfl ?_
  refine xiconst (v := (nI 0)) h0 dX3_withoutMatesOf_2 (by decide) ?_
  refine xistore (lv' := [(4, .int (nI 0)), (3, .int (nI o)), (0, .ref (a 0)), (1, .int (nI G)), (2, .int (nI o))]) h0 dX3_withoutMatesOf_3 (by decide) rfl ?_
  have lp : ∀ (d_ : Nat) (i v : Nat), (9 - i ≤ d_) → (i ≤ 8) → (v = wmK T G o i) → XG κ 5 D (xT cI cC) A (xQi (S := Unit) κ D (xT cI cC) A (fun r _ => r = nI (wmK T G o 8)) (fun _ => (wTown cI a T k mu tm dy)) 0 0) (wTown cI a T k mu tm dy) 0 0 5 [(0, .ref (a 0)), (1, .int (nI G)), (2, .int (nI o)), (3, .int (nI v)), (4, .int (nI i))] [] := by
    intro d_
    induction d_ with
    | zero => intro i v hm_ hi hv; exact absurd hm_ (by omega)
    | succ d_ ih_lp =>
      intro i v hm_ hi hv
      refine xiload h0 4 dX3_withoutMatesOf_5 rfl ?_
      refine xbipush (v := (nI 8)) h0 dX3_withoutMatesOf_7 (by decide) ?_
      refine xncmp_ge (tgt := 39) h0 dX3_withoutMatesOf_9 (by decide) (by omega) (by omega) (fun c_1 => ?_) (fun c_1 => ?_)
      · skip
        refine xiload_n h0 3 dX3_withoutMatesOf_39 rfl rfl ?_
        exact xiret h0 dX3_withoutMatesOf_40 () (by rw [hv, show i = 8 by omega]) rfl
      · skip
        refine xaload_n h0 0 dX3_withoutMatesOf_12 rfl rfl ?_
        refine xget (C := RX3) (T := TX3) (N := 13) (ci := 3) (v := .ref (a 5)) h0 hiX3 0 rfl rfl 4 (by decide) (List.mem_of_getElem? (i := 1) rfl) rfl dX3_withoutMatesOf_13 ?_
        refine xiload h0 4 dX3_withoutMatesOf_16 rfl ?_
        refine xiald (v := (nI (mtS T i))) h0 5 0 rfl rfl (by omega) (by decide) dX3_withoutMatesOf_18 (rfl) ?_
        refine xiload_n h0 1 dX3_withoutMatesOf_19 rfl rfl ?_
        refine xiand (v := (nI ((mtS T i) &&& G))) h0 dX3_withoutMatesOf_20 (nx_and _ _) ?_
        refine xnif_eq (tgt := 33) h0 dX3_withoutMatesOf_21 (by decide) (by exact Nat.lt_of_le_of_lt Nat.and_le_left (Nat.lt_trans (mtS_lt T i) (by decide))) (fun c_2 => ?_) (fun c_2 => ?_)
        · skip
          refine xiinc (v := (nI (i + 1))) (lv' := [(4, .int (nI (i + 1))), (0, .ref (a 0)), (1, .int (nI G)), (2, .int (nI o)), (3, .int (nI v))]) h0 4 dX3_withoutMatesOf_33 rfl (nI_add _ _) (by decide) rfl ?_
          refine xgoto (tgt := 5) h0 dX3_withoutMatesOf_36 (by decide) ?_
          refine xlv [1, 2, 3, 4, 0] rfl ?_
          exact ih_lp (i + 1) v (by omega) (by omega) (by subst hv; first | rw [wmK, if_pos (by assumption)] | rw [wmK, if_neg (by omega)])
        · skip
          refine xiload_n h0 3 dX3_withoutMatesOf_24 rfl rfl ?_
          refine xiconst (v := (nI 1)) h0 dX3_withoutMatesOf_25 (by decide) ?_
          refine xiload h0 4 dX3_withoutMatesOf_26 rfl ?_
          refine xishl (v := (nI (2 ^ i))) h0 dX3_withoutMatesOf_28 (nI_shl1 i (by omega)) ?_
          refine xiconst (v := (-1)) h0 dX3_withoutMatesOf_29 (by decide) ?_
          refine xixor (v := ((nI (2 ^ i)) ^^^ (-1))) h0 dX3_withoutMatesOf_30 rfl ?_
          refine xiand (v := (nI (v &&& (255 ^^^ (2 ^ i &&& 255))))) h0 dX3_withoutMatesOf_31 (nx_andn v (by subst hv; exact wmK_lt T G ho i)) ?_
          refine xistore_n (lv' := [(3, .int (nI (v &&& (255 ^^^ (2 ^ i &&& 255))))), (0, .ref (a 0)), (1, .int (nI G)), (2, .int (nI o)), (4, .int (nI i))]) h0 dX3_withoutMatesOf_32 rfl (by decide) rfl ?_
          refine xiinc (v := (nI (i + 1))) (lv' := [(4, .int (nI (i + 1))), (3, .int (nI (v &&& (255 ^^^ (2 ^ i &&& 255))))), (0, .ref (a 0)), (1, .int (nI G)), (2, .int (nI o))]) h0 4 dX3_withoutMatesOf_33 rfl (nI_add _ _) (by decide) rfl ?_
          refine xgoto (tgt := 5) h0 dX3_withoutMatesOf_36 (by decide) ?_
          refine xlv [2, 3, 4, 1, 0] rfl ?_
          exact ih_lp (i + 1) (v &&& (255 ^^^ (2 ^ i &&& 255))) (by omega) (by omega) (by subst hv; first | rw [wmK, if_pos (by assumption)] | rw [wmK, if_neg (by omega)])
  refine xlv [2, 3, 4, 1, 0] rfl ?_
  exact lp (9) 0 o (by omega) (by omega) (by rfl)
set_option maxHeartbeats 4000000 in
set_option maxRecDepth 100000 in
theorem c_X3_openTo (l : Launch) (D : va_G) (cI cC : ClassId) (a : Nat → Nat) (T : TT) (k mu tm dy : Nat) (h S : Nat) (hT : TOK T) (hh : h < T 5 0) (hS : S < 256) (hc : 1 ≤ cdS S) (hk : k < 256) : XMi l yX3_openTo wsX3_openTo ({ frames := 1, cells := 0, slots := 0, locals := 24 } : Room) D (xT cI cC) xE0 (wTown cI a T k mu tm dy) [.ref (a 0), .int (nI h), .int (nI S)] (S := Unit) (fun r _ => r = nI (mayS T h S k mu)) (fun _ => (wTown cI a T k mu tm dy)) 0 0 := by
  refine xMet_i (cc := cX3_openTo) (nL := 5) (ret := some .int) (by decide +kernel) rfl (Nat.le_of_ble_eq_true rfl) (fun κ A h0 hn0 hE => ?_)
  have hiX3 : ∀ w ∈ u_ws RX3 TX3 13, w ∈ wsX3_openTo := by decide +kernel
  refine xlv (lv' := [(0, .ref (a 0)), (1, .int (nI h)), (2, .int (nI S))]) [0, 1, 2] rfl ?_
  have hn := hT.1
  have hlw := hT.2.1
  refine xaload_n h0 0 dX3_openTo_0 rfl rfl ?_
  refine xiload_n h0 1 dX3_openTo_1 rfl rfl ?_
  refine xcallV_i (nn := 1) (w2 := fun u_ => (wTown cI a T k mu tm dy)) (wr := []) (rest := []) h0 (c_X3_has (xL κ) D cI cC a T k mu tm dy (nI h) (by omega)) gX3_openTo_X3_has (by decide +kernel) rfl rfl rfl ⟨Nat.le_of_ble_eq_true rfl, Nat.le_of_ble_eq_true rfl⟩ ⟨by decide, by decide⟩ (fun _ _ _ _ h => h) (fun _ _ _ _ _ _ _ => trivial) rfl (Nat.le_of_ble_eq_true rfl) (q0 := 0) rfl rfl rfl [0, 1, 2, 3, 4, 5, 6, 7, 8] [] [0, 1, 2, 3, 4, 5, 6, 7, 8] ⟨rfl, rfl, rfl, rfl, rfl⟩ (fun _ => ⟨rfl, rfl⟩) dX3_openTo_2 (fun r_2 u_ hr_1 => ?_)
  subst hr_1
  refine xbif_eq (tgt := 21) h0 dX3_openTo_5 (by decide)  (fun c_3 => ?_) (fun c_3 => ?_)
  · exact absurd (by exact (okN_n (by omega) (by omega)).mpr (by omega)) c_3
  · skip
    refine xaload_n h0 0 dX3_openTo_8 rfl rfl ?_
    refine xiload_n h0 2 dX3_openTo_9 rfl rfl ?_
    refine xcallS_i (nn := 1) (w2 := fun u_ => (wTown cI a T k mu tm dy)) (wr := [(a 0, .inr (3, [.ref (a 1), .ref (a 2), .ref (a 3), .ref (a 4), .ref (a 5), .ref (a 6), .ref (a 7), .ref (a 8), .int (nI (T 5 0)), .int (nI (T 5 1)), .int (nI k), .int (nI tm), .int (nI dy)])), (a 1, .inl (cI, 8, .inl (fun i => nI (T 0 i)))), (a 2, .inl (cI, 8, .inl (fun i => nI (T 1 i)))), (a 3, .inl (cI, 8, .inl (fun i => nI (T 2 i)))), (a 4, .inl (cI, 8, .inl (fun i => nI (T 3 i)))), (a 5, .inl (cI, 8, .inl (fun i => nI (mtS T i)))), (a 6, .inl (cI, 8, .inl (fun i => nI (rcS T mu i)))), (a 7, .inl (cI, 8, .inl (fun i => nI (bkS T i)))), (a 8, .inl (cI, 64, .inl (fun i => nI (T 4 i))))]) (rest := [.ref (a 0)]) h0 (c_J6_bitCount_0f7a4 (xL κ) D cI cC S (by omega)) gX3_openTo_J6_bitCount_0f7a4 (by decide +kernel) rfl rfl rfl ⟨Nat.le_of_ble_eq_true rfl, Nat.le_of_ble_eq_true rfl⟩ ⟨by decide, by decide⟩ (fun _ _ _ _ h => h) (fun _ _ _ _ _ _ _ => trivial) rfl (Nat.le_of_ble_eq_true rfl) rfl [] [0, 1, 2, 3, 4, 5, 6, 7, 8] [0, 1, 2, 3, 4, 5, 6, 7, 8] ⟨rfl, rfl, rfl, rfl, rfl⟩ (fun _ => ⟨rfl, rfl⟩) dX3_openTo_10 (fun r_5 u_ hr_4 => ?_)
    subst hr_4
    refine xiconst (v := (nI 1)) h0 dX3_openTo_13 (by decide) ?_
    refine xisub (v := (nI ((cdS S) - 1))) h0 dX3_openTo_14 (pk_sub (by omega)) ?_
    refine xcallV_i (nn := 1) (w2 := fun u_ => (wTown cI a T k mu tm dy)) (wr := []) (rest := []) h0 (c_X3_isStopped (xL κ) D cI cC a T k mu tm dy ((cdS S) - 1) (by omega) (by have := cdS_le S; omega)) gX3_openTo_X3_isStopped (by decide +kernel) rfl rfl rfl ⟨Nat.le_of_ble_eq_true rfl, Nat.le_of_ble_eq_true rfl⟩ ⟨by decide, by decide⟩ (fun _ _ _ _ h => h) (fun _ _ _ _ _ _ _ => trivial) rfl (Nat.le_of_ble_eq_true rfl) (q0 := 0) rfl rfl rfl [0, 1, 2, 3, 4, 5, 6, 7, 8] [] [0, 1, 2, 3, 4, 5, 6, 7, 8] ⟨rfl, rfl, rfl, rfl, rfl⟩ (fun _ => ⟨rfl, rfl⟩) dX3_openTo_15 (fun r_7 u_ hr_6 => ?_)
    subst hr_6
    refine xbif_eq (tgt := 23) h0 dX3_openTo_18 (by decide)  (fun c_8 => ?_) (fun c_8 => ?_)
    · skip
      refine xaload_n h0 0 dX3_openTo_23 rfl rfl ?_
      refine xget (C := RX3) (T := TX3) (N := 13) (ci := 3) (v := .int (nI k)) h0 hiX3 0 rfl rfl 10 (by decide) (List.mem_of_getElem? (i := 1) rfl) rfl dX3_openTo_24 ?_
      refine xiload_n h0 2 dX3_openTo_27 rfl rfl ?_
      refine xior (v := (nI (k ||| S))) h0 dX3_openTo_28 (nx_or _ _) ?_
      refine xistore_n (lv' := [(3, .int (nI (k ||| S))), (0, .ref (a 0)), (1, .int (nI h)), (2, .int (nI S))]) h0 dX3_openTo_29 rfl (by decide) rfl ?_
      refine xaload_n h0 1 dX3_openTo_30 rfl rfl ?_
      refine xget (C := RX3) (T := TX3) (N := 13) (ci := 3) (v := .ref (a 6)) h0 hiX3 0 rfl rfl 5 (by decide) (List.mem_of_getElem? (i := 2) rfl) rfl dX3_openTo_31 ?_
      refine xiload_n h0 2 dX3_openTo_34 rfl rfl ?_
      refine xiald (v := (nI (rcS T mu h))) h0 6 0 rfl rfl (by omega) (by decide) dX3_openTo_35 (rfl) ?_
      refine xiload_n h0 0 dX3_openTo_36 rfl rfl ?_
      refine xiconst (v := (-1)) h0 dX3_openTo_37 (by decide) ?_
      refine xixor (v := ((nI (k ||| S)) ^^^ (-1))) h0 dX3_openTo_38 rfl ?_
      refine xiand (v := (nI (opA T h (k ||| S) mu))) h0 dX3_openTo_39 (nx_andn _ (rcS_lt T mu h)) ?_
      refine xistore (lv' := [(4, .int (nI (opA T h (k ||| S) mu))), (3, .int (nI (k ||| S))), (0, .ref (a 0)), (1, .int (nI h)), (2, .int (nI S))]) h0 dX3_openTo_40 (by decide) rfl ?_
      refine xaload_n h0 2 dX3_openTo_42 rfl rfl ?_
      refine xget (C := RX3) (T := TX3) (N := 13) (ci := 3) (v := .int (nI (T 5 1))) h0 hiX3 0 rfl rfl 9 (by decide) (List.mem_of_getElem? (i := 3) rfl) rfl dX3_openTo_43 ?_
      refine xiconst (v := (nI 4)) h0 dX3_openTo_46 (by decide) ?_
      refine xncmp_ne (tgt := 61) h0 dX3_openTo_47 (by decide) (by omega) (by omega) (fun c_9 => ?_) (fun c_9 => ?_)
      · skip
        refine xaload_n h0 2 dX3_openTo_61 rfl rfl ?_
        refine xget (C := RX3) (T := TX3) (N := 13) (ci := 3) (v := .int (nI (T 5 1))) h0 hiX3 0 rfl rfl 9 (by decide) (List.mem_of_getElem? (i := 3) rfl) rfl dX3_openTo_62 ?_
        refine xiconst (v := (nI 1)) h0 dX3_openTo_65 (by decide) ?_
        refine xncmp_eq (tgt := 77) h0 dX3_openTo_66 (by decide) (by omega) (by omega) (fun c_10 => ?_) (fun c_10 => ?_)
        · skip
          refine xaload_n h0 2 dX3_openTo_77 rfl rfl ?_
          refine xiload_n h0 1 dX3_openTo_78 rfl rfl ?_
          refine xiload h0 0 dX3_openTo_79 rfl ?_
          refine xcallV_i (nn := 2) (w2 := fun u_ => (wTown cI a T k mu tm dy)) (wr := []) (rest := []) h0 (c_X3_withoutMatesOf (xL κ) D cI cC a T k mu tm dy (k ||| S) (opA T h (k ||| S) mu) (by first | exact opA_lt T h _ mu | exact Nat.lt_of_le_of_lt Nat.and_le_left (opA_lt T h _ mu))) gX3_openTo_X3_withoutMatesOf (by decide +kernel) rfl rfl rfl ⟨Nat.le_of_ble_eq_true rfl, Nat.le_of_ble_eq_true rfl⟩ ⟨by decide, by decide⟩ (fun _ _ _ _ h => h) (fun _ _ _ _ _ _ _ => trivial) rfl (Nat.le_of_ble_eq_true rfl) (q0 := 0) rfl rfl rfl [0, 1, 2, 3, 4, 5, 6, 7, 8] [] [0, 1, 2, 3, 4, 5, 6, 7, 8] ⟨rfl, rfl, rfl, rfl, rfl⟩ (fun _ => ⟨rfl, rfl⟩) dX3_openTo_81 (fun r_12 u_ hr_11 => ?_)
          subst hr_11
          refine xistore (lv' := [(4, .int (nI (wmK T (k ||| S) (opA T h (k ||| S) mu) 8))), (3, .int (nI (k ||| S))), (0, .ref (a 0)), (1, .int (nI h)), (2, .int (nI S))]) h0 dX3_openTo_84 (by decide) rfl ?_
          refine xiload h0 0 dX3_openTo_86 rfl ?_
          exact xiret h0 dX3_openTo_88 () (by first | (exfalso; omega) | (rw [may_go hT hc (by assumption)]; unfold opS opB; (repeat' split) <;> first | rfl | (exfalso; omega))) rfl
        · skip
          refine xaload_n h0 2 dX3_openTo_69 rfl rfl ?_
          refine xget (C := RX3) (T := TX3) (N := 13) (ci := 3) (v := .int (nI (T 5 1))) h0 hiX3 0 rfl rfl 9 (by decide) (List.mem_of_getElem? (i := 3) rfl) rfl dX3_openTo_70 ?_
          refine xiconst (v := (nI 4)) h0 dX3_openTo_73 (by decide) ?_
          refine xncmp_ne (tgt := 86) h0 dX3_openTo_74 (by decide) (by omega) (by omega) (fun c_13 => ?_) (fun c_13 => ?_)
          · skip
            refine xiload h0 0 dX3_openTo_86 rfl ?_
            exact xiret h0 dX3_openTo_88 () (by first | (exfalso; omega) | (rw [may_go hT hc (by assumption)]; unfold opS opB; (repeat' split) <;> first | rfl | (exfalso; omega))) rfl
          · skip
            refine xaload_n h0 2 dX3_openTo_77 rfl rfl ?_
            refine xiload_n h0 1 dX3_openTo_78 rfl rfl ?_
            refine xiload h0 0 dX3_openTo_79 rfl ?_
            refine xcallV_i (nn := 2) (w2 := fun u_ => (wTown cI a T k mu tm dy)) (wr := []) (rest := []) h0 (c_X3_withoutMatesOf (xL κ) D cI cC a T k mu tm dy (k ||| S) (opA T h (k ||| S) mu) (by first | exact opA_lt T h _ mu | exact Nat.lt_of_le_of_lt Nat.and_le_left (opA_lt T h _ mu))) gX3_openTo_X3_withoutMatesOf (by decide +kernel) rfl rfl rfl ⟨Nat.le_of_ble_eq_true rfl, Nat.le_of_ble_eq_true rfl⟩ ⟨by decide, by decide⟩ (fun _ _ _ _ h => h) (fun _ _ _ _ _ _ _ => trivial) rfl (Nat.le_of_ble_eq_true rfl) (q0 := 0) rfl rfl rfl [0, 1, 2, 3, 4, 5, 6, 7, 8] [] [0, 1, 2, 3, 4, 5, 6, 7, 8] ⟨rfl, rfl, rfl, rfl, rfl⟩ (fun _ => ⟨rfl, rfl⟩) dX3_openTo_81 (fun r_15 u_ hr_14 => ?_)
            subst hr_14
            refine xistore (lv' := [(4, .int (nI (wmK T (k ||| S) (opA T h (k ||| S) mu) 8))), (3, .int (nI (k ||| S))), (0, .ref (a 0)), (1, .int (nI h)), (2, .int (nI S))]) h0 dX3_openTo_84 (by decide) rfl ?_
            refine xiload h0 0 dX3_openTo_86 rfl ?_
            exact xiret h0 dX3_openTo_88 () (by first | (exfalso; omega) | (rw [may_go hT hc (by assumption)]; unfold opS opB; (repeat' split) <;> first | rfl | (exfalso; omega))) rfl
      · skip
        refine xiload h0 0 dX3_openTo_50 rfl ?_
        refine xaload_n h0 2 dX3_openTo_52 rfl rfl ?_
        refine xget (C := RX3) (T := TX3) (N := 13) (ci := 3) (v := .ref (a 7)) h0 hiX3 0 rfl rfl 6 (by decide) (List.mem_of_getElem? (i := 4) rfl) rfl dX3_openTo_53 ?_
        refine xiload_n h0 3 dX3_openTo_56 rfl rfl ?_
        refine xiald (v := (nI (bkS T h))) h0 7 0 rfl rfl (by omega) (by decide) dX3_openTo_57 (rfl) ?_
        refine xiand (v := (nI ((opA T h (k ||| S) mu) &&& (bkS T h)))) h0 dX3_openTo_58 (nx_and _ _) ?_
        refine xistore (lv' := [(4, .int (nI ((opA T h (k ||| S) mu) &&& (bkS T h)))), (3, .int (nI (k ||| S))), (0, .ref (a 0)), (1, .int (nI h)), (2, .int (nI S))]) h0 dX3_openTo_59 (by decide) rfl ?_
        refine xaload_n h0 2 dX3_openTo_61 rfl rfl ?_
        refine xget (C := RX3) (T := TX3) (N := 13) (ci := 3) (v := .int (nI (T 5 1))) h0 hiX3 0 rfl rfl 9 (by decide) (List.mem_of_getElem? (i := 3) rfl) rfl dX3_openTo_62 ?_
        refine xiconst (v := (nI 1)) h0 dX3_openTo_65 (by decide) ?_
        refine xncmp_eq (tgt := 77) h0 dX3_openTo_66 (by decide) (by omega) (by omega) (fun c_16 => ?_) (fun c_16 => ?_)
        · skip
          refine xaload_n h0 2 dX3_openTo_77 rfl rfl ?_
          refine xiload_n h0 1 dX3_openTo_78 rfl rfl ?_
          refine xiload h0 0 dX3_openTo_79 rfl ?_
          refine xcallV_i (nn := 2) (w2 := fun u_ => (wTown cI a T k mu tm dy)) (wr := []) (rest := []) h0 (c_X3_withoutMatesOf (xL κ) D cI cC a T k mu tm dy (k ||| S) ((opA T h (k ||| S) mu) &&& (bkS T h)) (by first | exact opA_lt T h _ mu | exact Nat.lt_of_le_of_lt Nat.and_le_left (opA_lt T h _ mu))) gX3_openTo_X3_withoutMatesOf (by decide +kernel) rfl rfl rfl ⟨Nat.le_of_ble_eq_true rfl, Nat.le_of_ble_eq_true rfl⟩ ⟨by decide, by decide⟩ (fun _ _ _ _ h => h) (fun _ _ _ _ _ _ _ => trivial) rfl (Nat.le_of_ble_eq_true rfl) (q0 := 0) rfl rfl rfl [0, 1, 2, 3, 4, 5, 6, 7, 8] [] [0, 1, 2, 3, 4, 5, 6, 7, 8] ⟨rfl, rfl, rfl, rfl, rfl⟩ (fun _ => ⟨rfl, rfl⟩) dX3_openTo_81 (fun r_18 u_ hr_17 => ?_)
          subst hr_17
          refine xistore (lv' := [(4, .int (nI (wmK T (k ||| S) ((opA T h (k ||| S) mu) &&& (bkS T h)) 8))), (3, .int (nI (k ||| S))), (0, .ref (a 0)), (1, .int (nI h)), (2, .int (nI S))]) h0 dX3_openTo_84 (by decide) rfl ?_
          refine xiload h0 0 dX3_openTo_86 rfl ?_
          exact xiret h0 dX3_openTo_88 () (by first | (exfalso; omega) | (rw [may_go hT hc (by assumption)]; unfold opS opB; (repeat' split) <;> first | rfl | (exfalso; omega))) rfl
        · skip
          refine xaload_n h0 2 dX3_openTo_69 rfl rfl ?_
          refine xget (C := RX3) (T := TX3) (N := 13) (ci := 3) (v := .int (nI (T 5 1))) h0 hiX3 0 rfl rfl 9 (by decide) (List.mem_of_getElem? (i := 3) rfl) rfl dX3_openTo_70 ?_
          refine xiconst (v := (nI 4)) h0 dX3_openTo_73 (by decide) ?_
          refine xncmp_ne (tgt := 86) h0 dX3_openTo_74 (by decide) (by omega) (by omega) (fun c_19 => ?_) (fun c_19 => ?_)
          · skip
            refine xiload h0 0 dX3_openTo_86 rfl ?_
            exact xiret h0 dX3_openTo_88 () (by first | (exfalso; omega) | (rw [may_go hT hc (by assumption)]; unfold opS opB; (repeat' split) <;> first | rfl | (exfalso; omega))) rfl
          · skip
            refine xaload_n h0 2 dX3_openTo_77 rfl rfl ?_
            refine xiload_n h0 1 dX3_openTo_78 rfl rfl ?_
            refine xiload h0 0 dX3_openTo_79 rfl ?_
            refine xcallV_i (nn := 2) (w2 := fun u_ => (wTown cI a T k mu tm dy)) (wr := []) (rest := []) h0 (c_X3_withoutMatesOf (xL κ) D cI cC a T k mu tm dy (k ||| S) ((opA T h (k ||| S) mu) &&& (bkS T h)) (by first | exact opA_lt T h _ mu | exact Nat.lt_of_le_of_lt Nat.and_le_left (opA_lt T h _ mu))) gX3_openTo_X3_withoutMatesOf (by decide +kernel) rfl rfl rfl ⟨Nat.le_of_ble_eq_true rfl, Nat.le_of_ble_eq_true rfl⟩ ⟨by decide, by decide⟩ (fun _ _ _ _ h => h) (fun _ _ _ _ _ _ _ => trivial) rfl (Nat.le_of_ble_eq_true rfl) (q0 := 0) rfl rfl rfl [0, 1, 2, 3, 4, 5, 6, 7, 8] [] [0, 1, 2, 3, 4, 5, 6, 7, 8] ⟨rfl, rfl, rfl, rfl, rfl⟩ (fun _ => ⟨rfl, rfl⟩) dX3_openTo_81 (fun r_21 u_ hr_20 => ?_)
            subst hr_20
            refine xistore (lv' := [(4, .int (nI (wmK T (k ||| S) ((opA T h (k ||| S) mu) &&& (bkS T h)) 8))), (3, .int (nI (k ||| S))), (0, .ref (a 0)), (1, .int (nI h)), (2, .int (nI S))]) h0 dX3_openTo_84 (by decide) rfl ?_
            refine xiload h0 0 dX3_openTo_86 rfl ?_
            exact xiret h0 dX3_openTo_88 () (by first | (exfalso; omega) | (rw [may_go hT hc (by assumption)]; unfold opS opB; (repeat' split) <;> first | rfl | (exfalso; omega))) rfl
    · skip
      refine xiconst (v := (nI 0)) h0 dX3_openTo_21 (by decide) ?_
      exact xiret h0 dX3_openTo_22 () (by exact (congrArg nI (may_stop hc (by assumption))).symm) rfl
set_option maxHeartbeats 4000000 in
set_option maxRecDepth 100000 in
theorem c_X3_rankOf (l : Launch) (D : va_G) (cI cC : ClassId) (a : Nat → Nat) (T : TT) (k mu tm dy : Nat) (h q S : Nat) (hT : TOK T) (hh : h < T 5 0) (hq : q < T 5 0) (hS : S < 256) (hk : k < 256) : XMi l yX3_rankOf wsX3_rankOf ({ frames := 2, cells := 0, slots := 0, locals := 48 } : Room) D (xT cI cC) xE0 (wTown cI a T k mu tm dy) [.ref (a 0), .int (nI h), .int (nI q), .int (nI S)] (S := Unit) (fun r _ => r = rkS T h S k mu q) (fun _ => (wTown cI a T k mu tm dy)) 0 0 := by
  refine xMet_i (cc := cX3_rankOf) (nL := 8) (ret := some .int) (by decide +kernel) rfl (Nat.le_of_ble_eq_true rfl) (fun κ A h0 hn0 hE => ?_)
  have hiX3 : ∀ w ∈ u_ws RX3 TX3 13, w ∈ wsX3_rankOf := by decide +kernel
  refine xlv (lv' := [(0, .ref (a 0)), (1, .int (nI h)), (2, .int (nI q)), (3, .int (nI S))]) [0, 1, 2, 3] rfl ?_
  have hn := hT.1
  have hlw := hT.2.1
  have ha := hT.2.2.1 h
  have hq2 : q < 8 := by omega
  have hS2 : S ||| 2 ^ q < 256 := or_lt256 hS (pw_lt256 hq2)
  have hc2 : 1 ≤ cdS (S ||| 2 ^ q) := cd_or hS hq2
  refine xaload_n h0 0 dX3_rankOf_0 rfl rfl ?_
  refine xiload_n h0 1 dX3_rankOf_1 rfl rfl ?_
  refine xcallV_i (nn := 1) (w2 := fun u_ => (wTown cI a T k mu tm dy)) (wr := []) (rest := []) h0 (c_X3_has (xL κ) D cI cC a T k mu tm dy (nI h) (by omega)) gX3_rankOf_X3_has (by decide +kernel) rfl rfl rfl ⟨Nat.le_of_ble_eq_true rfl, Nat.le_of_ble_eq_true rfl⟩ ⟨by decide, by decide⟩ (fun _ _ _ _ h => h) (fun _ _ _ _ _ _ _ => trivial) rfl (Nat.le_of_ble_eq_true rfl) (q0 := 0) rfl rfl rfl [0, 1, 2, 3, 4, 5, 6, 7, 8] [] [0, 1, 2, 3, 4, 5, 6, 7, 8] ⟨rfl, rfl, rfl, rfl, rfl⟩ (fun _ => ⟨rfl, rfl⟩) dX3_rankOf_2 (fun r_2 u_ hr_1 => ?_)
  subst hr_1
  refine xbif_eq (tgt := 16) h0 dX3_rankOf_5 (by decide)  (fun c_3 => ?_) (fun c_3 => ?_)
  · exact absurd (by exact (okN_n (by omega) (by omega)).mpr (by omega)) c_3
  · skip
    refine xaload_n h0 0 dX3_rankOf_8 rfl rfl ?_
    refine xiload_n h0 2 dX3_rankOf_9 rfl rfl ?_
    refine xcallV_i (nn := 1) (w2 := fun u_ => (wTown cI a T k mu tm dy)) (wr := []) (rest := []) h0 (c_X3_has (xL κ) D cI cC a T k mu tm dy (nI q) (by omega)) gX3_rankOf_X3_has (by decide +kernel) rfl rfl rfl ⟨Nat.le_of_ble_eq_true rfl, Nat.le_of_ble_eq_true rfl⟩ ⟨by decide, by decide⟩ (fun _ _ _ _ h => h) (fun _ _ _ _ _ _ _ => trivial) rfl (Nat.le_of_ble_eq_true rfl) (q0 := 0) rfl rfl rfl [0, 1, 2, 3, 4, 5, 6, 7, 8] [] [0, 1, 2, 3, 4, 5, 6, 7, 8] ⟨rfl, rfl, rfl, rfl, rfl⟩ (fun _ => ⟨rfl, rfl⟩) dX3_rankOf_10 (fun r_5 u_ hr_4 => ?_)
    subst hr_4
    refine xbif_ne (tgt := 18) h0 dX3_rankOf_13 (by decide)  (fun c_6 => ?_) (fun c_6 => ?_)
    · skip
      refine xaload_n h0 0 dX3_rankOf_18 rfl rfl ?_
      refine xget (C := RX3) (T := TX3) (N := 13) (ci := 3) (v := .ref (a 1)) h0 hiX3 0 rfl rfl 0 (by decide) (List.mem_of_getElem? (i := 1) rfl) rfl dX3_rankOf_19 ?_
      refine xiload_n h0 1 dX3_rankOf_22 rfl rfl ?_
      refine xiald (v := (nI (T 0 h))) h0 1 0 rfl rfl (by omega) (by decide) dX3_rankOf_23 (rfl) ?_
      refine xistore (lv' := [(4, .int (nI (T 0 h))), (0, .ref (a 0)), (1, .int (nI h)), (2, .int (nI q)), (3, .int (nI S))]) h0 dX3_rankOf_24 (by decide) rfl ?_
      refine xaload_n h0 1 dX3_rankOf_26 rfl rfl ?_
      refine xiload_n h0 2 dX3_rankOf_27 rfl rfl ?_
      refine xiload_n h0 3 dX3_rankOf_28 rfl rfl ?_
      refine xcallV_i (nn := 2) (w2 := fun u_ => (wTown cI a T k mu tm dy)) (wr := []) (rest := []) h0 (c_X3_minutesFrom (xL κ) D cI cC a T k mu tm dy h q (by omega) (by omega) (by omega)) gX3_rankOf_X3_minutesFrom (by decide +kernel) rfl rfl rfl ⟨Nat.le_of_ble_eq_true rfl, Nat.le_of_ble_eq_true rfl⟩ ⟨by decide, by decide⟩ (fun _ _ _ _ h => h) (fun _ _ _ _ _ _ _ => trivial) rfl (Nat.le_of_ble_eq_true rfl) (q0 := 0) rfl rfl rfl [0, 1, 2, 3, 4, 5, 6, 7, 8] [] [0, 1, 2, 3, 4, 5, 6, 7, 8] ⟨rfl, rfl, rfl, rfl, rfl⟩ (fun _ => ⟨rfl, rfl⟩) dX3_rankOf_29 (fun r_8 u_ hr_7 => ?_)
      subst hr_7
      refine xistore (lv' := [(5, .int (nI (T 4 (8 * h + q)))), (4, .int (nI (T 0 h))), (0, .ref (a 0)), (1, .int (nI h)), (2, .int (nI q)), (3, .int (nI S))]) h0 dX3_rankOf_32 (by decide) rfl ?_
      refine xiload h0 1 dX3_rankOf_34 rfl ?_
      refine xnif_ne (tgt := 42) h0 dX3_rankOf_36 (by decide) (by omega) (fun c_9 => ?_) (fun c_9 => ?_)
      · skip
        refine xiload h0 1 dX3_rankOf_42 rfl ?_
        refine xiconst (v := (nI 1)) h0 dX3_rankOf_44 (by decide) ?_
        refine xncmp_ne (tgt := 56) h0 dX3_rankOf_45 (by decide) (by omega) (by omega) (fun c_10 => ?_) (fun c_10 => ?_)
        · skip
          refine xiload h0 1 dX3_rankOf_56 rfl ?_
          refine xiconst (v := (nI 2)) h0 dX3_rankOf_58 (by decide) ?_
          refine xncmp_eq (tgt := 70) h0 dX3_rankOf_59 (by decide) (by omega) (by omega) (fun c_11 => ?_) (fun c_11 => ?_)
          · skip
            refine xaload_n h0 2 dX3_rankOf_70 rfl rfl ?_
            refine xiload_n h0 4 dX3_rankOf_71 rfl rfl ?_
            refine xiload_n h0 5 dX3_rankOf_72 rfl rfl ?_
            refine xiload_n h0 4 dX3_rankOf_73 rfl rfl ?_
            refine xcallSN_i (nn := 1) (w2 := fun u_ => (wTown cI a T k mu tm dy)) (wr := [(a 0, .inr (3, [.ref (a 1), .ref (a 2), .ref (a 3), .ref (a 4), .ref (a 5), .ref (a 6), .ref (a 7), .ref (a 8), .int (nI (T 5 0)), .int (nI (T 5 1)), .int (nI k), .int (nI tm), .int (nI dy)])), (a 1, .inl (cI, 8, .inl (fun i => nI (T 0 i)))), (a 2, .inl (cI, 8, .inl (fun i => nI (T 1 i)))), (a 3, .inl (cI, 8, .inl (fun i => nI (T 2 i)))), (a 4, .inl (cI, 8, .inl (fun i => nI (T 3 i)))), (a 5, .inl (cI, 8, .inl (fun i => nI (mtS T i)))), (a 6, .inl (cI, 8, .inl (fun i => nI (rcS T mu i)))), (a 7, .inl (cI, 8, .inl (fun i => nI (bkS T i)))), (a 8, .inl (cI, 64, .inl (fun i => nI (T 4 i))))]) (rest := [.int (nI S), .int (nI q), .ref (a 0)]) (host := "AskAnotherFirst") h0 (c_X5_bit (xL κ) D cI cC q (by omega)) gX3_rankOf_X5_bit_n72 (List.mem_of_getElem? (i := 6) rfl) (List.mem_of_getElem? (i := 15) rfl) (List.mem_of_getElem? (i := 14) rfl) (by decide +kernel) rfl rfl rfl ⟨Nat.le_of_ble_eq_true rfl, Nat.le_of_ble_eq_true rfl⟩ ⟨by decide, by decide⟩ (fun _ _ _ _ h => h) (fun _ _ _ _ _ _ _ => trivial) rfl (Nat.le_of_ble_eq_true rfl) rfl [] [0, 1, 2, 3, 4, 5, 6, 7, 8] [0, 1, 2, 3, 4, 5, 6, 7, 8] ⟨rfl, rfl, rfl, rfl, rfl⟩ (fun _ => ⟨rfl, rfl⟩) dX3_rankOf_74 (fun r_13 u_ hr_12 => ?_)
            subst hr_12
            refine xior (v := (nI (S ||| (2 ^ q)))) h0 dX3_rankOf_77 (nx_or _ _) ?_
            refine xcallV_i (nn := 2) (w2 := fun u_ => (wTown cI a T k mu tm dy)) (wr := []) (rest := []) h0 (c_X3_openTo (xL κ) D cI cC a T k mu tm dy q (S ||| (2 ^ q)) hT (by exact hq) (by exact hS2) (by exact hc2) (by omega)) gX3_rankOf_X3_openTo (by decide +kernel) rfl rfl rfl ⟨Nat.le_of_ble_eq_true rfl, Nat.le_of_ble_eq_true rfl⟩ ⟨by decide, by decide⟩ (fun _ _ _ _ h => h) (fun _ _ _ _ _ _ _ => trivial) rfl (Nat.le_of_ble_eq_true rfl) (q0 := 0) rfl rfl rfl [0, 1, 2, 3, 4, 5, 6, 7, 8] [] [0, 1, 2, 3, 4, 5, 6, 7, 8] ⟨rfl, rfl, rfl, rfl, rfl⟩ (fun _ => ⟨rfl, rfl⟩) dX3_rankOf_78 (fun r_15 u_ hr_14 => ?_)
            subst hr_14
            refine xcallS_i (nn := 1) (w2 := fun u_ => (wTown cI a T k mu tm dy)) (wr := [(a 0, .inr (3, [.ref (a 1), .ref (a 2), .ref (a 3), .ref (a 4), .ref (a 5), .ref (a 6), .ref (a 7), .ref (a 8), .int (nI (T 5 0)), .int (nI (T 5 1)), .int (nI k), .int (nI tm), .int (nI dy)])), (a 1, .inl (cI, 8, .inl (fun i => nI (T 0 i)))), (a 2, .inl (cI, 8, .inl (fun i => nI (T 1 i)))), (a 3, .inl (cI, 8, .inl (fun i => nI (T 2 i)))), (a 4, .inl (cI, 8, .inl (fun i => nI (T 3 i)))), (a 5, .inl (cI, 8, .inl (fun i => nI (mtS T i)))), (a 6, .inl (cI, 8, .inl (fun i => nI (rcS T mu i)))), (a 7, .inl (cI, 8, .inl (fun i => nI (bkS T i)))), (a 8, .inl (cI, 64, .inl (fun i => nI (T 4 i))))]) (rest := []) h0 (c_J6_bitCount_0f7a4 (xL κ) D cI cC (mayS T q (S ||| (2 ^ q)) k mu) (by exact mayS_lt hT _ _ _ _)) gX3_rankOf_J6_bitCount_0f7a4 (by decide +kernel) rfl rfl rfl ⟨Nat.le_of_ble_eq_true rfl, Nat.le_of_ble_eq_true rfl⟩ ⟨by decide, by decide⟩ (fun _ _ _ _ h => h) (fun _ _ _ _ _ _ _ => trivial) rfl (Nat.le_of_ble_eq_true rfl) rfl [] [0, 1, 2, 3, 4, 5, 6, 7, 8] [0, 1, 2, 3, 4, 5, 6, 7, 8] ⟨rfl, rfl, rfl, rfl, rfl⟩ (fun _ => ⟨rfl, rfl⟩) dX3_rankOf_81 (fun r_17 u_ hr_16 => ?_)
            subst hr_16
            refine xistore (lv' := [(6, .int (nI (cdS (mayS T q (S ||| (2 ^ q)) k mu)))), (5, .int (nI (T 4 (8 * h + q)))), (4, .int (nI (T 0 h))), (0, .ref (a 0)), (1, .int (nI h)), (2, .int (nI q)), (3, .int (nI S))]) h0 dX3_rankOf_84 (by decide) rfl ?_
            refine xbipush (v := (nI 61)) h0 dX3_rankOf_86 (by decide) ?_
            refine xistore (lv' := [(7, .int (nI 61)), (6, .int (nI (cdS (mayS T q (S ||| (2 ^ q)) k mu)))), (5, .int (nI (T 4 (8 * h + q)))), (4, .int (nI (T 0 h))), (0, .ref (a 0)), (1, .int (nI h)), (2, .int (nI q)), (3, .int (nI S))]) h0 dX3_rankOf_88 (by decide) rfl ?_
            refine xiload h0 3 dX3_rankOf_90 rfl ?_
            refine xiconst (v := (nI 2)) h0 dX3_rankOf_92 (by decide) ?_
            refine xncmp_ne (tgt := 104) h0 dX3_rankOf_93 (by decide) (by omega) (by omega) (fun c_18 => ?_) (fun c_18 => ?_)
            · skip
              refine xiload h0 0 dX3_rankOf_104 rfl ?_
              refine xineg (v := (-(nI 61))) h0 dX3_rankOf_106 rfl ?_
              refine xiload h0 1 dX3_rankOf_107 rfl ?_
              refine ximul (v := ((-(nI 61)) * (nI (cdS (mayS T q (S ||| (2 ^ q)) k mu))))) h0 dX3_rankOf_109 rfl ?_
              refine xiload h0 2 dX3_rankOf_110 rfl ?_
              refine xiadd (v := (((-(nI 61)) * (nI (cdS (mayS T q (S ||| (2 ^ q)) k mu)))) + (nI (T 4 (8 * h + q))))) h0 dX3_rankOf_112 rfl ?_
              exact xiret h0 dX3_rankOf_113 () (by (unfold rkS; (repeat' split) <;> first | (exfalso; omega) | rfl | (rw [pk_mul, nI_add]))) rfl
            · skip
              refine xiload h0 0 dX3_rankOf_96 rfl ?_
              refine xiload h0 1 dX3_rankOf_98 rfl ?_
              refine ximul (v := (nI (61 * (cdS (mayS T q (S ||| (2 ^ q)) k mu))))) h0 dX3_rankOf_100 (pk_mul _ _) ?_
              refine xgoto (tgt := 110) h0 dX3_rankOf_101 (by decide) ?_
              refine xiload h0 2 dX3_rankOf_110 rfl ?_
              refine xiadd (v := (nI ((61 * (cdS (mayS T q (S ||| (2 ^ q)) k mu))) + (T 4 (8 * h + q))))) h0 dX3_rankOf_112 (nI_add _ _) ?_
              exact xiret h0 dX3_rankOf_113 () (by (unfold rkS; (repeat' split) <;> first | (exfalso; omega) | rfl | (rw [pk_mul, nI_add]))) rfl
          · skip
            refine xiload h0 1 dX3_rankOf_62 rfl ?_
            refine xiconst (v := (nI 3)) h0 dX3_rankOf_64 (by decide) ?_
            refine xncmp_eq (tgt := 70) h0 dX3_rankOf_65 (by decide) (by omega) (by omega) (fun c_19 => ?_) (fun c_19 => ?_)
            · skip
              refine xaload_n h0 2 dX3_rankOf_70 rfl rfl ?_
              refine xiload_n h0 4 dX3_rankOf_71 rfl rfl ?_
              refine xiload_n h0 5 dX3_rankOf_72 rfl rfl ?_
              refine xiload_n h0 4 dX3_rankOf_73 rfl rfl ?_
              refine xcallSN_i (nn := 1) (w2 := fun u_ => (wTown cI a T k mu tm dy)) (wr := [(a 0, .inr (3, [.ref (a 1), .ref (a 2), .ref (a 3), .ref (a 4), .ref (a 5), .ref (a 6), .ref (a 7), .ref (a 8), .int (nI (T 5 0)), .int (nI (T 5 1)), .int (nI k), .int (nI tm), .int (nI dy)])), (a 1, .inl (cI, 8, .inl (fun i => nI (T 0 i)))), (a 2, .inl (cI, 8, .inl (fun i => nI (T 1 i)))), (a 3, .inl (cI, 8, .inl (fun i => nI (T 2 i)))), (a 4, .inl (cI, 8, .inl (fun i => nI (T 3 i)))), (a 5, .inl (cI, 8, .inl (fun i => nI (mtS T i)))), (a 6, .inl (cI, 8, .inl (fun i => nI (rcS T mu i)))), (a 7, .inl (cI, 8, .inl (fun i => nI (bkS T i)))), (a 8, .inl (cI, 64, .inl (fun i => nI (T 4 i))))]) (rest := [.int (nI S), .int (nI q), .ref (a 0)]) (host := "AskAnotherFirst") h0 (c_X5_bit (xL κ) D cI cC q (by omega)) gX3_rankOf_X5_bit_n72 (List.mem_of_getElem? (i := 6) rfl) (List.mem_of_getElem? (i := 15) rfl) (List.mem_of_getElem? (i := 14) rfl) (by decide +kernel) rfl rfl rfl ⟨Nat.le_of_ble_eq_true rfl, Nat.le_of_ble_eq_true rfl⟩ ⟨by decide, by decide⟩ (fun _ _ _ _ h => h) (fun _ _ _ _ _ _ _ => trivial) rfl (Nat.le_of_ble_eq_true rfl) rfl [] [0, 1, 2, 3, 4, 5, 6, 7, 8] [0, 1, 2, 3, 4, 5, 6, 7, 8] ⟨rfl, rfl, rfl, rfl, rfl⟩ (fun _ => ⟨rfl, rfl⟩) dX3_rankOf_74 (fun r_21 u_ hr_20 => ?_)
              subst hr_20
              refine xior (v := (nI (S ||| (2 ^ q)))) h0 dX3_rankOf_77 (nx_or _ _) ?_
              refine xcallV_i (nn := 2) (w2 := fun u_ => (wTown cI a T k mu tm dy)) (wr := []) (rest := []) h0 (c_X3_openTo (xL κ) D cI cC a T k mu tm dy q (S ||| (2 ^ q)) hT (by exact hq) (by exact hS2) (by exact hc2) (by omega)) gX3_rankOf_X3_openTo (by decide +kernel) rfl rfl rfl ⟨Nat.le_of_ble_eq_true rfl, Nat.le_of_ble_eq_true rfl⟩ ⟨by decide, by decide⟩ (fun _ _ _ _ h => h) (fun _ _ _ _ _ _ _ => trivial) rfl (Nat.le_of_ble_eq_true rfl) (q0 := 0) rfl rfl rfl [0, 1, 2, 3, 4, 5, 6, 7, 8] [] [0, 1, 2, 3, 4, 5, 6, 7, 8] ⟨rfl, rfl, rfl, rfl, rfl⟩ (fun _ => ⟨rfl, rfl⟩) dX3_rankOf_78 (fun r_23 u_ hr_22 => ?_)
              subst hr_22
              refine xcallS_i (nn := 1) (w2 := fun u_ => (wTown cI a T k mu tm dy)) (wr := [(a 0, .inr (3, [.ref (a 1), .ref (a 2), .ref (a 3), .ref (a 4), .ref (a 5), .ref (a 6), .ref (a 7), .ref (a 8), .int (nI (T 5 0)), .int (nI (T 5 1)), .int (nI k), .int (nI tm), .int (nI dy)])), (a 1, .inl (cI, 8, .inl (fun i => nI (T 0 i)))), (a 2, .inl (cI, 8, .inl (fun i => nI (T 1 i)))), (a 3, .inl (cI, 8, .inl (fun i => nI (T 2 i)))), (a 4, .inl (cI, 8, .inl (fun i => nI (T 3 i)))), (a 5, .inl (cI, 8, .inl (fun i => nI (mtS T i)))), (a 6, .inl (cI, 8, .inl (fun i => nI (rcS T mu i)))), (a 7, .inl (cI, 8, .inl (fun i => nI (bkS T i)))), (a 8, .inl (cI, 64, .inl (fun i => nI (T 4 i))))]) (rest := []) h0 (c_J6_bitCount_0f7a4 (xL κ) D cI cC (mayS T q (S ||| (2 ^ q)) k mu) (by exact mayS_lt hT _ _ _ _)) gX3_rankOf_J6_bitCount_0f7a4 (by decide +kernel) rfl rfl rfl ⟨Nat.le_of_ble_eq_true rfl, Nat.le_of_ble_eq_true rfl⟩ ⟨by decide, by decide⟩ (fun _ _ _ _ h => h) (fun _ _ _ _ _ _ _ => trivial) rfl (Nat.le_of_ble_eq_true rfl) rfl [] [0, 1, 2, 3, 4, 5, 6, 7, 8] [0, 1, 2, 3, 4, 5, 6, 7, 8] ⟨rfl, rfl, rfl, rfl, rfl⟩ (fun _ => ⟨rfl, rfl⟩) dX3_rankOf_81 (fun r_25 u_ hr_24 => ?_)
              subst hr_24
              refine xistore (lv' := [(6, .int (nI (cdS (mayS T q (S ||| (2 ^ q)) k mu)))), (5, .int (nI (T 4 (8 * h + q)))), (4, .int (nI (T 0 h))), (0, .ref (a 0)), (1, .int (nI h)), (2, .int (nI q)), (3, .int (nI S))]) h0 dX3_rankOf_84 (by decide) rfl ?_
              refine xbipush (v := (nI 61)) h0 dX3_rankOf_86 (by decide) ?_
              refine xistore (lv' := [(7, .int (nI 61)), (6, .int (nI (cdS (mayS T q (S ||| (2 ^ q)) k mu)))), (5, .int (nI (T 4 (8 * h + q)))), (4, .int (nI (T 0 h))), (0, .ref (a 0)), (1, .int (nI h)), (2, .int (nI q)), (3, .int (nI S))]) h0 dX3_rankOf_88 (by decide) rfl ?_
              refine xiload h0 3 dX3_rankOf_90 rfl ?_
              refine xiconst (v := (nI 2)) h0 dX3_rankOf_92 (by decide) ?_
              refine xncmp_ne (tgt := 104) h0 dX3_rankOf_93 (by decide) (by omega) (by omega) (fun c_26 => ?_) (fun c_26 => ?_)
              · skip
                refine xiload h0 0 dX3_rankOf_104 rfl ?_
                refine xineg (v := (-(nI 61))) h0 dX3_rankOf_106 rfl ?_
                refine xiload h0 1 dX3_rankOf_107 rfl ?_
                refine ximul (v := ((-(nI 61)) * (nI (cdS (mayS T q (S ||| (2 ^ q)) k mu))))) h0 dX3_rankOf_109 rfl ?_
                refine xiload h0 2 dX3_rankOf_110 rfl ?_
                refine xiadd (v := (((-(nI 61)) * (nI (cdS (mayS T q (S ||| (2 ^ q)) k mu)))) + (nI (T 4 (8 * h + q))))) h0 dX3_rankOf_112 rfl ?_
                exact xiret h0 dX3_rankOf_113 () (by (unfold rkS; (repeat' split) <;> first | (exfalso; omega) | rfl | (rw [pk_mul, nI_add]))) rfl
              · skip
                refine xiload h0 0 dX3_rankOf_96 rfl ?_
                refine xiload h0 1 dX3_rankOf_98 rfl ?_
                refine ximul (v := (nI (61 * (cdS (mayS T q (S ||| (2 ^ q)) k mu))))) h0 dX3_rankOf_100 (pk_mul _ _) ?_
                refine xgoto (tgt := 110) h0 dX3_rankOf_101 (by decide) ?_
                refine xiload h0 2 dX3_rankOf_110 rfl ?_
                refine xiadd (v := (nI ((61 * (cdS (mayS T q (S ||| (2 ^ q)) k mu))) + (T 4 (8 * h + q))))) h0 dX3_rankOf_112 (nI_add _ _) ?_
                exact xiret h0 dX3_rankOf_113 () (by (unfold rkS; (repeat' split) <;> first | (exfalso; omega) | rfl | (rw [pk_mul, nI_add]))) rfl
            · skip
              refine xiconst (v := (nI 0)) h0 dX3_rankOf_68 (by decide) ?_
              exact xiret h0 dX3_rankOf_69 () (by (unfold rkS; (repeat' split) <;> first | (exfalso; omega) | rfl | (rw [pk_mul, nI_add]))) rfl
        · skip
          refine xaload_n h0 2 dX3_rankOf_48 rfl rfl ?_
          refine xget (C := RX3) (T := TX3) (N := 13) (ci := 3) (v := .ref (a 3)) h0 hiX3 0 rfl rfl 2 (by decide) (List.mem_of_getElem? (i := 2) rfl) rfl dX3_rankOf_49 ?_
          refine xiload_n h0 4 dX3_rankOf_52 rfl rfl ?_
          refine xiald (v := (nI (T 2 q))) h0 3 0 rfl rfl (by omega) (by decide) dX3_rankOf_53 (rfl) ?_
          refine xineg (v := (-(nI (T 2 q)))) h0 dX3_rankOf_54 rfl ?_
          exact xiret h0 dX3_rankOf_55 () (by (unfold rkS; (repeat' split) <;> first | (exfalso; omega) | rfl | (rw [pk_mul, nI_add]))) rfl
      · skip
        refine xiload h0 0 dX3_rankOf_39 rfl ?_
        exact xiret h0 dX3_rankOf_41 () (by (unfold rkS; (repeat' split) <;> first | (exfalso; omega) | rfl | (rw [pk_mul, nI_add]))) rfl
    · exact absurd (by exact (okN_n (by omega) (by omega)).mpr (by omega)) c_6
set_option maxHeartbeats 4000000 in
set_option maxRecDepth 100000 in
theorem c_X3_nextOf (l : Launch) (D : va_G) (cI cC : ClassId) (a : Nat → Nat) (T : TT) (k mu tm dy : Nat) (h S : Nat) (hT : TOK T) (hh : h < T 5 0) (hS : S < 256) (hc : 1 ≤ cdS S) (hk : k < 256) : XMi l yX3_nextOf wsX3_nextOf ({ frames := 3, cells := 0, slots := 0, locals := 75 } : Room) D (xT cI cC) xE0 (wTown cI a T k mu tm dy) [.ref (a 0), .int (nI h), .int (nI S)] (S := Unit) (fun r _ => r = oI (nextS T h S k mu)) (fun _ => (wTown cI a T k mu tm dy)) 0 0 := by
  refine xMet_i (cc := cX3_nextOf) (nL := 8) (ret := some .int) (by decide +kernel) rfl (Nat.le_of_ble_eq_true rfl) (fun κ A h0 hn0 hE => ?_)
  refine xlv (lv' := [(0, .ref (a 0)), (1, .int (nI h)), (2, .int (nI S))]) [0, 1, 2] rfl ?_
  have hn := hT.1
  have hlw := hT.2.1
  have hop := mayS_lt hT h S k mu
  refine xaload_n h0 0 dX3_nextOf_0 rfl rfl ?_
  refine xiload_n h0 1 dX3_nextOf_1 rfl rfl ?_
  refine xiload_n h0 2 dX3_nextOf_2 rfl rfl ?_
  refine xcallV_i (nn := 2) (w2 := fun u_ => (wTown cI a T k mu tm dy)) (wr := []) (rest := []) h0 (c_X3_openTo (xL κ) D cI cC a T k mu tm dy h S hT (by omega) (by omega) (by omega) (by omega)) gX3_nextOf_X3_openTo (by decide +kernel) rfl rfl rfl ⟨Nat.le_of_ble_eq_true rfl, Nat.le_of_ble_eq_true rfl⟩ ⟨by decide, by decide⟩ (fun _ _ _ _ h => h) (fun _ _ _ _ _ _ _ => trivial) rfl (Nat.le_of_ble_eq_true rfl) (q0 := 0) rfl rfl rfl [0, 1, 2, 3, 4, 5, 6, 7, 8] [] [0, 1, 2, 3, 4, 5, 6, 7, 8] ⟨rfl, rfl, rfl, rfl, rfl⟩ (fun _ => ⟨rfl, rfl⟩) dX3_nextOf_3 (fun r_2 u_ hr_1 => ?_)
  subst hr_1
  refine xistore_n (lv' := [(3, .int (nI (mayS T h S k mu))), (0, .ref (a 0)), (1, .int (nI h)), (2, .int (nI S))]) h0 dX3_nextOf_6 rfl (by decide) rfl ?_
  refine xiconst (v := (-1)) h0 dX3_nextOf_7 (by decide) ?_
  refine xistore (lv' := [(4, .int (-1)), (3, .int (nI (mayS T h S k mu))), (0, .ref (a 0)), (1, .int (nI h)), (2, .int (nI S))]) h0 dX3_nextOf_8 (by decide) rfl ?_
  refine xiconst (v := (nI 0)) h0 dX3_nextOf_10 (by decide) ?_
  refine xistore (lv' := [(5, .int (nI 0)), (4, .int (-1)), (3, .int (nI (mayS T h S k mu))), (0, .ref (a 0)), (1, .int (nI h)), (2, .int (nI S))]) h0 dX3_nextOf_11 (by decide) rfl ?_
  refine xiconst (v := (nI 0)) h0 dX3_nextOf_13 (by decide) ?_
  refine xistore (lv' := [(6, .int (nI 0)), (5, .int (nI 0)), (4, .int (-1)), (3, .int (nI (mayS T h S k mu))), (0, .ref (a 0)), (1, .int (nI h)), (2, .int (nI S))]) h0 dX3_nextOf_14 (by decide) rfl ?_
  have lp : ∀ (d_ : Nat) (i : Nat) (b : Option Nat) (x : Int32), (9 - i ≤ d_) → (i ≤ 8) → (b = bsS T h S k mu i) → (∀ c, b = some c → x = rkS T h S k mu c) → XG κ 8 D (xT cI cC) A (xQi (S := Unit) κ D (xT cI cC) A (fun r _ => r = oI (nextS T h S k mu)) (fun _ => (wTown cI a T k mu tm dy)) 0 0) (wTown cI a T k mu tm dy) 0 0 16 [(0, .ref (a 0)), (1, .int (nI h)), (2, .int (nI S)), (3, .int (nI (mayS T h S k mu))), (4, .int (oI b)), (5, .int x), (6, .int (nI i))] [] := by
    intro d_
    induction d_ with
    | zero => intro i b x hm_ hi hb hx; exact absurd hm_ (by omega)
    | succ d_ ih_lp =>
      intro i b x hm_ hi hb hx
      refine xiload h0 6 dX3_nextOf_16 rfl ?_
      refine xbipush (v := (nI 8)) h0 dX3_nextOf_18 (by decide) ?_
      refine xncmp_ge (tgt := 69) h0 dX3_nextOf_20 (by decide) (by omega) (by omega) (fun c_3 => ?_) (fun c_3 => ?_)
      · skip
        refine xiload h0 4 dX3_nextOf_69 rfl ?_
        exact xiret h0 dX3_nextOf_71 () (by rw [hb, show i = 8 by omega]; rfl) rfl
      · skip
        refine xiload_n h0 3 dX3_nextOf_23 rfl rfl ?_
        refine xiload h0 6 dX3_nextOf_24 rfl ?_
        refine xcallSN_i (nn := 2) (w2 := fun u_ => (wTown cI a T k mu tm dy)) (wr := [(a 0, .inr (3, [.ref (a 1), .ref (a 2), .ref (a 3), .ref (a 4), .ref (a 5), .ref (a 6), .ref (a 7), .ref (a 8), .int (nI (T 5 0)), .int (nI (T 5 1)), .int (nI k), .int (nI tm), .int (nI dy)])), (a 1, .inl (cI, 8, .inl (fun i => nI (T 0 i)))), (a 2, .inl (cI, 8, .inl (fun i => nI (T 1 i)))), (a 3, .inl (cI, 8, .inl (fun i => nI (T 2 i)))), (a 4, .inl (cI, 8, .inl (fun i => nI (T 3 i)))), (a 5, .inl (cI, 8, .inl (fun i => nI (mtS T i)))), (a 6, .inl (cI, 8, .inl (fun i => nI (rcS T mu i)))), (a 7, .inl (cI, 8, .inl (fun i => nI (bkS T i)))), (a 8, .inl (cI, 64, .inl (fun i => nI (T 4 i))))]) (rest := []) (host := "AskAnotherFirst") h0 (c_X5_holds (xL κ) D cI cC (mayS T h S k mu) i (by omega) (by omega)) gX3_nextOf_X5_holds_n62 (List.mem_of_getElem? (i := 7) rfl) (List.mem_of_getElem? (i := 32) rfl) (List.mem_of_getElem? (i := 31) rfl) (by decide +kernel) rfl rfl rfl ⟨Nat.le_of_ble_eq_true rfl, Nat.le_of_ble_eq_true rfl⟩ ⟨by decide, by decide⟩ (fun _ _ _ _ h => h) (fun _ _ _ _ _ _ _ => trivial) rfl (Nat.le_of_ble_eq_true rfl) rfl [] [0, 1, 2, 3, 4, 5, 6, 7, 8] [0, 1, 2, 3, 4, 5, 6, 7, 8] ⟨rfl, rfl, rfl, rfl, rfl⟩ (fun _ => ⟨rfl, rfl⟩) dX3_nextOf_26 (fun r_5 u_ hr_4 => ?_)
        subst hr_4
        refine xbif_eq (tgt := 63) h0 dX3_nextOf_29 (by decide)  (fun c_6 => ?_) (fun c_6 => ?_)
        · skip
          refine xiinc (v := (nI (i + 1))) (lv' := [(6, .int (nI (i + 1))), (0, .ref (a 0)), (1, .int (nI h)), (2, .int (nI S)), (3, .int (nI (mayS T h S k mu))), (4, .int (oI b)), (5, .int x)]) h0 6 dX3_nextOf_63 rfl (nI_add _ _) (by decide) rfl ?_
          refine xgoto (tgt := 16) h0 dX3_nextOf_66 (by decide) ?_
          refine xlv [1, 2, 3, 4, 5, 6, 0] rfl ?_
          exact ih_lp (i + 1) b x (by omega) (by omega) (by first | (rw [bsS_no (by assumption)]; exact hb) | exact (bsS_1 (by assumption) (hb.symm.trans hbn)).symm | exact (bsS_2 (by assumption) hb0 ((rkS_lt hT _ _ _ _ _ _).mp (by rw [← hx0]; exact Int32.not_le.mp (by assumption)))).symm | (rw [bsS_3 (by assumption) hb0 (fun z => absurd ((rkS_lt hT _ _ _ _ _ _).mpr z) (by rw [← hx0]; exact Int32.not_lt.mpr (by assumption)))]; exact hc0)) (by first | exact hx | (intro c e; cases e; rfl))
        · skip
          refine xaload_n h0 0 dX3_nextOf_32 rfl rfl ?_
          refine xiload_n h0 1 dX3_nextOf_33 rfl rfl ?_
          refine xiload h0 6 dX3_nextOf_34 rfl ?_
          refine xiload_n h0 2 dX3_nextOf_36 rfl rfl ?_
          refine xcallV_i (nn := 3) (w2 := fun u_ => (wTown cI a T k mu tm dy)) (wr := []) (rest := []) h0 (c_X3_rankOf (xL κ) D cI cC a T k mu tm dy h i S hT (by omega) (by exact (mayS_in (by assumption)).1) (by omega) (by omega)) gX3_nextOf_X3_rankOf (by decide +kernel) rfl rfl rfl ⟨Nat.le_of_ble_eq_true rfl, Nat.le_of_ble_eq_true rfl⟩ ⟨by decide, by decide⟩ (fun _ _ _ _ h => h) (fun _ _ _ _ _ _ _ => trivial) rfl (Nat.le_of_ble_eq_true rfl) (q0 := 0) rfl rfl rfl [0, 1, 2, 3, 4, 5, 6, 7, 8] [] [0, 1, 2, 3, 4, 5, 6, 7, 8] ⟨rfl, rfl, rfl, rfl, rfl⟩ (fun _ => ⟨rfl, rfl⟩) dX3_nextOf_37 (fun r_8 u_ hr_7 => ?_)
          subst hr_7
          refine xistore (lv' := [(7, .int (rkS T h S k mu i)), (0, .ref (a 0)), (1, .int (nI h)), (2, .int (nI S)), (3, .int (nI (mayS T h S k mu))), (4, .int (oI b)), (5, .int x), (6, .int (nI i))]) h0 dX3_nextOf_40 (by decide) rfl ?_
          refine xiload h0 5 dX3_nextOf_42 rfl ?_
          refine xiconst (v := (-1)) h0 dX3_nextOf_44 (by decide) ?_
          refine xicmp_eq (tgt := 55) h0 dX3_nextOf_45 (by decide)  (fun c_9 => ?_) (fun c_9 => ?_)
          · skip
            have hbn : b = none := oI_m (fun z e => by have := (bsS_in i (hb ▸ e)).1; omega) c_9
            refine xiload h0 7 dX3_nextOf_55 rfl ?_
            refine xistore (lv' := [(4, .int (nI i)), (7, .int (rkS T h S k mu i)), (0, .ref (a 0)), (1, .int (nI h)), (2, .int (nI S)), (3, .int (nI (mayS T h S k mu))), (5, .int x), (6, .int (nI i))]) h0 dX3_nextOf_57 (by decide) rfl ?_
            refine xiload h0 1 dX3_nextOf_59 rfl ?_
            refine xistore (lv' := [(5, .int (rkS T h S k mu i)), (4, .int (nI i)), (7, .int (rkS T h S k mu i)), (0, .ref (a 0)), (1, .int (nI h)), (2, .int (nI S)), (3, .int (nI (mayS T h S k mu))), (6, .int (nI i))]) h0 dX3_nextOf_61 (by decide) rfl ?_
            refine xiinc (v := (nI (i + 1))) (lv' := [(6, .int (nI (i + 1))), (5, .int (rkS T h S k mu i)), (4, .int (nI i)), (7, .int (rkS T h S k mu i)), (0, .ref (a 0)), (1, .int (nI h)), (2, .int (nI S)), (3, .int (nI (mayS T h S k mu)))]) h0 7 dX3_nextOf_63 rfl (nI_add _ _) (by decide) rfl ?_
            refine xgoto (tgt := 16) h0 dX3_nextOf_66 (by decide) ?_
            refine xlv [4, 5, 6, 7, 2, 1, 0] rfl ?_
            exact ih_lp (i + 1) (some i) (rkS T h S k mu i) (by omega) (by omega) (by first | (rw [bsS_no (by assumption)]; exact hb) | exact (bsS_1 (by assumption) (hb.symm.trans hbn)).symm | exact (bsS_2 (by assumption) hb0 ((rkS_lt hT _ _ _ _ _ _).mp (by rw [← hx0]; exact Int32.not_le.mp (by assumption)))).symm | (rw [bsS_3 (by assumption) hb0 (fun z => absurd ((rkS_lt hT _ _ _ _ _ _).mpr z) (by rw [← hx0]; exact Int32.not_lt.mpr (by assumption)))]; exact hc0)) (by first | exact hx | (intro c e; cases e; rfl))
          · skip
            obtain ⟨c0, hc0⟩ := oI_s c_9
            have hx0 := hx c0 hc0
            have hb0 := hb.symm.trans hc0
            refine xiload h0 0 dX3_nextOf_48 rfl ?_
            refine xiload h0 6 dX3_nextOf_50 rfl ?_
            refine xicmp_ge (tgt := 63) h0 dX3_nextOf_52 (by decide)  (fun c_10 => ?_) (fun c_10 => ?_)
            · skip
              refine xiinc (v := (nI (i + 1))) (lv' := [(6, .int (nI (i + 1))), (7, .int (rkS T h S k mu i)), (0, .ref (a 0)), (1, .int (nI h)), (2, .int (nI S)), (3, .int (nI (mayS T h S k mu))), (4, .int (oI b)), (5, .int x)]) h0 7 dX3_nextOf_63 rfl (nI_add _ _) (by decide) rfl ?_
              refine xgoto (tgt := 16) h0 dX3_nextOf_66 (by decide) ?_
              refine xlv [2, 3, 4, 5, 6, 7, 0] rfl ?_
              exact ih_lp (i + 1) b x (by omega) (by omega) (by first | (rw [bsS_no (by assumption)]; exact hb) | exact (bsS_1 (by assumption) (hb.symm.trans hbn)).symm | exact (bsS_2 (by assumption) hb0 ((rkS_lt hT _ _ _ _ _ _).mp (by rw [← hx0]; exact Int32.not_le.mp (by assumption)))).symm | (rw [bsS_3 (by assumption) hb0 (fun z => absurd ((rkS_lt hT _ _ _ _ _ _).mpr z) (by rw [← hx0]; exact Int32.not_lt.mpr (by assumption)))]; exact hc0)) (by first | exact hx | (intro c e; cases e; rfl))
            · skip
              refine xiload h0 7 dX3_nextOf_55 rfl ?_
              refine xistore (lv' := [(4, .int (nI i)), (7, .int (rkS T h S k mu i)), (0, .ref (a 0)), (1, .int (nI h)), (2, .int (nI S)), (3, .int (nI (mayS T h S k mu))), (5, .int x), (6, .int (nI i))]) h0 dX3_nextOf_57 (by decide) rfl ?_
              refine xiload h0 1 dX3_nextOf_59 rfl ?_
              refine xistore (lv' := [(5, .int (rkS T h S k mu i)), (4, .int (nI i)), (7, .int (rkS T h S k mu i)), (0, .ref (a 0)), (1, .int (nI h)), (2, .int (nI S)), (3, .int (nI (mayS T h S k mu))), (6, .int (nI i))]) h0 dX3_nextOf_61 (by decide) rfl ?_
              refine xiinc (v := (nI (i + 1))) (lv' := [(6, .int (nI (i + 1))), (5, .int (rkS T h S k mu i)), (4, .int (nI i)), (7, .int (rkS T h S k mu i)), (0, .ref (a 0)), (1, .int (nI h)), (2, .int (nI S)), (3, .int (nI (mayS T h S k mu)))]) h0 7 dX3_nextOf_63 rfl (nI_add _ _) (by decide) rfl ?_
              refine xgoto (tgt := 16) h0 dX3_nextOf_66 (by decide) ?_
              refine xlv [4, 5, 6, 7, 2, 1, 0] rfl ?_
              exact ih_lp (i + 1) (some i) (rkS T h S k mu i) (by omega) (by omega) (by first | (rw [bsS_no (by assumption)]; exact hb) | exact (bsS_1 (by assumption) (hb.symm.trans hbn)).symm | exact (bsS_2 (by assumption) hb0 ((rkS_lt hT _ _ _ _ _ _).mp (by rw [← hx0]; exact Int32.not_le.mp (by assumption)))).symm | (rw [bsS_3 (by assumption) hb0 (fun z => absurd ((rkS_lt hT _ _ _ _ _ _).mpr z) (by rw [← hx0]; exact Int32.not_lt.mpr (by assumption)))]; exact hc0)) (by first | exact hx | (intro c e; cases e; rfl))
  refine xlv [4, 5, 6, 3, 2, 1, 0] rfl ?_
  exact lp (9) 0 none (nI 0) (by omega) (by omega) (by rfl) (by intro c e; cases e)
set_option maxHeartbeats 4000000 in
set_option maxRecDepth 100000 in
theorem c_X3_said (l : Launch) (D : va_G) (cI cC : ClassId) (a : Nat → Nat) (T : TT) (k mu tm dy : Nat) (p : Nat) (o : Option Nat) (hT : TOK T) (hp : p < T 5 0) (ho : ∀ z, o = some z → z ≤ 100) : XMi l yX3_said wsX3_said ({ frames := 1, cells := 0, slots := 0, locals := 21 } : Room) D (xT cI cC) xE0 (wTown cI a T k mu tm dy) [.ref (a 0), .int (nI p), .int (oI o)] (S := Unit) (fun r _ => r = nI (sdS T p o)) (fun _ => (wTown cI a T k mu tm dy)) 0 0 := by
  refine xMet_i (cc := cX3_said) (nL := 5) (ret := some .int) (by decide +kernel) rfl (Nat.le_of_ble_eq_true rfl) (fun κ A h0 hn0 hE => ?_)
  have hiX3 : ∀ w ∈ u_ws RX3 TX3 13, w ∈ wsX3_said := by decide +kernel
  refine xlv (lv' := [(0, .ref (a 0)), (1, .int (nI p)), (2, .int (oI o))]) [0, 1, 2] rfl ?_
  have hn := hT.1
  have hlw := hT.2.1
  have hs := hT.2.2.2.1 p
  have hkn := hT.2.2.2.2.1 p
  refine xaload_n h0 0 dX3_said_0 rfl rfl ?_
  refine xiload_n h0 1 dX3_said_1 rfl rfl ?_
  refine xcallV_i (nn := 1) (w2 := fun u_ => (wTown cI a T k mu tm dy)) (wr := []) (rest := []) h0 (c_X3_has (xL κ) D cI cC a T k mu tm dy (nI p) (by omega)) gX3_said_X3_has (by decide +kernel) rfl rfl rfl ⟨Nat.le_of_ble_eq_true rfl, Nat.le_of_ble_eq_true rfl⟩ ⟨by decide, by decide⟩ (fun _ _ _ _ h => h) (fun _ _ _ _ _ _ _ => trivial) rfl (Nat.le_of_ble_eq_true rfl) (q0 := 0) rfl rfl rfl [0, 1, 2, 3, 4, 5, 6, 7, 8] [] [0, 1, 2, 3, 4, 5, 6, 7, 8] ⟨rfl, rfl, rfl, rfl, rfl⟩ (fun _ => ⟨rfl, rfl⟩) dX3_said_2 (fun r_2 u_ hr_1 => ?_)
  subst hr_1
  refine xbif_ne (tgt := 10) h0 dX3_said_5 (by decide)  (fun c_3 => ?_) (fun c_3 => ?_)
  · skip
    refine xaload_n h0 0 dX3_said_10 rfl rfl ?_
    refine xget (C := RX3) (T := TX3) (N := 13) (ci := 3) (v := .ref (a 3)) h0 hiX3 0 rfl rfl 2 (by decide) (List.mem_of_getElem? (i := 1) rfl) rfl dX3_said_11 ?_
    refine xiload_n h0 1 dX3_said_14 rfl rfl ?_
    refine xiald (v := (nI (T 2 p))) h0 3 0 rfl rfl (by omega) (by decide) dX3_said_15 (rfl) ?_
    refine xistore_n (lv' := [(3, .int (nI (T 2 p))), (0, .ref (a 0)), (1, .int (nI p)), (2, .int (oI o))]) h0 dX3_said_16 rfl (by decide) rfl ?_
    refine xaload_n h0 1 dX3_said_17 rfl rfl ?_
    refine xget (C := RX3) (T := TX3) (N := 13) (ci := 3) (v := .ref (a 2)) h0 hiX3 0 rfl rfl 1 (by decide) (List.mem_of_getElem? (i := 2) rfl) rfl dX3_said_18 ?_
    refine xiload_n h0 2 dX3_said_21 rfl rfl ?_
    refine xiald (v := (nI (T 1 p))) h0 2 0 rfl rfl (by omega) (by decide) dX3_said_22 (rfl) ?_
    refine xistore (lv' := [(4, .int (nI (T 1 p))), (3, .int (nI (T 2 p))), (0, .ref (a 0)), (1, .int (nI p)), (2, .int (oI o))]) h0 dX3_said_23 (by decide) rfl ?_
    refine xiload_n h0 4 dX3_said_25 rfl rfl ?_
    refine xiconst (v := (-1)) h0 dX3_said_26 (by decide) ?_
    refine xicmp_ne (tgt := 45) h0 dX3_said_27 (by decide)  (fun c_4 => ?_) (fun c_4 => ?_)
    · skip
      obtain ⟨h, hoh⟩ := oI_s c_4
      subst hoh
      have hh := ho h rfl
      refine xiload h0 0 dX3_said_45 rfl ?_
      rcases (Decidable.em (T 1 p = 0)) with k_5 | k_5
      · skip
        refine xtabN (j := 0) (off := 29) (tgt := 76) h0 dX3_said_47 k_5 (by decide) (by decide) rfl (by decide) ?_
        refine xiload_n h0 1 dX3_said_76 rfl rfl ?_
        refine xiload_n h0 4 dX3_said_77 rfl rfl ?_
        refine xmax (v := (nI (Nat.max (T 2 p) h))) h0 (List.mem_of_getElem? (i := 3) rfl) (List.mem_of_getElem? (i := 4) rfl) (List.mem_of_getElem? (i := 5) rfl) (List.mem_of_getElem? (i := 6) rfl) ⟨by decide, by decide, by decide, by decide⟩ dX3_said_78 (nI_max (by omega) (by omega)) ?_
        exact xiret h0 dX3_said_81 () (by first | (rw [hon, sdS_n]; split <;> first | rfl | (exfalso; omega)) | (rw [sdS_h]; (repeat' split) <;> first | rfl | (exfalso; omega))) rfl
      rcases (Decidable.em (T 1 p = 1)) with k_6 | k_6
      · skip
        refine xtabN (j := 1) (off := 35) (tgt := 82) h0 dX3_said_47 k_6 (by decide) (by decide) rfl (by decide) ?_
        refine xiload_n h0 1 dX3_said_82 rfl rfl ?_
        exact xiret h0 dX3_said_83 () (by first | (rw [hon, sdS_n]; split <;> first | rfl | (exfalso; omega)) | (rw [sdS_h]; (repeat' split) <;> first | rfl | (exfalso; omega))) rfl
      rcases (Decidable.em (T 1 p = 2)) with k_7 | k_7
      · skip
        refine xtabN (j := 2) (off := 37) (tgt := 84) h0 dX3_said_47 k_7 (by decide) (by decide) rfl (by decide) ?_
        refine xiload_n h0 4 dX3_said_84 rfl rfl ?_
        exact xiret h0 dX3_said_85 () (by first | (rw [hon, sdS_n]; split <;> first | rfl | (exfalso; omega)) | (rw [sdS_h]; (repeat' split) <;> first | rfl | (exfalso; omega))) rfl
      rcases (Decidable.em (T 1 p = 3)) with k_8 | k_8
      · skip
        refine xtabN (j := 3) (off := 39) (tgt := 86) h0 dX3_said_47 k_8 (by decide) (by decide) rfl (by decide) ?_
        refine xbipush (v := (nI 100)) h0 dX3_said_86 (by decide) ?_
        refine xiload_n h0 4 dX3_said_88 rfl rfl ?_
        refine xisub (v := (nI (100 - h))) h0 dX3_said_89 (pk_sub (by omega)) ?_
        exact xiret h0 dX3_said_90 () (by first | (rw [hon, sdS_n]; split <;> first | rfl | (exfalso; omega)) | (rw [sdS_h]; (repeat' split) <;> first | rfl | (exfalso; omega))) rfl
      · skip
        refine xtabNo (tgt := 91) h0 dX3_said_47 (by omega) (by omega) (by decide) ?_
        refine xiload_n h0 1 dX3_said_91 rfl rfl ?_
        refine xiload_n h0 4 dX3_said_92 rfl rfl ?_
        refine xiadd (v := (nI ((T 2 p) + h))) h0 dX3_said_93 (nI_add _ _) ?_
        refine xiconst (v := (nI 2)) h0 dX3_said_94 (by decide) ?_
        refine xidiv (v := (nI ((T 2 p + h) / 2))) h0 dX3_said_95 (by decide) (pk_div (by omega) (by decide) (by decide)) ?_
        exact xiret h0 dX3_said_96 () (by first | (rw [hon, sdS_n]; split <;> first | rfl | (exfalso; omega)) | (rw [sdS_h]; (repeat' split) <;> first | rfl | (exfalso; omega))) rfl
    · skip
      have hon : o = none := oI_m (fun z e => by have := ho z e; omega) c_4
      refine xiload h0 0 dX3_said_30 rfl ?_
      refine xiconst (v := (nI 3)) h0 dX3_said_32 (by decide) ?_
      refine xncmp_ne (tgt := 43) h0 dX3_said_33 (by decide) (by omega) (by omega) (fun c_9 => ?_) (fun c_9 => ?_)
      · skip
        refine xiload_n h0 1 dX3_said_43 rfl rfl ?_
        exact xiret h0 dX3_said_44 () (by first | (rw [hon, sdS_n]; split <;> first | rfl | (exfalso; omega)) | (rw [sdS_h]; (repeat' split) <;> first | rfl | (exfalso; omega))) rfl
      · skip
        refine xbipush (v := (nI 100)) h0 dX3_said_36 (by decide) ?_
        refine xiload_n h0 1 dX3_said_38 rfl rfl ?_
        refine xisub (v := (nI (100 - (T 2 p)))) h0 dX3_said_39 (pk_sub (by omega)) ?_
        refine xgoto (tgt := 44) h0 dX3_said_40 (by decide) ?_
        exact xiret h0 dX3_said_44 () (by first | (rw [hon, sdS_n]; split <;> first | rfl | (exfalso; omega)) | (rw [sdS_h]; (repeat' split) <;> first | rfl | (exfalso; omega))) rfl
  · exact absurd (by exact (okN_n (by omega) (by omega)).mpr (by omega)) c_3
set_option maxHeartbeats 4000000 in
set_option maxRecDepth 100000 in
theorem c_X3_timeOf (l : Launch) (D : va_G) (cI cC : ClassId) (a : Nat → Nat) (T : TT) (k mu tm dy : Nat) (b0 b1 : Nat) (w : List Nat) (G : Nat → Nat) (hT : TOK T) (hG : okW w G) (h1 : 1 ≤ w.length) (h8 : w.length ≤ 8) (hwn : ∀ q ∈ w, q < T 5 0) : XMi l yX3_timeOf wsX3_timeOf ({ frames := 2, cells := 0, slots := 0, locals := 43 } : Room) D (xT cI cC) xE0 ((wTown cI a T k mu tm dy) ++ (wWay cI b0 b1 w G)) [.ref (a 0), .ref b0] (S := Unit) (fun r _ => r = nI (tmS T w)) (fun _ => ((wTown cI a T k mu tm dy) ++ (wWay cI b0 b1 w G))) 0 0 := by
  refine xMet_i (cc := cX3_timeOf) (nL := 4) (ret := some .int) (by decide +kernel) rfl (Nat.le_of_ble_eq_true rfl) (fun κ A h0 hn0 hE => ?_)
  have hiX4 : ∀ w ∈ u_ws RX4 TX4 3, w ∈ wsX3_timeOf := by decide +kernel
  refine xlv (lv' := [(0, .ref (a 0)), (1, .ref b0)]) [0, 1] rfl ?_
  have hn := hT.1
  have hlw := hT.2.1
  refine xiconst (v := (nI 0)) h0 dX3_timeOf_0 (by decide) ?_
  refine xistore_n (lv' := [(2, .int (nI 0)), (0, .ref (a 0)), (1, .ref b0)]) h0 dX3_timeOf_1 rfl (by decide) rfl ?_
  refine xiconst (v := (nI 1)) h0 dX3_timeOf_2 (by decide) ?_
  refine xistore_n (lv' := [(3, .int (nI 1)), (2, .int (nI 0)), (0, .ref (a 0)), (1, .ref b0)]) h0 dX3_timeOf_3 rfl (by decide) rfl ?_
  have lp : ∀ (d_ : Nat) (i v : Nat), (9 - i ≤ d_) → (1 ≤ i) → (i ≤ w.length) → (v = lgS T w i) → XG κ 4 D (xT cI cC) A (xQi (S := Unit) κ D (xT cI cC) A (fun r _ => r = nI (tmS T w)) (fun _ => ((wTown cI a T k mu tm dy) ++ (wWay cI b0 b1 w G))) 0 0) ((wTown cI a T k mu tm dy) ++ (wWay cI b0 b1 w G)) 0 0 4 [(0, .ref (a 0)), (1, .ref b0), (2, .int (nI v)), (3, .int (nI i))] [] := by
    intro d_
    induction d_ with
    | zero => intro i v hm_ hi1 hi hv; exact absurd hm_ (by omega)
    | succ d_ ih_lp =>
      intro i v hm_ hi1 hi hv
      refine xiload_n h0 3 dX3_timeOf_4 rfl rfl ?_
      refine xaload_n h0 1 dX3_timeOf_5 rfl rfl ?_
      refine xgetN (C := RX4) (T := TX4) (N := 3) (ci := 4) (host := "AskAnotherFirst") (v := .int (nI ((w).length))) h0 hiX4 9 rfl rfl 1 (by decide) (List.mem_of_getElem? (i := 12) rfl) rfl dX3_timeOf_6 ?_
      refine xncmp_ge (tgt := 45) h0 dX3_timeOf_9 (by decide) (by omega) (by omega) (fun c_1 => ?_) (fun c_1 => ?_)
      · skip
        refine xiconst (v := (nI 2)) h0 dX3_timeOf_45 (by decide) ?_
        refine xiload_n h0 2 dX3_timeOf_46 rfl rfl ?_
        refine ximul (v := (nI (2 * v))) h0 dX3_timeOf_47 (pk_mul _ _) ?_
        exact xiret h0 dX3_timeOf_48 () (by rw [hv, show i = w.length by omega]; rfl) rfl
      · skip
        refine xiload_n h0 3 dX3_timeOf_12 rfl rfl ?_
        refine xbipush (v := (nI 8)) h0 dX3_timeOf_13 (by decide) ?_
        refine xncmp_ge (tgt := 45) h0 dX3_timeOf_15 (by decide) (by omega) (by omega) (fun c_2 => ?_) (fun c_2 => ?_)
        · exact absurd c_2 (by omega)
        · skip
          refine xiload_n h0 2 dX3_timeOf_18 rfl rfl ?_
          refine xaload_n h0 0 dX3_timeOf_19 rfl rfl ?_
          refine xaload_n h0 1 dX3_timeOf_20 rfl rfl ?_
          refine xgetN (C := RX4) (T := TX4) (N := 3) (ci := 4) (host := "AskAnotherFirst") (v := .ref b1) h0 hiX4 9 rfl rfl 0 (by decide) (List.mem_of_getElem? (i := 9) rfl) rfl dX3_timeOf_21 ?_
          refine xiload_n h0 3 dX3_timeOf_24 rfl rfl ?_
          refine xiconst (v := (nI 1)) h0 dX3_timeOf_25 (by decide) ?_
          refine xisub (v := (nI (i - 1))) h0 dX3_timeOf_26 (pk_sub (by omega)) ?_
          refine xiald (v := (nI (w.getD (i - 1) 0))) h0 10 0 rfl rfl (by omega) (by decide) dX3_timeOf_27 (by rw [hG _ (by omega)]) ?_
          refine xaload_n h0 1 dX3_timeOf_28 rfl rfl ?_
          refine xgetN (C := RX4) (T := TX4) (N := 3) (ci := 4) (host := "AskAnotherFirst") (v := .ref b1) h0 hiX4 9 rfl rfl 0 (by decide) (List.mem_of_getElem? (i := 9) rfl) rfl dX3_timeOf_29 ?_
          refine xiload_n h0 3 dX3_timeOf_32 rfl rfl ?_
          refine xiald (v := (nI (w.getD i 0))) h0 10 0 rfl rfl (by omega) (by decide) dX3_timeOf_33 (by rw [hG _ (by omega)]) ?_
          refine xcallV_i (nn := 2) (w2 := fun u_ => ((wTown cI a T k mu tm dy) ++ (wWay cI b0 b1 w G))) (wr := [(b0, .inr (4, [.ref b1, .int (nI ((w).length)), .int (nI (mskL (w)))])), (b1, .inl (cI, 8, .inl (fun i => nI (G i))))]) (rest := [.int (nI v)]) h0 (c_X3_minutesFrom (xL κ) D cI cC a T k mu tm dy (w.getD (i - 1) 0) (w.getD i 0) (by omega) (by exact hwn _ (getD_mem (by omega))) (by exact hwn _ (getD_mem (by omega)))) gX3_timeOf_X3_minutesFrom (by decide +kernel) rfl rfl rfl ⟨Nat.le_of_ble_eq_true rfl, Nat.le_of_ble_eq_true rfl⟩ ⟨by decide, by decide⟩ (fun _ _ _ _ h => h) (fun _ _ _ _ _ _ _ => trivial) rfl (Nat.le_of_ble_eq_true rfl) (q0 := 0) rfl rfl rfl [0, 1, 2, 3, 4, 5, 6, 7, 8] [9, 10] [2, 3, 4, 5, 6, 7, 8, 9, 10, 0, 1] ⟨rfl, rfl, rfl, rfl, rfl⟩ (fun _ => ⟨rfl, rfl⟩) dX3_timeOf_34 (fun r_4 u_ hr_3 => ?_)
          subst hr_3
          refine xiadd (v := (nI (v + (T 4 (8 * (w.getD (i - 1) 0) + (w.getD i 0)))))) h0 dX3_timeOf_37 (nI_add _ _) ?_
          refine xistore_n (lv' := [(2, .int (nI (v + (T 4 (8 * (w.getD (i - 1) 0) + (w.getD i 0)))))), (0, .ref (a 0)), (1, .ref b0), (3, .int (nI i))]) h0 dX3_timeOf_38 rfl (by decide) rfl ?_
          refine xiinc (v := (nI (i + 1))) (lv' := [(3, .int (nI (i + 1))), (2, .int (nI (v + (T 4 (8 * (w.getD (i - 1) 0) + (w.getD i 0)))))), (0, .ref (a 0)), (1, .ref b0)]) h0 3 dX3_timeOf_39 rfl (nI_add _ _) (by decide) rfl ?_
          refine xgoto (tgt := 4) h0 dX3_timeOf_42 (by decide) ?_
          refine xlv [2, 3, 1, 0] rfl ?_
          exact ih_lp (i + 1) (v + (T 4 (8 * (w.getD (i - 1) 0) + (w.getD i 0)))) (by omega) (by omega) (by omega) (by rw [lgS, if_neg (by omega), hv])
  refine xlv [2, 3, 1, 0] rfl ?_
  exact lp (9) 1 0 (by omega) (by omega) (by omega) (by rfl)
set_option maxHeartbeats 4000000 in
set_option maxRecDepth 100000 in
theorem c_X3_rightOf (l : Launch) (D : va_G) (cI cC : ClassId) (a : Nat → Nat) (T : TT) (k mu tm dy : Nat) (b0 b1 : Nat) (w : List Nat) (G : Nat → Nat) (hT : TOK T) (hG : okW w G) (h1 : 1 ≤ w.length) (h8 : w.length ≤ 8) (hwn : ∀ q ∈ w, q < T 5 0) : XMi l yX3_rightOf wsX3_rightOf ({ frames := 2, cells := 0, slots := 0, locals := 45 } : Room) D (xT cI cC) xE0 ((wTown cI a T k mu tm dy) ++ (wWay cI b0 b1 w G)) [.ref (a 0), .ref b0] (S := Unit) (fun r _ => r = nI (rgS T w)) (fun _ => ((wTown cI a T k mu tm dy) ++ (wWay cI b0 b1 w G))) 0 0 := by
  refine xMet_i (cc := cX3_rightOf) (nL := 4) (ret := some .int) (by decide +kernel) rfl (Nat.le_of_ble_eq_true rfl) (fun κ A h0 hn0 hE => ?_)
  have hiX4 : ∀ w ∈ u_ws RX4 TX4 3, w ∈ wsX3_rightOf := by decide +kernel
  refine xlv (lv' := [(0, .ref (a 0)), (1, .ref b0)]) [0, 1] rfl ?_
  have hn := hT.1
  have hlw := hT.2.1
  refine xiconst (v := (-1)) h0 dX3_rightOf_0 (by decide) ?_
  refine xistore_n (lv' := [(2, .int (-1)), (0, .ref (a 0)), (1, .ref b0)]) h0 dX3_rightOf_1 rfl (by decide) rfl ?_
  refine xaload_n h0 2 dX3_rightOf_2 rfl rfl ?_
  refine xgetN (C := RX4) (T := TX4) (N := 3) (ci := 4) (host := "AskAnotherFirst") (v := .int (nI ((w).length))) h0 hiX4 9 rfl rfl 1 (by decide) (List.mem_of_getElem? (i := 12) rfl) rfl dX3_rightOf_3 ?_
  refine xiconst (v := (nI 1)) h0 dX3_rightOf_6 (by decide) ?_
  refine xisub (v := (oJ w.length)) h0 dX3_rightOf_7 (oJ_sub h1) ?_
  refine xistore_n (lv' := [(3, .int (oJ w.length)), (2, .int (-1)), (0, .ref (a 0)), (1, .ref b0)]) h0 dX3_rightOf_8 rfl (by decide) rfl ?_
  have lp : ∀ (d_ : Nat) (j : Nat) (o : Option Nat), (j + 1 ≤ d_) → (j ≤ w.length) → (o = rtS T (w.drop j)) → XG κ 4 D (xT cI cC) A (xQi (S := Unit) κ D (xT cI cC) A (fun r _ => r = nI (rgS T w)) (fun _ => ((wTown cI a T k mu tm dy) ++ (wWay cI b0 b1 w G))) 0 0) ((wTown cI a T k mu tm dy) ++ (wWay cI b0 b1 w G)) 0 0 9 [(0, .ref (a 0)), (1, .ref b0), (2, .int (oI o)), (3, .int (oJ j))] [] := by
    intro d_
    induction d_ with
    | zero => intro j o hm_ hj ho; exact absurd hm_ (by omega)
    | succ d_ ih_lp =>
      intro j o hm_ hj ho
      refine xiload_n h0 3 dX3_rightOf_9 rfl rfl ?_
      refine xif_lt (tgt := 30) h0 dX3_rightOf_10 (by decide)  (fun c_1 => ?_) (fun c_1 => ?_)
      · skip
        have hj0 : j = 0 := oJ_neg (by omega) c_1
        refine xiload_n h0 2 dX3_rightOf_30 rfl rfl ?_
        exact xiret h0 dX3_rightOf_31 () (by rw [ho, hj0]; exact oI_rt h1) rfl
      · skip
        obtain ⟨i, rfl⟩ := oJ_pos c_1
        refine xaload_n h0 0 dX3_rightOf_13 rfl rfl ?_
        refine xaload_n h0 1 dX3_rightOf_14 rfl rfl ?_
        refine xiload_n h0 3 dX3_rightOf_15 rfl rfl ?_
        refine xcallV_i (nn := 1) (w2 := fun u_ => ((wTown cI a T k mu tm dy) ++ (wWay cI b0 b1 w G))) (wr := [(a 0, .inr (3, [.ref (a 1), .ref (a 2), .ref (a 3), .ref (a 4), .ref (a 5), .ref (a 6), .ref (a 7), .ref (a 8), .int (nI (T 5 0)), .int (nI (T 5 1)), .int (nI k), .int (nI tm), .int (nI dy)])), (a 1, .inl (cI, 8, .inl (fun i => nI (T 0 i)))), (a 2, .inl (cI, 8, .inl (fun i => nI (T 1 i)))), (a 3, .inl (cI, 8, .inl (fun i => nI (T 2 i)))), (a 4, .inl (cI, 8, .inl (fun i => nI (T 3 i)))), (a 5, .inl (cI, 8, .inl (fun i => nI (mtS T i)))), (a 6, .inl (cI, 8, .inl (fun i => nI (rcS T mu i)))), (a 7, .inl (cI, 8, .inl (fun i => nI (bkS T i)))), (a 8, .inl (cI, 64, .inl (fun i => nI (T 4 i))))]) (rest := [.ref (a 0)]) h0 (c_X4_answerAt (xL κ) D cI cC b0 b1 w G (nI i) hG (by omega)) gX3_rightOf_X4_answerAt (by decide +kernel) rfl rfl rfl ⟨Nat.le_of_ble_eq_true rfl, Nat.le_of_ble_eq_true rfl⟩ ⟨by decide, by decide⟩ (fun _ _ _ _ h => h) (fun _ _ _ _ _ _ _ => trivial) rfl (Nat.le_of_ble_eq_true rfl) (q0 := 0) rfl rfl rfl [9, 10] [0, 1, 2, 3, 4, 5, 6, 7, 8] [0, 1, 2, 3, 4, 5, 6, 7, 8, 9, 10] ⟨rfl, rfl, rfl, rfl, rfl⟩ (fun _ => ⟨rfl, rfl⟩) dX3_rightOf_16 (fun r_3 u_ hr_2 => ?_)
        subst hr_2
        refine xtop (v' := nI (w.getD i 0)) (ansW_i (by omega) (by omega)) ?_
        refine xiload_n h0 2 dX3_rightOf_19 rfl rfl ?_
        refine xcallV_i (nn := 2) (w2 := fun u_ => ((wTown cI a T k mu tm dy) ++ (wWay cI b0 b1 w G))) (wr := [(b0, .inr (4, [.ref b1, .int (nI ((w).length)), .int (nI (mskL (w)))])), (b1, .inl (cI, 8, .inl (fun i => nI (G i))))]) (rest := []) h0 (c_X3_said (xL κ) D cI cC a T k mu tm dy (w.getD i 0) o hT (by exact hwn _ (getD_mem (by omega))) (by intro z e; exact rtS_le hT _ z (ho ▸ e))) gX3_rightOf_X3_said (by decide +kernel) rfl rfl rfl ⟨Nat.le_of_ble_eq_true rfl, Nat.le_of_ble_eq_true rfl⟩ ⟨by decide, by decide⟩ (fun _ _ _ _ h => h) (fun _ _ _ _ _ _ _ => trivial) rfl (Nat.le_of_ble_eq_true rfl) (q0 := 0) rfl rfl rfl [0, 1, 2, 3, 4, 5, 6, 7, 8] [9, 10] [2, 3, 4, 5, 6, 7, 8, 9, 10, 0, 1] ⟨rfl, rfl, rfl, rfl, rfl⟩ (fun _ => ⟨rfl, rfl⟩) dX3_rightOf_20 (fun r_5 u_ hr_4 => ?_)
        subst hr_4
        refine xistore_n (lv' := [(2, .int (nI (sdS T (w.getD i 0) o))), (0, .ref (a 0)), (1, .ref b0), (3, .int (nI i))]) h0 dX3_rightOf_23 rfl (by decide) rfl ?_
        refine xiinc (v := (oJ i)) (lv' := [(3, .int (oJ i)), (2, .int (nI (sdS T (w.getD i 0) o))), (0, .ref (a 0)), (1, .ref b0)]) h0 3 dX3_rightOf_24 rfl (oJ_pred _) (by decide) rfl ?_
        refine xgoto (tgt := 9) h0 dX3_rightOf_27 (by decide) ?_
        refine xlv [2, 3, 1, 0] rfl ?_
        exact ih_lp i (some (sdS T (w.getD i 0) o)) (by omega) (by omega) (by rw [drop_at (show i < w.length by omega), rtS, ← ho])
  refine xlv [2, 3, 1, 0] rfl ?_
  exact lp (w.length + 1) w.length none (by omega) (by omega) (by rw [List.drop_length]; rfl)
set_option maxHeartbeats 4000000 in
set_option maxRecDepth 100000 in
theorem c_X3_follow (l : Launch) (D : va_G) (cI cC : ClassId) (a : Nat → Nat) (T : TT) (k mu tm dy : Nat) (b0 b1 : Nat) (w0 : List Nat) (G0 : Nat → Nat) (p : Nat) (hT : TOK T) (hp : p < T 5 0) (hk : k < 256) : XMv l yX3_follow wsX3_follow ({ frames := 4, cells := 0, slots := 0, locals := 102 } : Room) D (xT cI cC) xE0 ((wTown cI a T k mu tm dy) ++ (wWay cI b0 b1 w0 G0)) [.ref (a 0), .int (nI p), .ref b0] (S := Nat → Nat) (fun G2 => okW (wkS T p k mu) G2) (fun G2 => wTown cI a T k mu tm dy ++ wWay cI b0 b1 (wkS T p k mu) G2) 0 0 := by
  refine xMet_v (cc := cX3_follow) (nL := 5)  (by decide +kernel) rfl (Nat.le_of_ble_eq_true rfl) (fun κ A h0 hn0 hE => ?_)
  have hiX4 : ∀ w ∈ u_ws RX4 TX4 3, w ∈ wsX3_follow := by decide +kernel
  refine xlv (lv' := [(0, .ref (a 0)), (1, .int (nI p)), (2, .ref b0)]) [0, 1, 2] rfl ?_
  have hn := hT.1
  have hlw := hT.2.1
  refine xaload_n h0 2 dX3_follow_0 rfl rfl ?_
  refine xcallV_v (nn := 0) (w2 := fun G_1 => ((wTown cI a T k mu tm dy) ++ (wWay cI b0 b1 ([]) G_1))) (wr := [(a 0, .inr (3, [.ref (a 1), .ref (a 2), .ref (a 3), .ref (a 4), .ref (a 5), .ref (a 6), .ref (a 7), .ref (a 8), .int (nI (T 5 0)), .int (nI (T 5 1)), .int (nI k), .int (nI tm), .int (nI dy)])), (a 1, .inl (cI, 8, .inl (fun i => nI (T 0 i)))), (a 2, .inl (cI, 8, .inl (fun i => nI (T 1 i)))), (a 3, .inl (cI, 8, .inl (fun i => nI (T 2 i)))), (a 4, .inl (cI, 8, .inl (fun i => nI (T 3 i)))), (a 5, .inl (cI, 8, .inl (fun i => nI (mtS T i)))), (a 6, .inl (cI, 8, .inl (fun i => nI (rcS T mu i)))), (a 7, .inl (cI, 8, .inl (fun i => nI (bkS T i)))), (a 8, .inl (cI, 64, .inl (fun i => nI (T 4 i))))]) (rest := []) h0 (c_X4_clear (xL κ) D cI cC b0 b1 w0 G0 ) gX3_follow_X4_clear (by decide +kernel) rfl rfl rfl ⟨Nat.le_of_ble_eq_true rfl, Nat.le_of_ble_eq_true rfl⟩ ⟨by decide, by decide⟩ (fun _ _ _ _ h => h) (fun _ _ _ _ _ _ _ => trivial) rfl (Nat.le_of_ble_eq_true rfl) (q0 := 0) rfl rfl rfl [9, 10] [0, 1, 2, 3, 4, 5, 6, 7, 8] [0, 1, 2, 3, 4, 5, 6, 7, 8, 9, 10] ⟨rfl, rfl, rfl, rfl, rfl⟩ (fun _ => ⟨rfl, rfl⟩) dX3_follow_1 (fun G_1 hG_2 => ?_)
  refine xiload_n h0 1 dX3_follow_4 rfl rfl ?_
  refine xistore_n (lv' := [(3, .int (nI p)), (0, .ref (a 0)), (1, .int (nI p)), (2, .ref b0)]) h0 dX3_follow_5 rfl (by decide) rfl ?_
  refine xiconst (v := (nI 0)) h0 dX3_follow_6 (by decide) ?_
  refine xistore (lv' := [(4, .int (nI 0)), (3, .int (nI p)), (0, .ref (a 0)), (1, .int (nI p)), (2, .ref b0)]) h0 dX3_follow_7 (by decide) rfl ?_
  have lp : ∀ (d_ : Nat) (i : Nat) (o : Option Nat) (w : List Nat) (G : Nat → Nat), (9 - i ≤ d_) → (i ≤ 8) → (w.length = i) → (∀ z ∈ w, z < 8) → (∀ z, o = some z → z < T 5 0) → (goO T k mu (8 - i) w o = wkS T p k mu) → (okW w G) → XG κ 5 D (xT cI cC) A (xQv (S := Nat → Nat) κ D (xT cI cC) A (fun G2 => okW (wkS T p k mu) G2) (fun G2 => wTown cI a T k mu tm dy ++ wWay cI b0 b1 (wkS T p k mu) G2) 0 0) ((wTown cI a T k mu tm dy) ++ (wWay cI b0 b1 w G)) 0 0 9 [(0, .ref (a 0)), (1, .int (nI p)), (2, .ref b0), (3, .int (oI o)), (4, .int (nI i))] [] := by
    intro d_
    induction d_ with
    | zero => intro i o w G hm_ hi hl hw ho hr hG; exact absurd hm_ (by omega)
    | succ d_ ih_lp =>
      intro i o w G hm_ hi hl hw ho hr hG
      refine xiload h0 4 dX3_follow_9 rfl ?_
      refine xbipush (v := (nI 8)) h0 dX3_follow_11 (by decide) ?_
      refine xncmp_ge (tgt := 42) h0 dX3_follow_13 (by decide) (by omega) (by omega) (fun c_4 => ?_) (fun c_4 => ?_)
      · skip
        have ew : w = wkS T p k mu := by rw [← hr, show 8 - i = 0 by omega]; cases o <;> rfl
        subst ew
        exact xvret h0 dX3_follow_42 G (by exact hG) rfl
      · skip
        refine xiload_n h0 3 dX3_follow_16 rfl rfl ?_
        refine xiconst (v := (-1)) h0 dX3_follow_17 (by decide) ?_
        refine xicmp_eq (tgt := 42) h0 dX3_follow_18 (by decide)  (fun c_5 => ?_) (fun c_5 => ?_)
        · skip
          have hon : o = none := oI_m (fun z e => by have := ho z e; omega) c_5
          have ew : w = wkS T p k mu := by rw [← hr, hon]; rfl
          subst ew
          exact xvret h0 dX3_follow_42 G (by exact hG) rfl
        · skip
          obtain ⟨q, hoq⟩ := oI_s c_5
          subst hoq
          have hq := ho q rfl
          have hw2 : ∀ z ∈ w ++ [q], z < 8 := fun z hz => by rcases List.mem_append.mp hz with e | e; exact hw z e; rw [List.mem_singleton.mp e]; omega
          refine xaload_n h0 2 dX3_follow_21 rfl rfl ?_
          refine xiload_n h0 3 dX3_follow_22 rfl rfl ?_
          refine xcallV_v (nn := 1) (w2 := fun G_6 => ((wTown cI a T k mu tm dy) ++ (wWay cI b0 b1 (w ++ [q]) G_6))) (wr := [(a 0, .inr (3, [.ref (a 1), .ref (a 2), .ref (a 3), .ref (a 4), .ref (a 5), .ref (a 6), .ref (a 7), .ref (a 8), .int (nI (T 5 0)), .int (nI (T 5 1)), .int (nI k), .int (nI tm), .int (nI dy)])), (a 1, .inl (cI, 8, .inl (fun i => nI (T 0 i)))), (a 2, .inl (cI, 8, .inl (fun i => nI (T 1 i)))), (a 3, .inl (cI, 8, .inl (fun i => nI (T 2 i)))), (a 4, .inl (cI, 8, .inl (fun i => nI (T 3 i)))), (a 5, .inl (cI, 8, .inl (fun i => nI (mtS T i)))), (a 6, .inl (cI, 8, .inl (fun i => nI (rcS T mu i)))), (a 7, .inl (cI, 8, .inl (fun i => nI (bkS T i)))), (a 8, .inl (cI, 64, .inl (fun i => nI (T 4 i))))]) (rest := []) h0 (c_X4_add (xL κ) D cI cC b0 b1 w G q hG (by omega) (by omega)) gX3_follow_X4_add (by decide +kernel) rfl rfl rfl ⟨Nat.le_of_ble_eq_true rfl, Nat.le_of_ble_eq_true rfl⟩ ⟨by decide, by decide⟩ (fun _ _ _ _ h => h) (fun _ _ _ _ _ _ _ => trivial) rfl (Nat.le_of_ble_eq_true rfl) (q0 := 0) rfl rfl rfl [9, 10] [0, 1, 2, 3, 4, 5, 6, 7, 8] [0, 1, 2, 3, 4, 5, 6, 7, 8, 9, 10] ⟨rfl, rfl, rfl, rfl, rfl⟩ (fun _ => ⟨rfl, rfl⟩) dX3_follow_23 (fun G_6 hG_7 => ?_)
          refine xaload_n h0 0 dX3_follow_26 rfl rfl ?_
          refine xiload_n h0 3 dX3_follow_27 rfl rfl ?_
          refine xaload_n h0 2 dX3_follow_28 rfl rfl ?_
          refine xgetN (C := RX4) (T := TX4) (N := 3) (ci := 4) (host := "AskAnotherFirst") (v := .int (nI (mskL (w ++ [q])))) h0 hiX4 9 rfl rfl 2 (by decide) (List.mem_of_getElem? (i := 15) rfl) rfl dX3_follow_29 ?_
          refine xcallV_i (nn := 2) (w2 := fun u_ => ((wTown cI a T k mu tm dy) ++ (wWay cI b0 b1 (w ++ [q]) G_6))) (wr := [(b0, .inr (4, [.ref b1, .int (nI ((w ++ [q]).length)), .int (nI (mskL (w ++ [q])))])), (b1, .inl (cI, 8, .inl (fun i => nI (G_6 i))))]) (rest := []) h0 (c_X3_nextOf (xL κ) D cI cC a T k mu tm dy q (mskL (w ++ [q])) hT (by exact hq) (by exact mskL_lt _ hw2) (by exact cd_msk hw2) (by omega)) gX3_follow_X3_nextOf (by decide +kernel) rfl rfl rfl ⟨Nat.le_of_ble_eq_true rfl, Nat.le_of_ble_eq_true rfl⟩ ⟨by decide, by decide⟩ (fun _ _ _ _ h => h) (fun _ _ _ _ _ _ _ => trivial) rfl (Nat.le_of_ble_eq_true rfl) (q0 := 0) rfl rfl rfl [0, 1, 2, 3, 4, 5, 6, 7, 8] [9, 10] [2, 3, 4, 5, 6, 7, 8, 9, 10, 0, 1] ⟨rfl, rfl, rfl, rfl, rfl⟩ (fun _ => ⟨rfl, rfl⟩) dX3_follow_32 (fun r_10 u_ hr_9 => ?_)
          subst hr_9
          refine xistore_n (lv' := [(3, .int (oI (nextS T q (mskL (w ++ [q])) k mu))), (0, .ref (a 0)), (1, .int (nI p)), (2, .ref b0), (4, .int (nI i))]) h0 dX3_follow_35 rfl (by decide) rfl ?_
          refine xiinc (v := (nI (i + 1))) (lv' := [(4, .int (nI (i + 1))), (3, .int (oI (nextS T q (mskL (w ++ [q])) k mu))), (0, .ref (a 0)), (1, .int (nI p)), (2, .ref b0)]) h0 4 dX3_follow_36 rfl (nI_add _ _) (by decide) rfl ?_
          refine xgoto (tgt := 9) h0 dX3_follow_39 (by decide) ?_
          refine xlv [2, 3, 4, 1, 0] rfl ?_
          exact ih_lp (i + 1) (nextS T q (mskL (w ++ [q])) k mu) (w ++ [q]) G_6 (by omega) (by omega) (by rw [List.length_append, List.length_singleton, hl]) (by exact hw2) (by intro z e; exact (nextS_in e).1) (by rw [← hr, show 8 - i = (8 - (i + 1)) + 1 by omega]; exact (goS_s T k mu _ w q).symm) (by exact hG_7)
  refine xlv [2, 3, 4, 1, 0] rfl ?_
  exact lp (9) 0 (some p) ([]) G_1 (by omega) (by omega) (by rfl) (by intro z hz; cases hz) (by intro z e; cases e; exact hp) (by rfl) (by exact hG_2)
