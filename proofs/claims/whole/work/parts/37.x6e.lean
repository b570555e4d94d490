/-! THE REFERENCE: what is asked of it -/
theorem wh2_0 {v : Int32} (h : v < 0 ∨ nI 2 < v) : wh2 v = 0 := if_pos h
theorem wh2_1 {v : Int32} (h : ¬ v < 0) (h2 : v ≤ nI 2) : 0 < wh2 v := by unfold wh2; rw [if_neg (fun z => z.elim h (fun y => absurd h2 (Int32.not_le.mpr y)))]; decide
theorem ge0_0 {v : Int32} (h : v < 0) : ge0 v = 0 := if_pos h
theorem ge0_1 {v : Int32} (h : ¬ v < 0) : 0 < ge0 v := by unfold ge0; rw [if_neg h]; decide
theorem gem_0 {v : Int32} (h : v < (-1)) : gem v = 0 := if_pos h
theorem gem_1 {v : Int32} (h : ¬ v < (-1)) : 0 < gem v := by unfold gem; rw [if_neg h]; decide
theorem i32_lt1 {v : Int32} (h : ¬ v < (-1)) (h2 : v < 0) : v = (-1) := by
  have e1 : (-1 : Int32).toInt = -1 := by decide
  have e0 : (0 : Int32).toInt = 0 := by decide
  rw [Int32.lt_iff_toInt_lt, e1] at h
  rw [Int32.lt_iff_toInt_lt, e0] at h2
  exact Int32.toInt_inj.mp (by rw [e1]; omega)
theorem i32_01 {v : Int32} (h : ¬ v < 0) (h2 : v ≤ nI 1) : v = 0 ∨ v = nI 1 := by
  have e0 : (0 : Int32).toInt = 0 := by decide
  have e1 : (nI 1).toInt = 1 := by decide
  rw [Int32.lt_iff_toInt_lt, e0] at h
  rw [Int32.le_iff_toInt_le, e1] at h2
  rcases (show v.toInt = 0 ∨ v.toInt = 1 by omega) with z | z
  · exact Or.inl (Int32.toInt_inj.mp (by rw [z, e0]))
  · exact Or.inr (Int32.toInt_inj.mp (by rw [z, e1]))
theorem wh1_1 {v : Int32} (h : ¬ v < 0) (h2 : v ≤ nI 1) : 0 < wh1 v := by unfold wh1; rw [if_pos (i32_01 h h2)]; decide
theorem wh1_0 {v : Int32} (h : v < 0 ∨ nI 1 < v) : wh1 v = 0 := by
  unfold wh1
  refine if_neg (fun z => ?_)
  rcases z with z | z
  · subst z; revert h; decide
  · subst z; revert h; decide
theorem i32_2 {v : Int32} (h : ¬ v < 0) (h2 : v ≤ nI 2) (h3 : v ≠ 0) (h4 : v ≠ nI 1) : v = nI 2 := by
  have e0 : (0 : Int32).toInt = 0 := by decide
  have e1 : (nI 1).toInt = 1 := by decide
  have e2 : (nI 2).toInt = 2 := by decide
  rw [Int32.lt_iff_toInt_lt, e0] at h
  rw [Int32.le_iff_toInt_le, e2] at h2
  rw [Ne, ← Int32.toInt_inj, e0] at h3
  rw [Ne, ← Int32.toInt_inj, e1] at h4
  exact Int32.toInt_inj.mp (by rw [e2]; omega)
theorem ge_of {v : Int32} (h : ¬ v < 0) : 0 ≤ v := Int32.not_lt.mp h
theorem fwS_some (T : TT) (t : Nat) (F : List (List Nat)) : fwS T (some t) F = flS T (some t) F := rfl
theorem alS_ne {T : TT} (hT : TOK T) {p : Nat} (k : Nat) (hp : p < T 5 0) : alS T k p ≠ [] := by unfold alS; exact al_ne hT k 8 8 [] p (okP_nil T) hp (by simp) rfl
theorem alS_8 {T : TT} (hT : TOK T) {p : Nat} (k o : Nat) (hp : p < T 5 0) : (bestS T o (alS T k p)).length ≤ 8 := bestS_len (al_ok hT k hp)

set_option maxHeartbeats 4000000 in
set_option maxRecDepth 100000 in
theorem c_X6_may (l : Launch) (D : va_G) (cI cC : ClassId) (md : Nat → Nat) (T : TT) (k tm dy : Nat) (P : TT) (pk ptm pdy hpi : Nat) (tg : Nat → Nat) (tl : Nat) (R : Nat → Nat) (sg : Nat → Nat) (sl : Nat) (u0 : ScmT) (x : Int32) (hT : TOK T) (hk : k < 256) (hP : TOK P) (hpk : pk < 256) (htl : tl ≤ 8) (hsl : sl ≤ 64) (hhp : hpi < 2) (htg : ∀ i, tg i ≤ 9) : XMi l yX6_may wsX6_may ({ frames := 3, cells := 0, slots := 0, locals := 73 } : Room) D (xT cI cC) xE0 (wM cI cC md T k tm dy P pk ptm pdy hpi tg tl R sg sl u0) [.ref (md 1), .int x] (S := ScmT) (fun r _ => r = sel (rfC (T 5 0) k x 1 0) (nI (mayS T (xn x) (2 ^ xn x) k 8)) (-(nI (rfC (T 5 0) k x 1 0)))) (fun u => wM cI cC md T k tm dy P pk ptm pdy hpi tg tl (bmp R (rfC (T 5 0) k x 1 0)) sg sl u) 0 0 := by
  refine xMet_i (cc := cX6_may) (nL := 2) (ret := some .int) (by decide +kernel) rfl (Nat.le_of_ble_eq_true rfl) (fun κ A h0 hn0 hE => ?_)
  have hiX6 : ∀ w ∈ u_ws RX6 TX6 52, w ∈ wsX6_may := by decide +kernel
  refine xlv (lv' := [(0, .ref (md 1)), (1, .int x)]) [0, 1] rfl ?_
  have hn := hT.1
  refine xaload_n h0 0 dX6_may_0 rfl rfl ?_
  refine xiload_n h0 1 dX6_may_1 rfl rfl ?_
  refine xcallV_i (nn := 1) (w2 := fun u_ => (wM cI cC md T k tm dy P pk ptm pdy hpi tg tl R sg sl u0)) (wr := []) (rest := []) h0 (c_X6_isNobody (xL κ) D cI cC md T k tm dy P pk ptm pdy hpi tg tl R sg sl u0 x (by omega)) gX6_may_X6_isNobody (by decide +kernel) rfl rfl rfl ⟨Nat.le_of_ble_eq_true rfl, Nat.le_of_ble_eq_true rfl⟩ ⟨by decide, by decide⟩ (fun _ _ _ _ h => h) (fun _ _ _ _ _ _ _ => trivial) rfl (Nat.le_of_ble_eq_true rfl) (q0 := 0) rfl rfl rfl [0, 1, 2, 3, 4, 5, 6, 7, 8, 9, 10, 11, 12, 13, 14, 15, 16, 17, 18, 19, 20, 21] [] [0, 1, 2, 3, 4, 5, 6, 7, 8, 9, 10, 11, 12, 13, 14, 15, 16, 17, 18, 19, 20, 21] ⟨rfl, rfl, rfl, rfl, rfl⟩ (fun _ => ⟨rfl, rfl⟩) dX6_may_2 (fun r_2 u_ hr_1 => ?_)
  subst hr_1
  refine xbif_eq (tgt := 14) h0 dX6_may_5 (by decide)  (fun c_3 => ?_) (fun c_3 => ?_)
  · skip
    obtain ⟨p, hp, hxp⟩ := okN_of hn (Decidable.of_not_not c_3)
    subst hxp
    have hp8 : p < 8 := by omega
    have hok : okN (T 5 0) (nI p) := (okN_n hn (by omega)).mpr hp
    refine xaload_n h0 0 dX6_may_14 rfl rfl ?_
    refine xget (C := RX6) (T := TX6) (N := 52) (ci := 6) (v := .int (nI k)) h0 hiX6 0 rfl rfl 3 (by decide) (List.mem_of_getElem? (i := 1) rfl) rfl dX6_may_15 ?_
    refine xiload_n h0 1 dX6_may_18 rfl rfl ?_
    refine xcallS_i (nn := 2) (w2 := fun u_ => (wM cI cC md T k tm dy P pk ptm pdy hpi tg tl R sg sl u0)) (wr := [(md 1, .inr (6, [.ref (md 0), .int (nI (T 5 0)), .int (nI (T 5 1)), .int (nI k), .int (nI tm), .int (nI dy), .ref (md 6), .ref (md 7), .ref (md 8), .ref (md 9), .ref (md 10), .int (nI hpi), .int (nI (P 5 0)), .int (nI (P 5 1)), .int (nI pk), .int (nI ptm), .int (nI pdy), .ref (md 17), .ref (md 18), .ref (md 19), .ref (md 20), .ref (md 21), .ref (md 22), .int (nI sl), .int (nI (u0.1 24)), .int (nI (u0.1 25)), .ref (md 26), .ref (md 27), .ref (md 28), .int (nI (u0.1 29)), .ref (md 30), .ref (md 31), .int (nI (u0.1 32)), .int (nI (u0.1 33)), .int (nI (u0.1 34)), .int (oI u0.2.2), .int (nI (u0.1 36)), .int (nI (u0.1 37)), .int (nI (u0.1 38)), .int (nI (u0.1 39)), .ref (md 40), .int (nI (u0.1 41)), .int (nI (u0.1 42)), .int (nI (u0.1 43)), .ref (md 44), .int (nI (u0.1 45)), .int (nI (u0.1 46)), .ref (md 47), .int (nI (u0.1 48)), .int (nI (u0.1 49)), .ref (md 50), .int (nI tl)])), (md 0, .inl (cI, 7, .inl (fun i_ => nI (R i_)))), (md 6, .inl (cI, 8, .inl (fun i_ => nI (T 0 i_)))), (md 7, .inl (cI, 8, .inl (fun i_ => nI (T 1 i_)))), (md 8, .inl (cI, 8, .inl (fun i_ => nI (T 2 i_)))), (md 9, .inl (cI, 8, .inl (fun i_ => nI (T 3 i_)))), (md 10, .inl (cI, 64, .inl (fun i_ => nI (T 4 i_)))), (md 17, .inl (cI, 8, .inl (fun i_ => nI (P 0 i_)))), (md 18, .inl (cI, 8, .inl (fun i_ => nI (P 1 i_)))), (md 19, .inl (cI, 8, .inl (fun i_ => nI (P 2 i_)))), (md 20, .inl (cI, 8, .inl (fun i_ => nI (P 3 i_)))), (md 21, .inl (cI, 64, .inl (fun i_ => nI (P 4 i_)))), (md 22, .inl (cI, 64, .inl (fun i_ => nI (sg i_)))), (md 26, .inl (cC, 4, .inl (fun i_ => nI (sortsN i_)))), (md 27, .inl (cC, 5, .inl (fun i_ => nI (askersN i_)))), (md 28, .inl (cC, 5, .inl (fun i_ => nI (sayersN i_)))), (md 30, .inl (cI, 4, .inl (fun i_ => nI ((u0.2.1 30) i_)))), (md 31, .inl (cI, 8, .inl (fun i_ => nI ((u0.2.1 31) i_)))), (md 40, .inl (cI, 8, .inl (fun i_ => nI ((u0.2.1 40) i_)))), (md 44, .inl (cI, 8, .inl (fun i_ => nI ((u0.2.1 44) i_)))), (md 47, .inl (cI, 8, .inl (fun i_ => nI ((u0.2.1 47) i_)))), (md 50, .inl (cI, 8, .inl (fun i_ => nI (tg i_))))]) (rest := []) h0 (c_X6_isIn (xL κ) D cI cC k p (by omega) (by omega)) gX6_may_X6_isIn (by decide +kernel) rfl rfl rfl ⟨Nat.le_of_ble_eq_true rfl, Nat.le_of_ble_eq_true rfl⟩ ⟨by decide, by decide⟩ (fun _ _ _ _ h => h) (fun _ _ _ _ _ _ _ => trivial) rfl (Nat.le_of_ble_eq_true rfl) rfl [] [0, 1, 2, 3, 4, 5, 6, 7, 8, 9, 10, 11, 12, 13, 14, 15, 16, 17, 18, 19, 20, 21] [0, 1, 2, 3, 4, 5, 6, 7, 8, 9, 10, 11, 12, 13, 14, 15, 16, 17, 18, 19, 20, 21] ⟨rfl, rfl, rfl, rfl, rfl⟩ (fun _ => ⟨rfl, rfl⟩) dX6_may_19 (fun r_5 u_ hr_4 => ?_)
    subst hr_4
    refine xbif_eq (tgt := 32) h0 dX6_may_22 (by decide)  (fun c_6 => ?_) (fun c_6 => ?_)
    · skip
      have hC : rfC (T 5 0) k (nI p) 1 0 = 0 := rfC_z hok (by decide) (by rw [xn_n (by omega)]; exact c_6)
      have hkp : ¬ k.testBit p = true := c_6
      refine xaload_n h0 0 dX6_may_32 rfl rfl ?_
      refine xiload_n h0 1 dX6_may_33 rfl rfl ?_
      refine xiconst (v := (nI 1)) h0 dX6_may_34 (by decide) ?_
      refine xiload_n h0 1 dX6_may_35 rfl rfl ?_
      refine xishl (v := (nI (2 ^ p))) h0 dX6_may_36 (nI_shl1 p (by omega)) ?_
      refine xaload_n h0 0 dX6_may_37 rfl rfl ?_
      refine xget (C := RX6) (T := TX6) (N := 52) (ci := 6) (v := .int (nI k)) h0 hiX6 0 rfl rfl 3 (by decide) (List.mem_of_getElem? (i := 1) rfl) rfl dX6_may_38 ?_
      refine xiconst (v := (-1)) h0 dX6_may_41 (by decide) ?_
      refine xcallV_i (nn := 4) (w2 := fun u_ => (wM cI cC md T k tm dy P pk ptm pdy hpi tg tl R sg sl u0)) (wr := []) (rest := []) h0 (c_X6_mayTo (xL κ) D cI cC md T k tm dy P pk ptm pdy hpi tg tl R sg sl u0 p (2 ^ p) k 8 (-1) hT (by omega) (by exact pw_lt256 hp8) (by exact cd_pw hp8) (by omega) mx_8) gX6_may_X6_mayTo (by decide +kernel) rfl rfl rfl ⟨Nat.le_of_ble_eq_true rfl, Nat.le_of_ble_eq_true rfl⟩ ⟨by decide, by decide⟩ (fun _ _ _ _ h => h) (fun _ _ _ _ _ _ _ => trivial) rfl (Nat.le_of_ble_eq_true rfl) (q0 := 0) rfl rfl rfl [0, 1, 2, 3, 4, 5, 6, 7, 8, 9, 10, 11, 12, 13, 14, 15, 16, 17, 18, 19, 20, 21] [] [0, 1, 2, 3, 4, 5, 6, 7, 8, 9, 10, 11, 12, 13, 14, 15, 16, 17, 18, 19, 20, 21] ⟨rfl, rfl, rfl, rfl, rfl⟩ (fun _ => ⟨rfl, rfl⟩) dX6_may_42 (fun r_8 u_ hr_7 => ?_)
      subst hr_7
      exact xiret h0 dX6_may_45 u0 (by rw [hC, sel_0, xn_n (by omega)]; first | done | (rfl)) (by rw [hC]; first | done | rfl)
    · skip
      have hC : rfC (T 5 0) k (nI p) 1 0 = 3 := rfC_3 hok (by decide) (by rw [xn_n (by omega)]; exact c_6)
      refine xaload_n h0 0 dX6_may_25 rfl rfl ?_
      refine xbipush (v := (-3)) h0 dX6_may_26 (by decide) ?_
      refine xcallV_i (nn := 1) (w2 := fun u_ => (wM cI cC md T k tm dy P pk ptm pdy hpi tg tl (upN R 3 (R 3 + 1)) sg sl u0)) (wr := []) (rest := []) h0 (c_X6_no (xL κ) D cI cC md T k tm dy P pk ptm pdy hpi tg tl R sg sl u0 3 (by omega)) gX6_may_X6_no (by decide +kernel) rfl rfl rfl ⟨Nat.le_of_ble_eq_true rfl, Nat.le_of_ble_eq_true rfl⟩ ⟨by decide, by decide⟩ (fun _ _ _ _ h => h) (fun _ _ _ _ _ _ _ => trivial) rfl (Nat.le_of_ble_eq_true rfl) (q0 := 0) rfl rfl rfl [0, 1, 2, 3, 4, 5, 6, 7, 8, 9, 10, 11, 12, 13, 14, 15, 16, 17, 18, 19, 20, 21] [] [0, 1, 2, 3, 4, 5, 6, 7, 8, 9, 10, 11, 12, 13, 14, 15, 16, 17, 18, 19, 20, 21] ⟨rfl, rfl, rfl, rfl, rfl⟩ (fun _ => ⟨rfl, rfl⟩) dX6_may_28 (fun r_10 u_ hr_9 => ?_)
      subst hr_9
      exact xiret h0 dX6_may_31 u0 (by rw [hC, sel_n (by decide)]) (by rw [hC]; first | done | rfl)
  · skip
    have hC : rfC (T 5 0) k x 1 0 = 1 := rfC_1 c_3
    refine xaload_n h0 0 dX6_may_8 rfl rfl ?_
    refine xiconst (v := (-1)) h0 dX6_may_9 (by decide) ?_
    refine xcallV_i (nn := 1) (w2 := fun u_ => (wM cI cC md T k tm dy P pk ptm pdy hpi tg tl (upN R 1 (R 1 + 1)) sg sl u0)) (wr := []) (rest := []) h0 (c_X6_no (xL κ) D cI cC md T k tm dy P pk ptm pdy hpi tg tl R sg sl u0 1 (by omega)) gX6_may_X6_no (by decide +kernel) rfl rfl rfl ⟨Nat.le_of_ble_eq_true rfl, Nat.le_of_ble_eq_true rfl⟩ ⟨by decide, by decide⟩ (fun _ _ _ _ h => h) (fun _ _ _ _ _ _ _ => trivial) rfl (Nat.le_of_ble_eq_true rfl) (q0 := 0) rfl rfl rfl [0, 1, 2, 3, 4, 5, 6, 7, 8, 9, 10, 11, 12, 13, 14, 15, 16, 17, 18, 19, 20, 21] [] [0, 1, 2, 3, 4, 5, 6, 7, 8, 9, 10, 11, 12, 13, 14, 15, 16, 17, 18, 19, 20, 21] ⟨rfl, rfl, rfl, rfl, rfl⟩ (fun _ => ⟨rfl, rfl⟩) dX6_may_10 (fun r_12 u_ hr_11 => ?_)
    subst hr_11
    exact xiret h0 dX6_may_13 u0 (by rw [hC, sel_n (by decide)]) (by rw [hC]; first | done | rfl)
set_option maxHeartbeats 4000000 in
set_option maxRecDepth 100000 in
theorem c_X6_ask (l : Launch) (D : va_G) (cI cC : ClassId) (md : Nat → Nat) (T : TT) (k tm dy : Nat) (P : TT) (pk ptm pdy hpi : Nat) (tg : Nat → Nat) (tl : Nat) (R : Nat → Nat) (sg : Nat → Nat) (sl : Nat) (u0 : ScmT) (x : Int32) (hT : TOK T) (hk : k < 256) (hP : TOK P) (hpk : pk < 256) (htl : tl ≤ 8) (hsl : sl ≤ 64) (hhp : hpi < 2) (htg : ∀ i, tg i ≤ 9) : XMi l yX6_ask wsX6_ask ({ frames := 5, cells := 0, slots := 0, locals := 130 } : Room) D (xT cI cC) xE0 (wM cI cC md T k tm dy P pk ptm pdy hpi tg tl R sg sl u0) [.ref (md 1), .int x] (S := ScmT) (fun r _ => r = sel (rfC (T 5 0) k x 1 0) (nI (rgS T (wkS T (xn x) k 8))) (-(nI (rfC (T 5 0) k x 1 0)))) (fun u => wM cI cC md T (sel (rfC (T 5 0) k x 1 0) (k ||| mskL (wkS T (xn x) k 8)) k) (sel (rfC (T 5 0) k x 1 0) (tm + tmS T (wkS T (xn x) k 8)) tm) dy P pk ptm pdy hpi tg tl (bmp R (rfC (T 5 0) k x 1 0)) sg sl u) 0 0 := by
  refine xMet_i (cc := cX6_ask) (nL := 2) (ret := some .int) (by decide +kernel) rfl (Nat.le_of_ble_eq_true rfl) (fun κ A h0 hn0 hE => ?_)
  have hiX6 : ∀ w ∈ u_ws RX6 TX6 52, w ∈ wsX6_ask := by decide +kernel
  refine xlv (lv' := [(0, .ref (md 1)), (1, .int x)]) [0, 1] rfl ?_
  have hn := hT.1
  refine xaload_n h0 0 dX6_ask_0 rfl rfl ?_
  refine xiload_n h0 1 dX6_ask_1 rfl rfl ?_
  refine xcallV_i (nn := 1) (w2 := fun u_ => (wM cI cC md T k tm dy P pk ptm pdy hpi tg tl R sg sl u0)) (wr := []) (rest := []) h0 (c_X6_isNobody (xL κ) D cI cC md T k tm dy P pk ptm pdy hpi tg tl R sg sl u0 x (by omega)) gX6_ask_X6_isNobody (by decide +kernel) rfl rfl rfl ⟨Nat.le_of_ble_eq_true rfl, Nat.le_of_ble_eq_true rfl⟩ ⟨by decide, by decide⟩ (fun _ _ _ _ h => h) (fun _ _ _ _ _ _ _ => trivial) rfl (Nat.le_of_ble_eq_true rfl) (q0 := 0) rfl rfl rfl [0, 1, 2, 3, 4, 5, 6, 7, 8, 9, 10, 11, 12, 13, 14, 15, 16, 17, 18, 19, 20, 21] [] [0, 1, 2, 3, 4, 5, 6, 7, 8, 9, 10, 11, 12, 13, 14, 15, 16, 17, 18, 19, 20, 21] ⟨rfl, rfl, rfl, rfl, rfl⟩ (fun _ => ⟨rfl, rfl⟩) dX6_ask_2 (fun r_2 u_ hr_1 => ?_)
  subst hr_1
  refine xbif_eq (tgt := 14) h0 dX6_ask_5 (by decide)  (fun c_3 => ?_) (fun c_3 => ?_)
  · skip
    obtain ⟨p, hp, hxp⟩ := okN_of hn (Decidable.of_not_not c_3)
    subst hxp
    have hp8 : p < 8 := by omega
    have hok : okN (T 5 0) (nI p) := (okN_n hn (by omega)).mpr hp
    refine xaload_n h0 0 dX6_ask_14 rfl rfl ?_
    refine xget (C := RX6) (T := TX6) (N := 52) (ci := 6) (v := .int (nI k)) h0 hiX6 0 rfl rfl 3 (by decide) (List.mem_of_getElem? (i := 1) rfl) rfl dX6_ask_15 ?_
    refine xiload_n h0 1 dX6_ask_18 rfl rfl ?_
    refine xcallS_i (nn := 2) (w2 := fun u_ => (wM cI cC md T k tm dy P pk ptm pdy hpi tg tl R sg sl u0)) (wr := [(md 1, .inr (6, [.ref (md 0), .int (nI (T 5 0)), .int (nI (T 5 1)), .int (nI k), .int (nI tm), .int (nI dy), .ref (md 6), .ref (md 7), .ref (md 8), .ref (md 9), .ref (md 10), .int (nI hpi), .int (nI (P 5 0)), .int (nI (P 5 1)), .int (nI pk), .int (nI ptm), .int (nI pdy), .ref (md 17), .ref (md 18), .ref (md 19), .ref (md 20), .ref (md 21), .ref (md 22), .int (nI sl), .int (nI (u0.1 24)), .int (nI (u0.1 25)), .ref (md 26), .ref (md 27), .ref (md 28), .int (nI (u0.1 29)), .ref (md 30), .ref (md 31), .int (nI (u0.1 32)), .int (nI (u0.1 33)), .int (nI (u0.1 34)), .int (oI u0.2.2), .int (nI (u0.1 36)), .int (nI (u0.1 37)), .int (nI (u0.1 38)), .int (nI (u0.1 39)), .ref (md 40), .int (nI (u0.1 41)), .int (nI (u0.1 42)), .int (nI (u0.1 43)), .ref (md 44), .int (nI (u0.1 45)), .int (nI (u0.1 46)), .ref (md 47), .int (nI (u0.1 48)), .int (nI (u0.1 49)), .ref (md 50), .int (nI tl)])), (md 0, .inl (cI, 7, .inl (fun i_ => nI (R i_)))), (md 6, .inl (cI, 8, .inl (fun i_ => nI (T 0 i_)))), (md 7, .inl (cI, 8, .inl (fun i_ => nI (T 1 i_)))), (md 8, .inl (cI, 8, .inl (fun i_ => nI (T 2 i_)))), (md 9, .inl (cI, 8, .inl (fun i_ => nI (T 3 i_)))), (md 10, .inl (cI, 64, .inl (fun i_ => nI (T 4 i_)))), (md 17, .inl (cI, 8, .inl (fun i_ => nI (P 0 i_)))), (md 18, .inl (cI, 8, .inl (fun i_ => nI (P 1 i_)))), (md 19, .inl (cI, 8, .inl (fun i_ => nI (P 2 i_)))), (md 20, .inl (cI, 8, .inl (fun i_ => nI (P 3 i_)))), (md 21, .inl (cI, 64, .inl (fun i_ => nI (P 4 i_)))), (md 22, .inl (cI, 64, .inl (fun i_ => nI (sg i_)))), (md 26, .inl (cC, 4, .inl (fun i_ => nI (sortsN i_)))), (md 27, .inl (cC, 5, .inl (fun i_ => nI (askersN i_)))), (md 28, .inl (cC, 5, .inl (fun i_ => nI (sayersN i_)))), (md 30, .inl (cI, 4, .inl (fun i_ => nI ((u0.2.1 30) i_)))), (md 31, .inl (cI, 8, .inl (fun i_ => nI ((u0.2.1 31) i_)))), (md 40, .inl (cI, 8, .inl (fun i_ => nI ((u0.2.1 40) i_)))), (md 44, .inl (cI, 8, .inl (fun i_ => nI ((u0.2.1 44) i_)))), (md 47, .inl (cI, 8, .inl (fun i_ => nI ((u0.2.1 47) i_)))), (md 50, .inl (cI, 8, .inl (fun i_ => nI (tg i_))))]) (rest := []) h0 (c_X6_isIn (xL κ) D cI cC k p (by omega) (by omega)) gX6_ask_X6_isIn (by decide +kernel) rfl rfl rfl ⟨Nat.le_of_ble_eq_true rfl, Nat.le_of_ble_eq_true rfl⟩ ⟨by decide, by decide⟩ (fun _ _ _ _ h => h) (fun _ _ _ _ _ _ _ => trivial) rfl (Nat.le_of_ble_eq_true rfl) rfl [] [0, 1, 2, 3, 4, 5, 6, 7, 8, 9, 10, 11, 12, 13, 14, 15, 16, 17, 18, 19, 20, 21] [0, 1, 2, 3, 4, 5, 6, 7, 8, 9, 10, 11, 12, 13, 14, 15, 16, 17, 18, 19, 20, 21] ⟨rfl, rfl, rfl, rfl, rfl⟩ (fun _ => ⟨rfl, rfl⟩) dX6_ask_19 (fun r_5 u_ hr_4 => ?_)
    subst hr_4
    refine xbif_eq (tgt := 32) h0 dX6_ask_22 (by decide)  (fun c_6 => ?_) (fun c_6 => ?_)
    · skip
      have hC : rfC (T 5 0) k (nI p) 1 0 = 0 := rfC_z hok (by decide) (by rw [xn_n (by omega)]; exact c_6)
      have hkp : ¬ k.testBit p = true := c_6
      refine xaload_n h0 0 dX6_ask_32 rfl rfl ?_
      refine xiload_n h0 1 dX6_ask_33 rfl rfl ?_
      refine xaload_n h0 0 dX6_ask_34 rfl rfl ?_
      refine xget (C := RX6) (T := TX6) (N := 52) (ci := 6) (v := .int (nI k)) h0 hiX6 0 rfl rfl 3 (by decide) (List.mem_of_getElem? (i := 1) rfl) rfl dX6_ask_35 ?_
      refine xiconst (v := (-1)) h0 dX6_ask_38 (by decide) ?_
      refine xcallV_v (nn := 3) (w2 := fun G_7 => (wM cI cC md T k tm dy P pk ptm pdy hpi tg tl R sg sl (upN u0.1 32 ((wkS T p k 8).length), upA u0.2.1 31 G_7, u0.2.2))) (wr := []) (rest := []) h0 (c_X6_go (xL κ) D cI cC md T k tm dy P pk ptm pdy hpi tg tl R sg sl u0 p k 8 (-1) hT (by omega) (by omega) mx_8) gX6_ask_X6_go (by decide +kernel) rfl rfl rfl ⟨Nat.le_of_ble_eq_true rfl, Nat.le_of_ble_eq_true rfl⟩ ⟨by decide, by decide⟩ (fun _ _ _ _ h => h) (fun _ _ _ _ _ _ _ => trivial) rfl (Nat.le_of_ble_eq_true rfl) (q0 := 0) rfl rfl rfl [0, 1, 2, 3, 4, 5, 6, 7, 8, 9, 10, 11, 12, 13, 14, 15, 16, 17, 18, 19, 20, 21] [] [0, 1, 2, 3, 4, 5, 6, 7, 8, 9, 10, 11, 12, 13, 14, 15, 16, 17, 18, 19, 20, 21] ⟨rfl, rfl, rfl, rfl, rfl⟩ (fun _ => ⟨rfl, rfl⟩) dX6_ask_39 (fun G_7 hG_8 => ?_)
      refine xaload_n h0 0 dX6_ask_42 rfl rfl ?_
      refine xdup h0 dX6_ask_43 rfl ?_
      refine xget (C := RX6) (T := TX6) (N := 52) (ci := 6) (v := .int (nI k)) h0 hiX6 0 rfl rfl 3 (by decide) (List.mem_of_getElem? (i := 1) rfl) rfl dX6_ask_44 ?_
      refine xaload_n h0 0 dX6_ask_47 rfl rfl ?_
      refine xcallV_i (nn := 0) (w2 := fun u_ => (wM cI cC md T k tm dy P pk ptm pdy hpi tg tl R sg sl (upN u0.1 32 ((wkS T p k 8).length), upA u0.2.1 31 G_7, u0.2.2))) (wr := []) (rest := [.int (nI k), .ref (md 1)]) h0 (c_X6_onWay (xL κ) D cI cC md T k tm dy P pk ptm pdy hpi tg tl R sg sl (upN u0.1 32 ((wkS T p k 8).length), upA u0.2.1 31 G_7, u0.2.2) (wkS T p k 8) G_7 hT hG_8 (by exact wk_1 _ _ _ _) (by exact wk_8 hT hp) (by exact wk_n hT hp)) gX6_ask_X6_onWay (by decide +kernel) rfl rfl rfl ⟨Nat.le_of_ble_eq_true rfl, Nat.le_of_ble_eq_true rfl⟩ ⟨by decide, by decide⟩ (fun _ _ _ _ h => h) (fun _ _ _ _ _ _ _ => trivial) rfl (Nat.le_of_ble_eq_true rfl) (q0 := 0) rfl rfl rfl [0, 1, 2, 3, 4, 5, 6, 7, 8, 9, 10, 11, 12, 13, 14, 15, 16, 17, 18, 19, 20, 21] [] [0, 1, 2, 3, 4, 5, 6, 7, 8, 9, 10, 11, 12, 13, 14, 15, 16, 17, 18, 19, 20, 21] ⟨rfl, rfl, rfl, rfl, rfl⟩ (fun _ => ⟨rfl, rfl⟩) dX6_ask_48 (fun r_11 u_ hr_10 => ?_)
      subst hr_10
      refine xior (v := (nI (k ||| (mskL (wkS T p k 8))))) h0 dX6_ask_51 (nx_or _ _) ?_
      refine xput (ws' := (wM cI cC md T (k ||| (mskL (wkS T p k 8))) tm dy P pk ptm pdy hpi tg tl R sg sl (upN u0.1 32 ((wkS T p k 8).length), upA u0.2.1 31 G_7, u0.2.2))) (C := RX6) (T := TX6) (N := 52) (ci := 6) (ty := tyX6 3) h0 hiX6 tyX6 tyX6_ok nmX6 0 rfl rfl 3 (by decide) (List.mem_of_getElem? (i := 1) rfl) rfl (by decide +kernel) (rfl) (rfl) (Nat.le_of_ble_eq_true rfl) dX6_ask_52 rfl ?_
      refine xaload_n h0 0 dX6_ask_55 rfl rfl ?_
      refine xdup h0 dX6_ask_56 rfl ?_
      refine xget (C := RX6) (T := TX6) (N := 52) (ci := 6) (v := .int (nI tm)) h0 hiX6 0 rfl rfl 4 (by decide) (List.mem_of_getElem? (i := 2) rfl) rfl dX6_ask_57 ?_
      refine xaload_n h0 0 dX6_ask_60 rfl rfl ?_
      refine xcallV_i (nn := 0) (w2 := fun u_ => (wM cI cC md T (k ||| (mskL (wkS T p k 8))) tm dy P pk ptm pdy hpi tg tl R sg sl (upN u0.1 32 ((wkS T p k 8).length), upA u0.2.1 31 G_7, u0.2.2))) (wr := []) (rest := [.int (nI tm), .ref (md 1)]) h0 (c_X6_time (xL κ) D cI cC md T (k ||| (mskL (wkS T p k 8))) tm dy P pk ptm pdy hpi tg tl R sg sl (upN u0.1 32 ((wkS T p k 8).length), upA u0.2.1 31 G_7, u0.2.2) (wkS T p k 8) G_7 hT hG_8 (by exact wk_1 _ _ _ _) (by exact wk_8 hT hp) (by exact wk_n hT hp)) gX6_ask_X6_time (by decide +kernel) rfl rfl rfl ⟨Nat.le_of_ble_eq_true rfl, Nat.le_of_ble_eq_true rfl⟩ ⟨by decide, by decide⟩ (fun _ _ _ _ h => h) (fun _ _ _ _ _ _ _ => trivial) rfl (Nat.le_of_ble_eq_true rfl) (q0 := 0) rfl rfl rfl [0, 1, 2, 3, 4, 5, 6, 7, 8, 9, 10, 11, 12, 13, 14, 15, 16, 17, 18, 19, 20, 21] [] [0, 1, 2, 3, 4, 5, 6, 7, 8, 9, 10, 11, 12, 13, 14, 15, 16, 17, 18, 19, 20, 21] ⟨rfl, rfl, rfl, rfl, rfl⟩ (fun _ => ⟨rfl, rfl⟩) dX6_ask_61 (fun r_13 u_ hr_12 => ?_)
      subst hr_12
      refine xiadd (v := (nI (tm + (tmS T (wkS T p k 8))))) h0 dX6_ask_64 (nI_add _ _) ?_
      refine xput (ws' := (wM cI cC md T (k ||| (mskL (wkS T p k 8))) (tm + (tmS T (wkS T p k 8))) dy P pk ptm pdy hpi tg tl R sg sl (upN u0.1 32 ((wkS T p k 8).length), upA u0.2.1 31 G_7, u0.2.2))) (C := RX6) (T := TX6) (N := 52) (ci := 6) (ty := tyX6 4) h0 hiX6 tyX6 tyX6_ok nmX6 0 rfl rfl 4 (by decide) (List.mem_of_getElem? (i := 2) rfl) rfl (by decide +kernel) (rfl) (rfl) (Nat.le_of_ble_eq_true rfl) dX6_ask_65 rfl ?_
      refine xaload_n h0 0 dX6_ask_68 rfl rfl ?_
      refine xcallV_i (nn := 0) (w2 := fun u_ => (wM cI cC md T (k ||| (mskL (wkS T p k 8))) (tm + (tmS T (wkS T p k 8))) dy P pk ptm pdy hpi tg tl R sg sl (upN u0.1 32 ((wkS T p k 8).length), upA u0.2.1 31 G_7, u0.2.2))) (wr := []) (rest := []) h0 (c_X6_right (xL κ) D cI cC md T (k ||| (mskL (wkS T p k 8))) (tm + (tmS T (wkS T p k 8))) dy P pk ptm pdy hpi tg tl R sg sl (upN u0.1 32 ((wkS T p k 8).length), upA u0.2.1 31 G_7, u0.2.2) (wkS T p k 8) G_7 hT hG_8 (by exact wk_1 _ _ _ _) (by exact wk_8 hT hp) (by exact wk_n hT hp)) gX6_ask_X6_right (by decide +kernel) rfl rfl rfl ⟨Nat.le_of_ble_eq_true rfl, Nat.le_of_ble_eq_true rfl⟩ ⟨by decide, by decide⟩ (fun _ _ _ _ h => h) (fun _ _ _ _ _ _ _ => trivial) rfl (Nat.le_of_ble_eq_true rfl) (q0 := 0) rfl rfl rfl [0, 1, 2, 3, 4, 5, 6, 7, 8, 9, 10, 11, 12, 13, 14, 15, 16, 17, 18, 19, 20, 21] [] [0, 1, 2, 3, 4, 5, 6, 7, 8, 9, 10, 11, 12, 13, 14, 15, 16, 17, 18, 19, 20, 21] ⟨rfl, rfl, rfl, rfl, rfl⟩ (fun _ => ⟨rfl, rfl⟩) dX6_ask_69 (fun r_15 u_ hr_14 => ?_)
      subst hr_14
      exact xiret h0 dX6_ask_72 (upN u0.1 32 ((wkS T p k 8).length), upA u0.2.1 31 G_7, u0.2.2) (by rw [hC, sel_0, xn_n (by omega)]; first | done | (rfl)) (by rw [hC, sel_0, sel_0, xn_n (by omega)]; first | done | rfl)
    · skip
      have hC : rfC (T 5 0) k (nI p) 1 0 = 3 := rfC_3 hok (by decide) (by rw [xn_n (by omega)]; exact c_6)
      refine xaload_n h0 0 dX6_ask_25 rfl rfl ?_
      refine xbipush (v := (-3)) h0 dX6_ask_26 (by decide) ?_
      refine xcallV_i (nn := 1) (w2 := fun u_ => (wM cI cC md T k tm dy P pk ptm pdy hpi tg tl (upN R 3 (R 3 + 1)) sg sl u0)) (wr := []) (rest := []) h0 (c_X6_no (xL κ) D cI cC md T k tm dy P pk ptm pdy hpi tg tl R sg sl u0 3 (by omega)) gX6_ask_X6_no (by decide +kernel) rfl rfl rfl ⟨Nat.le_of_ble_eq_true rfl, Nat.le_of_ble_eq_true rfl⟩ ⟨by decide, by decide⟩ (fun _ _ _ _ h => h) (fun _ _ _ _ _ _ _ => trivial) rfl (Nat.le_of_ble_eq_true rfl) (q0 := 0) rfl rfl rfl [0, 1, 2, 3, 4, 5, 6, 7, 8, 9, 10, 11, 12, 13, 14, 15, 16, 17, 18, 19, 20, 21] [] [0, 1, 2, 3, 4, 5, 6, 7, 8, 9, 10, 11, 12, 13, 14, 15, 16, 17, 18, 19, 20, 21] ⟨rfl, rfl, rfl, rfl, rfl⟩ (fun _ => ⟨rfl, rfl⟩) dX6_ask_28 (fun r_17 u_ hr_16 => ?_)
      subst hr_16
      exact xiret h0 dX6_ask_31 u0 (by rw [hC, sel_n (by decide)]) (by rw [hC]; first | done | rfl)
  · skip
    have hC : rfC (T 5 0) k x 1 0 = 1 := rfC_1 c_3
    refine xaload_n h0 0 dX6_ask_8 rfl rfl ?_
    refine xiconst (v := (-1)) h0 dX6_ask_9 (by decide) ?_
    refine xcallV_i (nn := 1) (w2 := fun u_ => (wM cI cC md T k tm dy P pk ptm pdy hpi tg tl (upN R 1 (R 1 + 1)) sg sl u0)) (wr := []) (rest := []) h0 (c_X6_no (xL κ) D cI cC md T k tm dy P pk ptm pdy hpi tg tl R sg sl u0 1 (by omega)) gX6_ask_X6_no (by decide +kernel) rfl rfl rfl ⟨Nat.le_of_ble_eq_true rfl, Nat.le_of_ble_eq_true rfl⟩ ⟨by decide, by decide⟩ (fun _ _ _ _ h => h) (fun _ _ _ _ _ _ _ => trivial) rfl (Nat.le_of_ble_eq_true rfl) (q0 := 0) rfl rfl rfl [0, 1, 2, 3, 4, 5, 6, 7, 8, 9, 10, 11, 12, 13, 14, 15, 16, 17, 18, 19, 20, 21] [] [0, 1, 2, 3, 4, 5, 6, 7, 8, 9, 10, 11, 12, 13, 14, 15, 16, 17, 18, 19, 20, 21] ⟨rfl, rfl, rfl, rfl, rfl⟩ (fun _ => ⟨rfl, rfl⟩) dX6_ask_10 (fun r_19 u_ hr_18 => ?_)
    subst hr_18
    exact xiret h0 dX6_ask_13 u0 (by rw [hC, sel_n (by decide)]) (by rw [hC]; first | done | rfl)
set_option maxHeartbeats 4000000 in
set_option maxRecDepth 100000 in
theorem c_X6_day (l : Launch) (D : va_G) (cI cC : ClassId) (md : Nat → Nat) (T : TT) (k tm dy : Nat) (P : TT) (pk ptm pdy hpi : Nat) (tg : Nat → Nat) (tl : Nat) (R : Nat → Nat) (sg : Nat → Nat) (sl : Nat) (u0 : ScmT)  (hT : TOK T) (hk : k < 256) (hP : TOK P) (hpk : pk < 256) (htl : tl ≤ 8) (hsl : sl ≤ 64) (hhp : hpi < 2) (htg : ∀ i, tg i ≤ 9) : XMi l yX6_day wsX6_day ({ frames := 0, cells := 0, slots := 0, locals := 0 } : Room) D (xT cI cC) xE0 (wM cI cC md T k tm dy P pk ptm pdy hpi tg tl R sg sl u0) [.ref (md 1)] (S := ScmT) (fun r _ => r = nI (dy + 1)) (fun u => wM cI cC md T 0 0 (dy + 1) P pk ptm pdy hpi tg tl R sg sl u) 0 0 := by
  refine xMet_i (cc := cX6_day) (nL := 1) (ret := some .int) (by decide +kernel) rfl (Nat.le_of_ble_eq_true rfl) (fun κ A h0 hn0 hE => ?_)
  have hiX6 : ∀ w ∈ u_ws RX6 TX6 52, w ∈ wsX6_day := by decide +kernel
  refine xlv (lv' := [(0, .ref (md 1))]) [0] rfl ?_
  have hn := hT.1
  refine xaload_n h0 0 dX6_day_0 rfl rfl ?_
  refine xiconst (v := (nI 0)) h0 dX6_day_1 (by decide) ?_
  refine xput (ws' := (wM cI cC md T 0 tm dy P pk ptm pdy hpi tg tl R sg sl u0)) (C := RX6) (T := TX6) (N := 52) (ci := 6) (ty := tyX6 3) h0 hiX6 tyX6 tyX6_ok nmX6 0 rfl rfl 3 (by decide) (List.mem_of_getElem? (i := 1) rfl) rfl (by decide +kernel) (rfl) (rfl) (Nat.le_of_ble_eq_true rfl) dX6_day_2 rfl ?_
  refine xaload_n h0 0 dX6_day_5 rfl rfl ?_
  refine xiconst (v := (nI 0)) h0 dX6_day_6 (by decide) ?_
  refine xput (ws' := (wM cI cC md T 0 0 dy P pk ptm pdy hpi tg tl R sg sl u0)) (C := RX6) (T := TX6) (N := 52) (ci := 6) (ty := tyX6 4) h0 hiX6 tyX6 tyX6_ok nmX6 0 rfl rfl 4 (by decide) (List.mem_of_getElem? (i := 2) rfl) rfl (by decide +kernel) (rfl) (rfl) (Nat.le_of_ble_eq_true rfl) dX6_day_7 rfl ?_
  refine xaload_n h0 0 dX6_day_10 rfl rfl ?_
  refine xdup h0 dX6_day_11 rfl ?_
  refine xget (C := RX6) (T := TX6) (N := 52) (ci := 6) (v := .int (nI dy)) h0 hiX6 0 rfl rfl 5 (by decide) (List.mem_of_getElem? (i := 3) rfl) rfl dX6_day_12 ?_
  refine xiconst (v := (nI 1)) h0 dX6_day_15 (by decide) ?_
  refine xiadd (v := (nI (dy + 1))) h0 dX6_day_16 (nI_add _ _) ?_
  refine xput (ws' := (wM cI cC md T 0 0 (dy + 1) P pk ptm pdy hpi tg tl R sg sl u0)) (C := RX6) (T := TX6) (N := 52) (ci := 6) (ty := tyX6 5) h0 hiX6 tyX6 tyX6_ok nmX6 0 rfl rfl 5 (by decide) (List.mem_of_getElem? (i := 3) rfl) rfl (by decide +kernel) (rfl) (rfl) (Nat.le_of_ble_eq_true rfl) dX6_day_17 rfl ?_
  refine xaload_n h0 0 dX6_day_20 rfl rfl ?_
  refine xget (C := RX6) (T := TX6) (N := 52) (ci := 6) (v := .int (nI (dy + 1))) h0 hiX6 0 rfl rfl 5 (by decide) (List.mem_of_getElem? (i := 3) rfl) rfl dX6_day_21 ?_
  exact xiret h0 dX6_day_24 u0 (by rfl) rfl
set_option maxHeartbeats 4000000 in
set_option maxRecDepth 100000 in
theorem c_X6_run (l : Launch) (D : va_G) (cI cC : ClassId) (md : Nat → Nat) (T : TT) (k tm dy : Nat) (P : TT) (pk ptm pdy hpi : Nat) (tg : Nat → Nat) (tl : Nat) (R : Nat → Nat) (sg : Nat → Nat) (sl : Nat) (u0 : ScmT) (x v : Int32) (hT : TOK T) (hk : k < 256) (hP : TOK P) (hpk : pk < 256) (htl : tl ≤ 8) (hsl : sl ≤ 64) (hhp : hpi < 2) (htg : ∀ i, tg i ≤ 9) : XMi l yX6_run wsX6_run ({ frames := 5, cells := 0, slots := 0, locals := 130 } : Room) D (xT cI cC) xE0 (wM cI cC md T k tm dy P pk ptm pdy hpi tg tl R sg sl u0) [.ref (md 1), .int x, .int v] (S := ScmT) (fun r _ => r = sel (rfC (T 5 0) k x (wh2 v) 2) (ruS T k (xn x) v) (-(nI (rfC (T 5 0) k x (wh2 v) 2)))) (fun u => wM cI cC md T k tm dy P pk ptm pdy hpi tg tl (bmp R (rfC (T 5 0) k x (wh2 v) 2)) sg sl u) 0 0 := by
  refine xMet_i (cc := cX6_run) (nL := 3) (ret := some .int) (by decide +kernel) rfl (Nat.le_of_ble_eq_true rfl) (fun κ A h0 hn0 hE => ?_)
  have hiX6 : ∀ w ∈ u_ws RX6 TX6 52, w ∈ wsX6_run := by decide +kernel
  refine xlv (lv' := [(0, .ref (md 1)), (1, .int x), (2, .int v)]) [0, 1, 2] rfl ?_
  have hn := hT.1
  refine xaload_n h0 0 dX6_run_0 rfl rfl ?_
  refine xiload_n h0 1 dX6_run_1 rfl rfl ?_
  refine xcallV_i (nn := 1) (w2 := fun u_ => (wM cI cC md T k tm dy P pk ptm pdy hpi tg tl R sg sl u0)) (wr := []) (rest := []) h0 (c_X6_isNobody (xL κ) D cI cC md T k tm dy P pk ptm pdy hpi tg tl R sg sl u0 x (by omega)) gX6_run_X6_isNobody (by decide +kernel) rfl rfl rfl ⟨Nat.le_of_ble_eq_true rfl, Nat.le_of_ble_eq_true rfl⟩ ⟨by decide, by decide⟩ (fun _ _ _ _ h => h) (fun _ _ _ _ _ _ _ => trivial) rfl (Nat.le_of_ble_eq_true rfl) (q0 := 0) rfl rfl rfl [0, 1, 2, 3, 4, 5, 6, 7, 8, 9, 10, 11, 12, 13, 14, 15, 16, 17, 18, 19, 20, 21] [] [0, 1, 2, 3, 4, 5, 6, 7, 8, 9, 10, 11, 12, 13, 14, 15, 16, 17, 18, 19, 20, 21] ⟨rfl, rfl, rfl, rfl, rfl⟩ (fun _ => ⟨rfl, rfl⟩) dX6_run_2 (fun r_2 u_ hr_1 => ?_)
  subst hr_1
  refine xbif_eq (tgt := 14) h0 dX6_run_5 (by decide)  (fun c_3 => ?_) (fun c_3 => ?_)
  · skip
    obtain ⟨p, hp, hxp⟩ := okN_of hn (Decidable.of_not_not c_3)
    subst hxp
    have hp8 : p < 8 := by omega
    have hok : okN (T 5 0) (nI p) := (okN_n hn (by omega)).mpr hp
    refine xiload_n h0 2 dX6_run_14 rfl rfl ?_
    refine xif_lt (tgt := 23) h0 dX6_run_15 (by decide)  (fun c_4 => ?_) (fun c_4 => ?_)
    · skip
      have hC : rfC (T 5 0) k (nI p) (wh2 v) 2 = 2 := rfC_2 hok (wh2_0 (Or.inl c_4))
      refine xaload_n h0 0 dX6_run_23 rfl rfl ?_
      refine xbipush (v := (-2)) h0 dX6_run_24 (by decide) ?_
      refine xcallV_i (nn := 1) (w2 := fun u_ => (wM cI cC md T k tm dy P pk ptm pdy hpi tg tl (upN R 2 (R 2 + 1)) sg sl u0)) (wr := []) (rest := []) h0 (c_X6_no (xL κ) D cI cC md T k tm dy P pk ptm pdy hpi tg tl R sg sl u0 2 (by omega)) gX6_run_X6_no (by decide +kernel) rfl rfl rfl ⟨Nat.le_of_ble_eq_true rfl, Nat.le_of_ble_eq_true rfl⟩ ⟨by decide, by decide⟩ (fun _ _ _ _ h => h) (fun _ _ _ _ _ _ _ => trivial) rfl (Nat.le_of_ble_eq_true rfl) (q0 := 0) rfl rfl rfl [0, 1, 2, 3, 4, 5, 6, 7, 8, 9, 10, 11, 12, 13, 14, 15, 16, 17, 18, 19, 20, 21] [] [0, 1, 2, 3, 4, 5, 6, 7, 8, 9, 10, 11, 12, 13, 14, 15, 16, 17, 18, 19, 20, 21] ⟨rfl, rfl, rfl, rfl, rfl⟩ (fun _ => ⟨rfl, rfl⟩) dX6_run_26 (fun r_6 u_ hr_5 => ?_)
      subst hr_5
      exact xiret h0 dX6_run_29 u0 (by rw [hC, sel_n (by decide)]) (by rw [hC]; first | done | rfl)
    · skip
      refine xiload_n h0 2 dX6_run_18 rfl rfl ?_
      refine xiconst (v := (nI 2)) h0 dX6_run_19 (by decide) ?_
      refine xicmp_le (tgt := 30) h0 dX6_run_20 (by decide)  (fun c_7 => ?_) (fun c_7 => ?_)
      · skip
        have hgd := wh2_1 (by assumption) c_7
        refine xaload_n h0 0 dX6_run_30 rfl rfl ?_
        refine xget (C := RX6) (T := TX6) (N := 52) (ci := 6) (v := .int (nI k)) h0 hiX6 0 rfl rfl 3 (by decide) (List.mem_of_getElem? (i := 1) rfl) rfl dX6_run_31 ?_
        refine xiload_n h0 1 dX6_run_34 rfl rfl ?_
        refine xcallS_i (nn := 2) (w2 := fun u_ => (wM cI cC md T k tm dy P pk ptm pdy hpi tg tl R sg sl u0)) (wr := [(md 1, .inr (6, [.ref (md 0), .int (nI (T 5 0)), .int (nI (T 5 1)), .int (nI k), .int (nI tm), .int (nI dy), .ref (md 6), .ref (md 7), .ref (md 8), .ref (md 9), .ref (md 10), .int (nI hpi), .int (nI (P 5 0)), .int (nI (P 5 1)), .int (nI pk), .int (nI ptm), .int (nI pdy), .ref (md 17), .ref (md 18), .ref (md 19), .ref (md 20), .ref (md 21), .ref (md 22), .int (nI sl), .int (nI (u0.1 24)), .int (nI (u0.1 25)), .ref (md 26), .ref (md 27), .ref (md 28), .int (nI (u0.1 29)), .ref (md 30), .ref (md 31), .int (nI (u0.1 32)), .int (nI (u0.1 33)), .int (nI (u0.1 34)), .int (oI u0.2.2), .int (nI (u0.1 36)), .int (nI (u0.1 37)), .int (nI (u0.1 38)), .int (nI (u0.1 39)), .ref (md 40), .int (nI (u0.1 41)), .int (nI (u0.1 42)), .int (nI (u0.1 43)), .ref (md 44), .int (nI (u0.1 45)), .int (nI (u0.1 46)), .ref (md 47), .int (nI (u0.1 48)), .int (nI (u0.1 49)), .ref (md 50), .int (nI tl)])), (md 0, .inl (cI, 7, .inl (fun i_ => nI (R i_)))), (md 6, .inl (cI, 8, .inl (fun i_ => nI (T 0 i_)))), (md 7, .inl (cI, 8, .inl (fun i_ => nI (T 1 i_)))), (md 8, .inl (cI, 8, .inl (fun i_ => nI (T 2 i_)))), (md 9, .inl (cI, 8, .inl (fun i_ => nI (T 3 i_)))), (md 10, .inl (cI, 64, .inl (fun i_ => nI (T 4 i_)))), (md 17, .inl (cI, 8, .inl (fun i_ => nI (P 0 i_)))), (md 18, .inl (cI, 8, .inl (fun i_ => nI (P 1 i_)))), (md 19, .inl (cI, 8, .inl (fun i_ => nI (P 2 i_)))), (md 20, .inl (cI, 8, .inl (fun i_ => nI (P 3 i_)))), (md 21, .inl (cI, 64, .inl (fun i_ => nI (P 4 i_)))), (md 22, .inl (cI, 64, .inl (fun i_ => nI (sg i_)))), (md 26, .inl (cC, 4, .inl (fun i_ => nI (sortsN i_)))), (md 27, .inl (cC, 5, .inl (fun i_ => nI (askersN i_)))), (md 28, .inl (cC, 5, .inl (fun i_ => nI (sayersN i_)))), (md 30, .inl (cI, 4, .inl (fun i_ => nI ((u0.2.1 30) i_)))), (md 31, .inl (cI, 8, .inl (fun i_ => nI ((u0.2.1 31) i_)))), (md 40, .inl (cI, 8, .inl (fun i_ => nI ((u0.2.1 40) i_)))), (md 44, .inl (cI, 8, .inl (fun i_ => nI ((u0.2.1 44) i_)))), (md 47, .inl (cI, 8, .inl (fun i_ => nI ((u0.2.1 47) i_)))), (md 50, .inl (cI, 8, .inl (fun i_ => nI (tg i_))))]) (rest := []) h0 (c_X6_isIn (xL κ) D cI cC k p (by omega) (by omega)) gX6_run_X6_isIn (by decide +kernel) rfl rfl rfl ⟨Nat.le_of_ble_eq_true rfl, Nat.le_of_ble_eq_true rfl⟩ ⟨by decide, by decide⟩ (fun _ _ _ _ h => h) (fun _ _ _ _ _ _ _ => trivial) rfl (Nat.le_of_ble_eq_true rfl) rfl [] [0, 1, 2, 3, 4, 5, 6, 7, 8, 9, 10, 11, 12, 13, 14, 15, 16, 17, 18, 19, 20, 21] [0, 1, 2, 3, 4, 5, 6, 7, 8, 9, 10, 11, 12, 13, 14, 15, 16, 17, 18, 19, 20, 21] ⟨rfl, rfl, rfl, rfl, rfl⟩ (fun _ => ⟨rfl, rfl⟩) dX6_run_35 (fun r_9 u_ hr_8 => ?_)
        subst hr_8
        refine xbif_eq (tgt := 48) h0 dX6_run_38 (by decide)  (fun c_10 => ?_) (fun c_10 => ?_)
        · skip
          have hC : rfC (T 5 0) k (nI p) (wh2 v) 2 = 0 := rfC_z hok hgd (by rw [xn_n (by omega)]; exact c_10)
          have hkp : ¬ k.testBit p = true := c_10
          refine xaload_n h0 0 dX6_run_48 rfl rfl ?_
          refine xiload_n h0 1 dX6_run_49 rfl rfl ?_
          refine xaload_n h0 0 dX6_run_50 rfl rfl ?_
          refine xget (C := RX6) (T := TX6) (N := 52) (ci := 6) (v := .int (nI k)) h0 hiX6 0 rfl rfl 3 (by decide) (List.mem_of_getElem? (i := 1) rfl) rfl dX6_run_51 ?_
          refine xiconst (v := (-1)) h0 dX6_run_54 (by decide) ?_
          refine xcallV_v (nn := 3) (w2 := fun G_11 => (wM cI cC md T k tm dy P pk ptm pdy hpi tg tl R sg sl (upN u0.1 32 ((wkS T p k 8).length), upA u0.2.1 31 G_11, u0.2.2))) (wr := []) (rest := []) h0 (c_X6_go (xL κ) D cI cC md T k tm dy P pk ptm pdy hpi tg tl R sg sl u0 p k 8 (-1) hT (by omega) (by omega) mx_8) gX6_run_X6_go (by decide +kernel) rfl rfl rfl ⟨Nat.le_of_ble_eq_true rfl, Nat.le_of_ble_eq_true rfl⟩ ⟨by decide, by decide⟩ (fun _ _ _ _ h => h) (fun _ _ _ _ _ _ _ => trivial) rfl (Nat.le_of_ble_eq_true rfl) (q0 := 0) rfl rfl rfl [0, 1, 2, 3, 4, 5, 6, 7, 8, 9, 10, 11, 12, 13, 14, 15, 16, 17, 18, 19, 20, 21] [] [0, 1, 2, 3, 4, 5, 6, 7, 8, 9, 10, 11, 12, 13, 14, 15, 16, 17, 18, 19, 20, 21] ⟨rfl, rfl, rfl, rfl, rfl⟩ (fun _ => ⟨rfl, rfl⟩) dX6_run_55 (fun G_11 hG_12 => ?_)
          refine xiload_n h0 2 dX6_run_58 rfl rfl ?_
          refine xif_ne (tgt := 69) h0 dX6_run_59 (by decide)  (fun c_14 => ?_) (fun c_14 => ?_)
          · skip
            refine xiload_n h0 2 dX6_run_69 rfl rfl ?_
            refine xiconst (v := (nI 1)) h0 dX6_run_70 (by decide) ?_
            refine xicmp_ne (tgt := 81) h0 dX6_run_71 (by decide)  (fun c_15 => ?_) (fun c_15 => ?_)
            · skip
              refine xaload_n h0 0 dX6_run_81 rfl rfl ?_
              refine xget (C := RX6) (T := TX6) (N := 52) (ci := 6) (v := .int (nI ((wkS T p k 8).length))) h0 hiX6 0 rfl rfl 32 (by decide) (List.mem_of_getElem? (i := 2) rfl) rfl dX6_run_82 ?_
              exact xiret h0 dX6_run_85 (upN u0.1 32 ((wkS T p k 8).length), upA u0.2.1 31 G_11, u0.2.2) (by rw [hC, sel_0, xn_n (by omega)]; first | done | (unfold ruS; first | (rw [if_pos (by assumption)]; done) | (rw [if_neg (by assumption), if_pos (by assumption)]; done) | (rw [if_neg (by assumption), if_neg (by assumption)]; done))) (by rw [hC]; first | done | rfl)
            · skip
              refine xaload_n h0 0 dX6_run_74 rfl rfl ?_
              refine xcallV_i (nn := 0) (w2 := fun u_ => (wM cI cC md T k tm dy P pk ptm pdy hpi tg tl R sg sl (upN u0.1 32 ((wkS T p k 8).length), upA u0.2.1 31 G_11, u0.2.2))) (wr := []) (rest := []) h0 (c_X6_right (xL κ) D cI cC md T k tm dy P pk ptm pdy hpi tg tl R sg sl (upN u0.1 32 ((wkS T p k 8).length), upA u0.2.1 31 G_11, u0.2.2) (wkS T p k 8) G_11 hT hG_12 (by exact wk_1 _ _ _ _) (by exact wk_8 hT hp) (by exact wk_n hT hp)) gX6_run_X6_right (by decide +kernel) rfl rfl rfl ⟨Nat.le_of_ble_eq_true rfl, Nat.le_of_ble_eq_true rfl⟩ ⟨by decide, by decide⟩ (fun _ _ _ _ h => h) (fun _ _ _ _ _ _ _ => trivial) rfl (Nat.le_of_ble_eq_true rfl) (q0 := 0) rfl rfl rfl [0, 1, 2, 3, 4, 5, 6, 7, 8, 9, 10, 11, 12, 13, 14, 15, 16, 17, 18, 19, 20, 21] [] [0, 1, 2, 3, 4, 5, 6, 7, 8, 9, 10, 11, 12, 13, 14, 15, 16, 17, 18, 19, 20, 21] ⟨rfl, rfl, rfl, rfl, rfl⟩ (fun _ => ⟨rfl, rfl⟩) dX6_run_75 (fun r_17 u_ hr_16 => ?_)
              subst hr_16
              refine xgoto (tgt := 85) h0 dX6_run_78 (by decide) ?_
              exact xiret h0 dX6_run_85 (upN u0.1 32 ((wkS T p k 8).length), upA u0.2.1 31 G_11, u0.2.2) (by rw [hC, sel_0, xn_n (by omega)]; first | done | (unfold ruS; first | (rw [if_pos (by assumption)]; done) | (rw [if_neg (by assumption), if_pos (by assumption)]; done) | (rw [if_neg (by assumption), if_neg (by assumption)]; done))) (by rw [hC]; first | done | rfl)
          · skip
            refine xaload_n h0 0 dX6_run_62 rfl rfl ?_
            refine xcallV_i (nn := 0) (w2 := fun u_ => (wM cI cC md T k tm dy P pk ptm pdy hpi tg tl R sg sl (upN u0.1 32 ((wkS T p k 8).length), upA u0.2.1 31 G_11, u0.2.2))) (wr := []) (rest := []) h0 (c_X6_time (xL κ) D cI cC md T k tm dy P pk ptm pdy hpi tg tl R sg sl (upN u0.1 32 ((wkS T p k 8).length), upA u0.2.1 31 G_11, u0.2.2) (wkS T p k 8) G_11 hT hG_12 (by exact wk_1 _ _ _ _) (by exact wk_8 hT hp) (by exact wk_n hT hp)) gX6_run_X6_time (by decide +kernel) rfl rfl rfl ⟨Nat.le_of_ble_eq_true rfl, Nat.le_of_ble_eq_true rfl⟩ ⟨by decide, by decide⟩ (fun _ _ _ _ h => h) (fun _ _ _ _ _ _ _ => trivial) rfl (Nat.le_of_ble_eq_true rfl) (q0 := 0) rfl rfl rfl [0, 1, 2, 3, 4, 5, 6, 7, 8, 9, 10, 11, 12, 13, 14, 15, 16, 17, 18, 19, 20, 21] [] [0, 1, 2, 3, 4, 5, 6, 7, 8, 9, 10, 11, 12, 13, 14, 15, 16, 17, 18, 19, 20, 21] ⟨rfl, rfl, rfl, rfl, rfl⟩ (fun _ => ⟨rfl, rfl⟩) dX6_run_63 (fun r_19 u_ hr_18 => ?_)
            subst hr_18
            refine xgoto (tgt := 85) h0 dX6_run_66 (by decide) ?_
            exact xiret h0 dX6_run_85 (upN u0.1 32 ((wkS T p k 8).length), upA u0.2.1 31 G_11, u0.2.2) (by rw [hC, sel_0, xn_n (by omega)]; first | done | (unfold ruS; first | (rw [if_pos (by assumption)]; done) | (rw [if_neg (by assumption), if_pos (by assumption)]; done) | (rw [if_neg (by assumption), if_neg (by assumption)]; done))) (by rw [hC]; first | done | rfl)
        · skip
          have hC : rfC (T 5 0) k (nI p) (wh2 v) 2 = 3 := rfC_3 hok hgd (by rw [xn_n (by omega)]; exact c_10)
          refine xaload_n h0 0 dX6_run_41 rfl rfl ?_
          refine xbipush (v := (-3)) h0 dX6_run_42 (by decide) ?_
          refine xcallV_i (nn := 1) (w2 := fun u_ => (wM cI cC md T k tm dy P pk ptm pdy hpi tg tl (upN R 3 (R 3 + 1)) sg sl u0)) (wr := []) (rest := []) h0 (c_X6_no (xL κ) D cI cC md T k tm dy P pk ptm pdy hpi tg tl R sg sl u0 3 (by omega)) gX6_run_X6_no (by decide +kernel) rfl rfl rfl ⟨Nat.le_of_ble_eq_true rfl, Nat.le_of_ble_eq_true rfl⟩ ⟨by decide, by decide⟩ (fun _ _ _ _ h => h) (fun _ _ _ _ _ _ _ => trivial) rfl (Nat.le_of_ble_eq_true rfl) (q0 := 0) rfl rfl rfl [0, 1, 2, 3, 4, 5, 6, 7, 8, 9, 10, 11, 12, 13, 14, 15, 16, 17, 18, 19, 20, 21] [] [0, 1, 2, 3, 4, 5, 6, 7, 8, 9, 10, 11, 12, 13, 14, 15, 16, 17, 18, 19, 20, 21] ⟨rfl, rfl, rfl, rfl, rfl⟩ (fun _ => ⟨rfl, rfl⟩) dX6_run_44 (fun r_21 u_ hr_20 => ?_)
          subst hr_20
          exact xiret h0 dX6_run_47 u0 (by rw [hC, sel_n (by decide)]) (by rw [hC]; first | done | rfl)
      · skip
        have hC : rfC (T 5 0) k (nI p) (wh2 v) 2 = 2 := rfC_2 hok (wh2_0 (Or.inr (Int32.not_le.mp c_7)))
        refine xaload_n h0 0 dX6_run_23 rfl rfl ?_
        refine xbipush (v := (-2)) h0 dX6_run_24 (by decide) ?_
        refine xcallV_i (nn := 1) (w2 := fun u_ => (wM cI cC md T k tm dy P pk ptm pdy hpi tg tl (upN R 2 (R 2 + 1)) sg sl u0)) (wr := []) (rest := []) h0 (c_X6_no (xL κ) D cI cC md T k tm dy P pk ptm pdy hpi tg tl R sg sl u0 2 (by omega)) gX6_run_X6_no (by decide +kernel) rfl rfl rfl ⟨Nat.le_of_ble_eq_true rfl, Nat.le_of_ble_eq_true rfl⟩ ⟨by decide, by decide⟩ (fun _ _ _ _ h => h) (fun _ _ _ _ _ _ _ => trivial) rfl (Nat.le_of_ble_eq_true rfl) (q0 := 0) rfl rfl rfl [0, 1, 2, 3, 4, 5, 6, 7, 8, 9, 10, 11, 12, 13, 14, 15, 16, 17, 18, 19, 20, 21] [] [0, 1, 2, 3, 4, 5, 6, 7, 8, 9, 10, 11, 12, 13, 14, 15, 16, 17, 18, 19, 20, 21] ⟨rfl, rfl, rfl, rfl, rfl⟩ (fun _ => ⟨rfl, rfl⟩) dX6_run_26 (fun r_23 u_ hr_22 => ?_)
        subst hr_22
        exact xiret h0 dX6_run_29 u0 (by rw [hC, sel_n (by decide)]) (by rw [hC]; first | done | rfl)
  · skip
    have hC : rfC (T 5 0) k x (wh2 v) 2 = 1 := rfC_1 c_3
    refine xaload_n h0 0 dX6_run_8 rfl rfl ?_
    refine xiconst (v := (-1)) h0 dX6_run_9 (by decide) ?_
    refine xcallV_i (nn := 1) (w2 := fun u_ => (wM cI cC md T k tm dy P pk ptm pdy hpi tg tl (upN R 1 (R 1 + 1)) sg sl u0)) (wr := []) (rest := []) h0 (c_X6_no (xL κ) D cI cC md T k tm dy P pk ptm pdy hpi tg tl R sg sl u0 1 (by omega)) gX6_run_X6_no (by decide +kernel) rfl rfl rfl ⟨Nat.le_of_ble_eq_true rfl, Nat.le_of_ble_eq_true rfl⟩ ⟨by decide, by decide⟩ (fun _ _ _ _ h => h) (fun _ _ _ _ _ _ _ => trivial) rfl (Nat.le_of_ble_eq_true rfl) (q0 := 0) rfl rfl rfl [0, 1, 2, 3, 4, 5, 6, 7, 8, 9, 10, 11, 12, 13, 14, 15, 16, 17, 18, 19, 20, 21] [] [0, 1, 2, 3, 4, 5, 6, 7, 8, 9, 10, 11, 12, 13, 14, 15, 16, 17, 18, 19, 20, 21] ⟨rfl, rfl, rfl, rfl, rfl⟩ (fun _ => ⟨rfl, rfl⟩) dX6_run_10 (fun r_25 u_ hr_24 => ?_)
    subst hr_24
    exact xiret h0 dX6_run_13 u0 (by rw [hC, sel_n (by decide)]) (by rw [hC]; first | done | rfl)
set_option maxHeartbeats 4000000 in
set_option maxRecDepth 100000 in
theorem c_X6_runOf (l : Launch) (D : va_G) (cI cC : ClassId) (md : Nat → Nat) (T : TT) (k tm dy : Nat) (P : TT) (pk ptm pdy hpi : Nat) (tg : Nat → Nat) (tl : Nat) (R : Nat → Nat) (sg : Nat → Nat) (sl : Nat) (u0 : ScmT) (x v : Int32) (hT : TOK T) (hk : k < 256) (hP : TOK P) (hpk : pk < 256) (htl : tl ≤ 8) (hsl : sl ≤ 64) (hhp : hpi < 2) (htg : ∀ i, tg i ≤ 9) : XMi l yX6_runOf wsX6_runOf ({ frames := 5, cells := 0, slots := 0, locals := 130 } : Room) D (xT cI cC) xE0 (wM cI cC md T k tm dy P pk ptm pdy hpi tg tl R sg sl u0) [.ref (md 1), .int x, .int v] (S := ScmT) (fun r _ => r = sel (rfC (T 5 0) k x (ge0 v) 4) (ansW (wkS T (xn x) k 8) v) (-(nI (rfC (T 5 0) k x (ge0 v) 4)))) (fun u => wM cI cC md T k tm dy P pk ptm pdy hpi tg tl (bmp R (rfC (T 5 0) k x (ge0 v) 4)) sg sl u) 0 0 := by
  refine xMet_i (cc := cX6_runOf) (nL := 3) (ret := some .int) (by decide +kernel) rfl (Nat.le_of_ble_eq_true rfl) (fun κ A h0 hn0 hE => ?_)
  have hiX6 : ∀ w ∈ u_ws RX6 TX6 52, w ∈ wsX6_runOf := by decide +kernel
  refine xlv (lv' := [(0, .ref (md 1)), (1, .int x), (2, .int v)]) [0, 1, 2] rfl ?_
  have hn := hT.1
  refine xaload_n h0 0 dX6_runOf_0 rfl rfl ?_
  refine xiload_n h0 1 dX6_runOf_1 rfl rfl ?_
  refine xcallV_i (nn := 1) (w2 := fun u_ => (wM cI cC md T k tm dy P pk ptm pdy hpi tg tl R sg sl u0)) (wr := []) (rest := []) h0 (c_X6_isNobody (xL κ) D cI cC md T k tm dy P pk ptm pdy hpi tg tl R sg sl u0 x (by omega)) gX6_runOf_X6_isNobody (by decide +kernel) rfl rfl rfl ⟨Nat.le_of_ble_eq_true rfl, Nat.le_of_ble_eq_true rfl⟩ ⟨by decide, by decide⟩ (fun _ _ _ _ h => h) (fun _ _ _ _ _ _ _ => trivial) rfl (Nat.le_of_ble_eq_true rfl) (q0 := 0) rfl rfl rfl [0, 1, 2, 3, 4, 5, 6, 7, 8, 9, 10, 11, 12, 13, 14, 15, 16, 17, 18, 19, 20, 21] [] [0, 1, 2, 3, 4, 5, 6, 7, 8, 9, 10, 11, 12, 13, 14, 15, 16, 17, 18, 19, 20, 21] ⟨rfl, rfl, rfl, rfl, rfl⟩ (fun _ => ⟨rfl, rfl⟩) dX6_runOf_2 (fun r_2 u_ hr_1 => ?_)
  subst hr_1
  refine xbif_eq (tgt := 14) h0 dX6_runOf_5 (by decide)  (fun c_3 => ?_) (fun c_3 => ?_)
  · skip
    obtain ⟨p, hp, hxp⟩ := okN_of hn (Decidable.of_not_not c_3)
    subst hxp
    have hp8 : p < 8 := by omega
    have hok : okN (T 5 0) (nI p) := (okN_n hn (by omega)).mpr hp
    refine xiload_n h0 2 dX6_runOf_14 rfl rfl ?_
    refine xif_ge (tgt := 25) h0 dX6_runOf_15 (by decide)  (fun c_4 => ?_) (fun c_4 => ?_)
    · skip
      have hgd := ge0_1 (Int32.not_lt.mpr c_4)
      obtain ⟨j, hj, rfl⟩ := nI_of (Int32.not_lt.mpr c_4)
      refine xaload_n h0 0 dX6_runOf_25 rfl rfl ?_
      refine xget (C := RX6) (T := TX6) (N := 52) (ci := 6) (v := .int (nI k)) h0 hiX6 0 rfl rfl 3 (by decide) (List.mem_of_getElem? (i := 1) rfl) rfl dX6_runOf_26 ?_
      refine xiload_n h0 1 dX6_runOf_29 rfl rfl ?_
      refine xcallS_i (nn := 2) (w2 := fun u_ => (wM cI cC md T k tm dy P pk ptm pdy hpi tg tl R sg sl u0)) (wr := [(md 1, .inr (6, [.ref (md 0), .int (nI (T 5 0)), .int (nI (T 5 1)), .int (nI k), .int (nI tm), .int (nI dy), .ref (md 6), .ref (md 7), .ref (md 8), .ref (md 9), .ref (md 10), .int (nI hpi), .int (nI (P 5 0)), .int (nI (P 5 1)), .int (nI pk), .int (nI ptm), .int (nI pdy), .ref (md 17), .ref (md 18), .ref (md 19), .ref (md 20), .ref (md 21), .ref (md 22), .int (nI sl), .int (nI (u0.1 24)), .int (nI (u0.1 25)), .ref (md 26), .ref (md 27), .ref (md 28), .int (nI (u0.1 29)), .ref (md 30), .ref (md 31), .int (nI (u0.1 32)), .int (nI (u0.1 33)), .int (nI (u0.1 34)), .int (oI u0.2.2), .int (nI (u0.1 36)), .int (nI (u0.1 37)), .int (nI (u0.1 38)), .int (nI (u0.1 39)), .ref (md 40), .int (nI (u0.1 41)), .int (nI (u0.1 42)), .int (nI (u0.1 43)), .ref (md 44), .int (nI (u0.1 45)), .int (nI (u0.1 46)), .ref (md 47), .int (nI (u0.1 48)), .int (nI (u0.1 49)), .ref (md 50), .int (nI tl)])), (md 0, .inl (cI, 7, .inl (fun i_ => nI (R i_)))), (md 6, .inl (cI, 8, .inl (fun i_ => nI (T 0 i_)))), (md 7, .inl (cI, 8, .inl (fun i_ => nI (T 1 i_)))), (md 8, .inl (cI, 8, .inl (fun i_ => nI (T 2 i_)))), (md 9, .inl (cI, 8, .inl (fun i_ => nI (T 3 i_)))), (md 10, .inl (cI, 64, .inl (fun i_ => nI (T 4 i_)))), (md 17, .inl (cI, 8, .inl (fun i_ => nI (P 0 i_)))), (md 18, .inl (cI, 8, .inl (fun i_ => nI (P 1 i_)))), (md 19, .inl (cI, 8, .inl (fun i_ => nI (P 2 i_)))), (md 20, .inl (cI, 8, .inl (fun i_ => nI (P 3 i_)))), (md 21, .inl (cI, 64, .inl (fun i_ => nI (P 4 i_)))), (md 22, .inl (cI, 64, .inl (fun i_ => nI (sg i_)))), (md 26, .inl (cC, 4, .inl (fun i_ => nI (sortsN i_)))), (md 27, .inl (cC, 5, .inl (fun i_ => nI (askersN i_)))), (md 28, .inl (cC, 5, .inl (fun i_ => nI (sayersN i_)))), (md 30, .inl (cI, 4, .inl (fun i_ => nI ((u0.2.1 30) i_)))), (md 31, .inl (cI, 8, .inl (fun i_ => nI ((u0.2.1 31) i_)))), (md 40, .inl (cI, 8, .inl (fun i_ => nI ((u0.2.1 40) i_)))), (md 44, .inl (cI, 8, .inl (fun i_ => nI ((u0.2.1 44) i_)))), (md 47, .inl (cI, 8, .inl (fun i_ => nI ((u0.2.1 47) i_)))), (md 50, .inl (cI, 8, .inl (fun i_ => nI (tg i_))))]) (rest := []) h0 (c_X6_isIn (xL κ) D cI cC k p (by omega) (by omega)) gX6_runOf_X6_isIn (by decide +kernel) rfl rfl rfl ⟨Nat.le_of_ble_eq_true rfl, Nat.le_of_ble_eq_true rfl⟩ ⟨by decide, by decide⟩ (fun _ _ _ _ h => h) (fun _ _ _ _ _ _ _ => trivial) rfl (Nat.le_of_ble_eq_true rfl) rfl [] [0, 1, 2, 3, 4, 5, 6, 7, 8, 9, 10, 11, 12, 13, 14, 15, 16, 17, 18, 19, 20, 21] [0, 1, 2, 3, 4, 5, 6, 7, 8, 9, 10, 11, 12, 13, 14, 15, 16, 17, 18, 19, 20, 21] ⟨rfl, rfl, rfl, rfl, rfl⟩ (fun _ => ⟨rfl, rfl⟩) dX6_runOf_30 (fun r_6 u_ hr_5 => ?_)
      subst hr_5
      refine xbif_eq (tgt := 43) h0 dX6_runOf_33 (by decide)  (fun c_7 => ?_) (fun c_7 => ?_)
      · skip
        have hC : rfC (T 5 0) k (nI p) (ge0 (nI j)) 4 = 0 := rfC_z hok hgd (by rw [xn_n (by omega)]; exact c_7)
        have hkp : ¬ k.testBit p = true := c_7
        refine xaload_n h0 0 dX6_runOf_43 rfl rfl ?_
        refine xiload_n h0 1 dX6_runOf_44 rfl rfl ?_
        refine xaload_n h0 0 dX6_runOf_45 rfl rfl ?_
        refine xget (C := RX6) (T := TX6) (N := 52) (ci := 6) (v := .int (nI k)) h0 hiX6 0 rfl rfl 3 (by decide) (List.mem_of_getElem? (i := 1) rfl) rfl dX6_runOf_46 ?_
        refine xiconst (v := (-1)) h0 dX6_runOf_49 (by decide) ?_
        refine xcallV_v (nn := 3) (w2 := fun G_8 => (wM cI cC md T k tm dy P pk ptm pdy hpi tg tl R sg sl (upN u0.1 32 ((wkS T p k 8).length), upA u0.2.1 31 G_8, u0.2.2))) (wr := []) (rest := []) h0 (c_X6_go (xL κ) D cI cC md T k tm dy P pk ptm pdy hpi tg tl R sg sl u0 p k 8 (-1) hT (by omega) (by omega) mx_8) gX6_runOf_X6_go (by decide +kernel) rfl rfl rfl ⟨Nat.le_of_ble_eq_true rfl, Nat.le_of_ble_eq_true rfl⟩ ⟨by decide, by decide⟩ (fun _ _ _ _ h => h) (fun _ _ _ _ _ _ _ => trivial) rfl (Nat.le_of_ble_eq_true rfl) (q0 := 0) rfl rfl rfl [0, 1, 2, 3, 4, 5, 6, 7, 8, 9, 10, 11, 12, 13, 14, 15, 16, 17, 18, 19, 20, 21] [] [0, 1, 2, 3, 4, 5, 6, 7, 8, 9, 10, 11, 12, 13, 14, 15, 16, 17, 18, 19, 20, 21] ⟨rfl, rfl, rfl, rfl, rfl⟩ (fun _ => ⟨rfl, rfl⟩) dX6_runOf_50 (fun G_8 hG_9 => ?_)
        refine xiload_n h0 2 dX6_runOf_53 rfl rfl ?_
        refine xaload_n h0 0 dX6_runOf_54 rfl rfl ?_
        refine xget (C := RX6) (T := TX6) (N := 52) (ci := 6) (v := .int (nI ((wkS T p k 8).length))) h0 hiX6 0 rfl rfl 32 (by decide) (List.mem_of_getElem? (i := 2) rfl) rfl dX6_runOf_55 ?_
        refine xncmp_ge (tgt := 70) h0 dX6_runOf_58 (by decide) (by have := wk_8 (been := k) (mu := 8) hT hp; omega) (by have := wk_8 (been := k) (mu := 8) hT hp; omega) (fun c_11 => ?_) (fun c_11 => ?_)
        · skip
          refine xbipush (v := (-9)) h0 dX6_runOf_70 (by decide) ?_
          exact xiret h0 dX6_runOf_72 (upN u0.1 32 ((wkS T p k 8).length), upA u0.2.1 31 G_8, u0.2.2) (by rw [hC, sel_0, xn_n (by omega)]; first | done | (have hl8 := wk_8 (been := k) (mu := 8) hT hp; first | exact (ansW_o hj hl8 (by assumption)).symm | exact (ansW_i hl8 (by assumption)).symm)) (by rw [hC]; first | done | rfl)
        · skip
          refine xaload_n h0 0 dX6_runOf_61 rfl rfl ?_
          refine xget (C := RX6) (T := TX6) (N := 52) (ci := 6) (v := .ref (md 31)) h0 hiX6 0 rfl rfl 31 (by decide) (List.mem_of_getElem? (i := 3) rfl) rfl dX6_runOf_62 ?_
          refine xiload_n h0 2 dX6_runOf_65 rfl rfl ?_
          refine xiald (v := (nI ((wkS T p k 8).getD j 0))) h0 17 0 rfl rfl (by have := wk_8 (been := k) (mu := 8) hT hp; omega) (by decide) dX6_runOf_66 (congrArg nI (hG_9 _ (by omega))) ?_
          refine xgoto (tgt := 72) h0 dX6_runOf_67 (by decide) ?_
          exact xiret h0 dX6_runOf_72 (upN u0.1 32 ((wkS T p k 8).length), upA u0.2.1 31 G_8, u0.2.2) (by rw [hC, sel_0, xn_n (by omega)]; first | done | (have hl8 := wk_8 (been := k) (mu := 8) hT hp; first | exact (ansW_o hj hl8 (by assumption)).symm | exact (ansW_i hl8 (by assumption)).symm)) (by rw [hC]; first | done | rfl)
      · skip
        have hC : rfC (T 5 0) k (nI p) (ge0 (nI j)) 4 = 3 := rfC_3 hok hgd (by rw [xn_n (by omega)]; exact c_7)
        refine xaload_n h0 0 dX6_runOf_36 rfl rfl ?_
        refine xbipush (v := (-3)) h0 dX6_runOf_37 (by decide) ?_
        refine xcallV_i (nn := 1) (w2 := fun u_ => (wM cI cC md T k tm dy P pk ptm pdy hpi tg tl (upN R 3 (R 3 + 1)) sg sl u0)) (wr := []) (rest := []) h0 (c_X6_no (xL κ) D cI cC md T k tm dy P pk ptm pdy hpi tg tl R sg sl u0 3 (by omega)) gX6_runOf_X6_no (by decide +kernel) rfl rfl rfl ⟨Nat.le_of_ble_eq_true rfl, Nat.le_of_ble_eq_true rfl⟩ ⟨by decide, by decide⟩ (fun _ _ _ _ h => h) (fun _ _ _ _ _ _ _ => trivial) rfl (Nat.le_of_ble_eq_true rfl) (q0 := 0) rfl rfl rfl [0, 1, 2, 3, 4, 5, 6, 7, 8, 9, 10, 11, 12, 13, 14, 15, 16, 17, 18, 19, 20, 21] [] [0, 1, 2, 3, 4, 5, 6, 7, 8, 9, 10, 11, 12, 13, 14, 15, 16, 17, 18, 19, 20, 21] ⟨rfl, rfl, rfl, rfl, rfl⟩ (fun _ => ⟨rfl, rfl⟩) dX6_runOf_39 (fun r_13 u_ hr_12 => ?_)
        subst hr_12
        exact xiret h0 dX6_runOf_42 u0 (by rw [hC, sel_n (by decide)]) (by rw [hC]; first | done | rfl)
    · skip
      have hC : rfC (T 5 0) k (nI p) (ge0 v) 4 = 4 := rfC_2 hok (ge0_0 (Int32.not_le.mp c_4))
      refine xaload_n h0 0 dX6_runOf_18 rfl rfl ?_
      refine xbipush (v := (-4)) h0 dX6_runOf_19 (by decide) ?_
      refine xcallV_i (nn := 1) (w2 := fun u_ => (wM cI cC md T k tm dy P pk ptm pdy hpi tg tl (upN R 4 (R 4 + 1)) sg sl u0)) (wr := []) (rest := []) h0 (c_X6_no (xL κ) D cI cC md T k tm dy P pk ptm pdy hpi tg tl R sg sl u0 4 (by omega)) gX6_runOf_X6_no (by decide +kernel) rfl rfl rfl ⟨Nat.le_of_ble_eq_true rfl, Nat.le_of_ble_eq_true rfl⟩ ⟨by decide, by decide⟩ (fun _ _ _ _ h => h) (fun _ _ _ _ _ _ _ => trivial) rfl (Nat.le_of_ble_eq_true rfl) (q0 := 0) rfl rfl rfl [0, 1, 2, 3, 4, 5, 6, 7, 8, 9, 10, 11, 12, 13, 14, 15, 16, 17, 18, 19, 20, 21] [] [0, 1, 2, 3, 4, 5, 6, 7, 8, 9, 10, 11, 12, 13, 14, 15, 16, 17, 18, 19, 20, 21] ⟨rfl, rfl, rfl, rfl, rfl⟩ (fun _ => ⟨rfl, rfl⟩) dX6_runOf_21 (fun r_15 u_ hr_14 => ?_)
      subst hr_14
      exact xiret h0 dX6_runOf_24 u0 (by rw [hC, sel_n (by decide)]) (by rw [hC]; first | done | rfl)
  · skip
    have hC : rfC (T 5 0) k x (ge0 v) 4 = 1 := rfC_1 c_3
    refine xaload_n h0 0 dX6_runOf_8 rfl rfl ?_
    refine xiconst (v := (-1)) h0 dX6_runOf_9 (by decide) ?_
    refine xcallV_i (nn := 1) (w2 := fun u_ => (wM cI cC md T k tm dy P pk ptm pdy hpi tg tl (upN R 1 (R 1 + 1)) sg sl u0)) (wr := []) (rest := []) h0 (c_X6_no (xL κ) D cI cC md T k tm dy P pk ptm pdy hpi tg tl R sg sl u0 1 (by omega)) gX6_runOf_X6_no (by decide +kernel) rfl rfl rfl ⟨Nat.le_of_ble_eq_true rfl, Nat.le_of_ble_eq_true rfl⟩ ⟨by decide, by decide⟩ (fun _ _ _ _ h => h) (fun _ _ _ _ _ _ _ => trivial) rfl (Nat.le_of_ble_eq_true rfl) (q0 := 0) rfl rfl rfl [0, 1, 2, 3, 4, 5, 6, 7, 8, 9, 10, 11, 12, 13, 14, 15, 16, 17, 18, 19, 20, 21] [] [0, 1, 2, 3, 4, 5, 6, 7, 8, 9, 10, 11, 12, 13, 14, 15, 16, 17, 18, 19, 20, 21] ⟨rfl, rfl, rfl, rfl, rfl⟩ (fun _ => ⟨rfl, rfl⟩) dX6_runOf_10 (fun r_17 u_ hr_16 => ?_)
    subst hr_16
    exact xiret h0 dX6_runOf_13 u0 (by rw [hC, sel_n (by decide)]) (by rw [hC]; first | done | rfl)
set_option maxHeartbeats 4000000 in
set_option maxRecDepth 100000 in
theorem c_X6_ways (l : Launch) (D : va_G) (cI cC : ClassId) (md : Nat → Nat) (T : TT) (k tm dy : Nat) (P : TT) (pk ptm pdy hpi : Nat) (tg : Nat → Nat) (tl : Nat) (R : Nat → Nat) (sg : Nat → Nat) (sl : Nat) (u0 : ScmT) (x : Int32) (hT : TOK T) (hk : k < 256) (hP : TOK P) (hpk : pk < 256) (htl : tl ≤ 8) (hsl : sl ≤ 64) (hhp : hpi < 2) (htg : ∀ i, tg i ≤ 9) : XMi l yX6_ways wsX6_ways ({ frames := 14, cells := 0, slots := 0, locals := 436 } : Room) D (xT cI cC) xE0 (wM cI cC md T k tm dy P pk ptm pdy hpi tg tl R sg sl u0) [.ref (md 1), .int x] (S := ScmT) (fun r _ => r = sel (rfC (T 5 0) k x 1 0) (nI (alS T k (xn x)).length) (-(nI (rfC (T 5 0) k x 1 0)))) (fun u => wM cI cC md T k tm dy P pk ptm pdy hpi tg tl (bmp R (rfC (T 5 0) k x 1 0)) sg sl u) 0 0 := by
  refine xMet_i (cc := cX6_ways) (nL := 2) (ret := some .int) (by decide +kernel) rfl (Nat.le_of_ble_eq_true rfl) (fun κ A h0 hn0 hE => ?_)
  have hiX6 : ∀ w ∈ u_ws RX6 TX6 52, w ∈ wsX6_ways := by decide +kernel
  refine xlv (lv' := [(0, .ref (md 1)), (1, .int x)]) [0, 1] rfl ?_
  have hn := hT.1
  refine xaload_n h0 0 dX6_ways_0 rfl rfl ?_
  refine xiload_n h0 1 dX6_ways_1 rfl rfl ?_
  refine xcallV_i (nn := 1) (w2 := fun u_ => (wM cI cC md T k tm dy P pk ptm pdy hpi tg tl R sg sl u0)) (wr := []) (rest := []) h0 (c_X6_isNobody (xL κ) D cI cC md T k tm dy P pk ptm pdy hpi tg tl R sg sl u0 x (by omega)) gX6_ways_X6_isNobody (by decide +kernel) rfl rfl rfl ⟨Nat.le_of_ble_eq_true rfl, Nat.le_of_ble_eq_true rfl⟩ ⟨by decide, by decide⟩ (fun _ _ _ _ h => h) (fun _ _ _ _ _ _ _ => trivial) rfl (Nat.le_of_ble_eq_true rfl) (q0 := 0) rfl rfl rfl [0, 1, 2, 3, 4, 5, 6, 7, 8, 9, 10, 11, 12, 13, 14, 15, 16, 17, 18, 19, 20, 21] [] [0, 1, 2, 3, 4, 5, 6, 7, 8, 9, 10, 11, 12, 13, 14, 15, 16, 17, 18, 19, 20, 21] ⟨rfl, rfl, rfl, rfl, rfl⟩ (fun _ => ⟨rfl, rfl⟩) dX6_ways_2 (fun r_2 u_ hr_1 => ?_)
  subst hr_1
  refine xbif_eq (tgt := 14) h0 dX6_ways_5 (by decide)  (fun c_3 => ?_) (fun c_3 => ?_)
  · skip
    obtain ⟨p, hp, hxp⟩ := okN_of hn (Decidable.of_not_not c_3)
    subst hxp
    have hp8 : p < 8 := by omega
    have hok : okN (T 5 0) (nI p) := (okN_n hn (by omega)).mpr hp
    refine xaload_n h0 0 dX6_ways_14 rfl rfl ?_
    refine xget (C := RX6) (T := TX6) (N := 52) (ci := 6) (v := .int (nI k)) h0 hiX6 0 rfl rfl 3 (by decide) (List.mem_of_getElem? (i := 1) rfl) rfl dX6_ways_15 ?_
    refine xiload_n h0 1 dX6_ways_18 rfl rfl ?_
    refine xcallS_i (nn := 2) (w2 := fun u_ => (wM cI cC md T k tm dy P pk ptm pdy hpi tg tl R sg sl u0)) (wr := [(md 1, .inr (6, [.ref (md 0), .int (nI (T 5 0)), .int (nI (T 5 1)), .int (nI k), .int (nI tm), .int (nI dy), .ref (md 6), .ref (md 7), .ref (md 8), .ref (md 9), .ref (md 10), .int (nI hpi), .int (nI (P 5 0)), .int (nI (P 5 1)), .int (nI pk), .int (nI ptm), .int (nI pdy), .ref (md 17), .ref (md 18), .ref (md 19), .ref (md 20), .ref (md 21), .ref (md 22), .int (nI sl), .int (nI (u0.1 24)), .int (nI (u0.1 25)), .ref (md 26), .ref (md 27), .ref (md 28), .int (nI (u0.1 29)), .ref (md 30), .ref (md 31), .int (nI (u0.1 32)), .int (nI (u0.1 33)), .int (nI (u0.1 34)), .int (oI u0.2.2), .int (nI (u0.1 36)), .int (nI (u0.1 37)), .int (nI (u0.1 38)), .int (nI (u0.1 39)), .ref (md 40), .int (nI (u0.1 41)), .int (nI (u0.1 42)), .int (nI (u0.1 43)), .ref (md 44), .int (nI (u0.1 45)), .int (nI (u0.1 46)), .ref (md 47), .int (nI (u0.1 48)), .int (nI (u0.1 49)), .ref (md 50), .int (nI tl)])), (md 0, .inl (cI, 7, .inl (fun i_ => nI (R i_)))), (md 6, .inl (cI, 8, .inl (fun i_ => nI (T 0 i_)))), (md 7, .inl (cI, 8, .inl (fun i_ => nI (T 1 i_)))), (md 8, .inl (cI, 8, .inl (fun i_ => nI (T 2 i_)))), (md 9, .inl (cI, 8, .inl (fun i_ => nI (T 3 i_)))), (md 10, .inl (cI, 64, .inl (fun i_ => nI (T 4 i_)))), (md 17, .inl (cI, 8, .inl (fun i_ => nI (P 0 i_)))), (md 18, .inl (cI, 8, .inl (fun i_ => nI (P 1 i_)))), (md 19, .inl (cI, 8, .inl (fun i_ => nI (P 2 i_)))), (md 20, .inl (cI, 8, .inl (fun i_ => nI (P 3 i_)))), (md 21, .inl (cI, 64, .inl (fun i_ => nI (P 4 i_)))), (md 22, .inl (cI, 64, .inl (fun i_ => nI (sg i_)))), (md 26, .inl (cC, 4, .inl (fun i_ => nI (sortsN i_)))), (md 27, .inl (cC, 5, .inl (fun i_ => nI (askersN i_)))), (md 28, .inl (cC, 5, .inl (fun i_ => nI (sayersN i_)))), (md 30, .inl (cI, 4, .inl (fun i_ => nI ((u0.2.1 30) i_)))), (md 31, .inl (cI, 8, .inl (fun i_ => nI ((u0.2.1 31) i_)))), (md 40, .inl (cI, 8, .inl (fun i_ => nI ((u0.2.1 40) i_)))), (md 44, .inl (cI, 8, .inl (fun i_ => nI ((u0.2.1 44) i_)))), (md 47, .inl (cI, 8, .inl (fun i_ => nI ((u0.2.1 47) i_)))), (md 50, .inl (cI, 8, .inl (fun i_ => nI (tg i_))))]) (rest := []) h0 (c_X6_isIn (xL κ) D cI cC k p (by omega) (by omega)) gX6_ways_X6_isIn (by decide +kernel) rfl rfl rfl ⟨Nat.le_of_ble_eq_true rfl, Nat.le_of_ble_eq_true rfl⟩ ⟨by decide, by decide⟩ (fun _ _ _ _ h => h) (fun _ _ _ _ _ _ _ => trivial) rfl (Nat.le_of_ble_eq_true rfl) rfl [] [0, 1, 2, 3, 4, 5, 6, 7, 8, 9, 10, 11, 12, 13, 14, 15, 16, 17, 18, 19, 20, 21] [0, 1, 2, 3, 4, 5, 6, 7, 8, 9, 10, 11, 12, 13, 14, 15, 16, 17, 18, 19, 20, 21] ⟨rfl, rfl, rfl, rfl, rfl⟩ (fun _ => ⟨rfl, rfl⟩) dX6_ways_19 (fun r_5 u_ hr_4 => ?_)
    subst hr_4
    refine xbif_eq (tgt := 32) h0 dX6_ways_22 (by decide)  (fun c_6 => ?_) (fun c_6 => ?_)
    · skip
      have hC : rfC (T 5 0) k (nI p) 1 0 = 0 := rfC_z hok (by decide) (by rw [xn_n (by omega)]; exact c_6)
      have hkp : ¬ k.testBit p = true := c_6
      refine xaload_n h0 0 dX6_ways_32 rfl rfl ?_
      refine xiload_n h0 1 dX6_ways_33 rfl rfl ?_
      refine xiconst (v := (-1)) h0 dX6_ways_34 (by decide) ?_
      refine xcallV_v (nn := 2) (w2 := fun u_7 => (wM cI cC md T k tm dy P pk ptm pdy hpi tg tl R sg sl (upN (upN (upN (upN (upN (upN (upN (upN (upN (upN (upN (upN u0.1 32 (([] : List Nat).length)) 33 ((alS T k p).length)) 34 (onS (alS T k p))) 36 ((fwS T none (alS T k p)).length)) 37 (onS (fwS T none (alS T k p)))) 38 (u_7.2.2 4)) 39 (u_7.2.2 0)) 41 (u_7.2.2 5)) 42 (u_7.2.2 1)) 43 (u_7.2.2 2)) 45 (u_7.2.2 6)) 46 (u_7.2.2 3), upA (upA (upA (upA u0.2.1 31 u_7.1) 40 (u_7.2.1 0)) 44 (u_7.2.1 1)) 47 (u_7.2.1 2), none))) (wr := []) (rest := []) h0 (c_X6_all (xL κ) D cI cC md T k tm dy P pk ptm pdy hpi tg tl R sg sl u0 p none hT (by omega) (by omega) (by intro t e; cases e)) gX6_ways_X6_all (by decide +kernel) rfl rfl rfl ⟨Nat.le_of_ble_eq_true rfl, Nat.le_of_ble_eq_true rfl⟩ ⟨by decide, by decide⟩ (fun _ _ _ _ h => h) (fun _ _ _ _ _ _ _ => trivial) rfl (Nat.le_of_ble_eq_true rfl) (q0 := 0) rfl rfl rfl [0, 1, 2, 3, 4, 5, 6, 7, 8, 9, 10, 11, 12, 13, 14, 15, 16, 17, 18, 19, 20, 21] [] [0, 1, 2, 3, 4, 5, 6, 7, 8, 9, 10, 11, 12, 13, 14, 15, 16, 17, 18, 19, 20, 21] ⟨rfl, rfl, rfl, rfl, rfl⟩ (fun _ => ⟨rfl, rfl⟩) dX6_ways_35 (fun u_7 hu_8 => ?_)
      refine xaload_n h0 0 dX6_ways_38 rfl rfl ?_
      refine xget (C := RX6) (T := TX6) (N := 52) (ci := 6) (v := .int (nI ((alS T k p).length))) h0 hiX6 0 rfl rfl 33 (by decide) (List.mem_of_getElem? (i := 2) rfl) rfl dX6_ways_39 ?_
      exact xiret h0 dX6_ways_42 (upN (upN (upN (upN (upN (upN (upN (upN (upN (upN (upN (upN u0.1 32 (([] : List Nat).length)) 33 ((alS T k p).length)) 34 (onS (alS T k p))) 36 ((fwS T none (alS T k p)).length)) 37 (onS (fwS T none (alS T k p)))) 38 (u_7.2.2 4)) 39 (u_7.2.2 0)) 41 (u_7.2.2 5)) 42 (u_7.2.2 1)) 43 (u_7.2.2 2)) 45 (u_7.2.2 6)) 46 (u_7.2.2 3), upA (upA (upA (upA u0.2.1 31 u_7.1) 40 (u_7.2.1 0)) 44 (u_7.2.1 1)) 47 (u_7.2.1 2), none) (by rw [hC, sel_0, xn_n (by omega)]; first | done | (rfl)) (by rw [hC]; first | done | rfl)
    · skip
      have hC : rfC (T 5 0) k (nI p) 1 0 = 3 := rfC_3 hok (by decide) (by rw [xn_n (by omega)]; exact c_6)
      refine xaload_n h0 0 dX6_ways_25 rfl rfl ?_
      refine xbipush (v := (-3)) h0 dX6_ways_26 (by decide) ?_
      refine xcallV_i (nn := 1) (w2 := fun u_ => (wM cI cC md T k tm dy P pk ptm pdy hpi tg tl (upN R 3 (R 3 + 1)) sg sl u0)) (wr := []) (rest := []) h0 (c_X6_no (xL κ) D cI cC md T k tm dy P pk ptm pdy hpi tg tl R sg sl u0 3 (by omega)) gX6_ways_X6_no (by decide +kernel) rfl rfl rfl ⟨Nat.le_of_ble_eq_true rfl, Nat.le_of_ble_eq_true rfl⟩ ⟨by decide, by decide⟩ (fun _ _ _ _ h => h) (fun _ _ _ _ _ _ _ => trivial) rfl (Nat.le_of_ble_eq_true rfl) (q0 := 0) rfl rfl rfl [0, 1, 2, 3, 4, 5, 6, 7, 8, 9, 10, 11, 12, 13, 14, 15, 16, 17, 18, 19, 20, 21] [] [0, 1, 2, 3, 4, 5, 6, 7, 8, 9, 10, 11, 12, 13, 14, 15, 16, 17, 18, 19, 20, 21] ⟨rfl, rfl, rfl, rfl, rfl⟩ (fun _ => ⟨rfl, rfl⟩) dX6_ways_28 (fun r_11 u_ hr_10 => ?_)
      subst hr_10
      exact xiret h0 dX6_ways_31 u0 (by rw [hC, sel_n (by decide)]) (by rw [hC]; first | done | rfl)
  · skip
    have hC : rfC (T 5 0) k x 1 0 = 1 := rfC_1 c_3
    refine xaload_n h0 0 dX6_ways_8 rfl rfl ?_
    refine xiconst (v := (-1)) h0 dX6_ways_9 (by decide) ?_
    refine xcallV_i (nn := 1) (w2 := fun u_ => (wM cI cC md T k tm dy P pk ptm pdy hpi tg tl (upN R 1 (R 1 + 1)) sg sl u0)) (wr := []) (rest := []) h0 (c_X6_no (xL κ) D cI cC md T k tm dy P pk ptm pdy hpi tg tl R sg sl u0 1 (by omega)) gX6_ways_X6_no (by decide +kernel) rfl rfl rfl ⟨Nat.le_of_ble_eq_true rfl, Nat.le_of_ble_eq_true rfl⟩ ⟨by decide, by decide⟩ (fun _ _ _ _ h => h) (fun _ _ _ _ _ _ _ => trivial) rfl (Nat.le_of_ble_eq_true rfl) (q0 := 0) rfl rfl rfl [0, 1, 2, 3, 4, 5, 6, 7, 8, 9, 10, 11, 12, 13, 14, 15, 16, 17, 18, 19, 20, 21] [] [0, 1, 2, 3, 4, 5, 6, 7, 8, 9, 10, 11, 12, 13, 14, 15, 16, 17, 18, 19, 20, 21] ⟨rfl, rfl, rfl, rfl, rfl⟩ (fun _ => ⟨rfl, rfl⟩) dX6_ways_10 (fun r_13 u_ hr_12 => ?_)
    subst hr_12
    exact xiret h0 dX6_ways_13 u0 (by rw [hC, sel_n (by decide)]) (by rw [hC]; first | done | rfl)
set_option maxHeartbeats 4000000 in
set_option maxRecDepth 100000 in
theorem c_X6_always (l : Launch) (D : va_G) (cI cC : ClassId) (md : Nat → Nat) (T : TT) (k tm dy : Nat) (P : TT) (pk ptm pdy hpi : Nat) (tg : Nat → Nat) (tl : Nat) (R : Nat → Nat) (sg : Nat → Nat) (sl : Nat) (u0 : ScmT) (x : Int32) (hT : TOK T) (hk : k < 256) (hP : TOK P) (hpk : pk < 256) (htl : tl ≤ 8) (hsl : sl ≤ 64) (hhp : hpi < 2) (htg : ∀ i, tg i ≤ 9) : XMi l yX6_always wsX6_always ({ frames := 14, cells := 0, slots := 0, locals := 436 } : Room) D (xT cI cC) xE0 (wM cI cC md T k tm dy P pk ptm pdy hpi tg tl R sg sl u0) [.ref (md 1), .int x] (S := ScmT) (fun r _ => r = sel (rfC (T 5 0) k x 1 0) (nI (onS (alS T k (xn x)))) (-(nI (rfC (T 5 0) k x 1 0)))) (fun u => wM cI cC md T k tm dy P pk ptm pdy hpi tg tl (bmp R (rfC (T 5 0) k x 1 0)) sg sl u) 0 0 := by
  refine xMet_i (cc := cX6_always) (nL := 2) (ret := some .int) (by decide +kernel) rfl (Nat.le_of_ble_eq_true rfl) (fun κ A h0 hn0 hE => ?_)
  have hiX6 : ∀ w ∈ u_ws RX6 TX6 52, w ∈ wsX6_always := by decide +kernel
  refine xlv (lv' := [(0, .ref (md 1)), (1, .int x)]) [0, 1] rfl ?_
  have hn := hT.1
  refine xaload_n h0 0 dX6_always_0 rfl rfl ?_
  refine xiload_n h0 1 dX6_always_1 rfl rfl ?_
  refine xcallV_i (nn := 1) (w2 := fun u_ => (wM cI cC md T k tm dy P pk ptm pdy hpi tg tl R sg sl u0)) (wr := []) (rest := []) h0 (c_X6_isNobody (xL κ) D cI cC md T k tm dy P pk ptm pdy hpi tg tl R sg sl u0 x (by omega)) gX6_always_X6_isNobody (by decide +kernel) rfl rfl rfl ⟨Nat.le_of_ble_eq_true rfl, Nat.le_of_ble_eq_true rfl⟩ ⟨by decide, by decide⟩ (fun _ _ _ _ h => h) (fun _ _ _ _ _ _ _ => trivial) rfl (Nat.le_of_ble_eq_true rfl) (q0 := 0) rfl rfl rfl [0, 1, 2, 3, 4, 5, 6, 7, 8, 9, 10, 11, 12, 13, 14, 15, 16, 17, 18, 19, 20, 21] [] [0, 1, 2, 3, 4, 5, 6, 7, 8, 9, 10, 11, 12, 13, 14, 15, 16, 17, 18, 19, 20, 21] ⟨rfl, rfl, rfl, rfl, rfl⟩ (fun _ => ⟨rfl, rfl⟩) dX6_always_2 (fun r_2 u_ hr_1 => ?_)
  subst hr_1
  refine xbif_eq (tgt := 14) h0 dX6_always_5 (by decide)  (fun c_3 => ?_) (fun c_3 => ?_)
  · skip
    obtain ⟨p, hp, hxp⟩ := okN_of hn (Decidable.of_not_not c_3)
    subst hxp
    have hp8 : p < 8 := by omega
    have hok : okN (T 5 0) (nI p) := (okN_n hn (by omega)).mpr hp
    refine xaload_n h0 0 dX6_always_14 rfl rfl ?_
    refine xget (C := RX6) (T := TX6) (N := 52) (ci := 6) (v := .int (nI k)) h0 hiX6 0 rfl rfl 3 (by decide) (List.mem_of_getElem? (i := 1) rfl) rfl dX6_always_15 ?_
    refine xiload_n h0 1 dX6_always_18 rfl rfl ?_
    refine xcallS_i (nn := 2) (w2 := fun u_ => (wM cI cC md T k tm dy P pk ptm pdy hpi tg tl R sg sl u0)) (wr := [(md 1, .inr (6, [.ref (md 0), .int (nI (T 5 0)), .int (nI (T 5 1)), .int (nI k), .int (nI tm), .int (nI dy), .ref (md 6), .ref (md 7), .ref (md 8), .ref (md 9), .ref (md 10), .int (nI hpi), .int (nI (P 5 0)), .int (nI (P 5 1)), .int (nI pk), .int (nI ptm), .int (nI pdy), .ref (md 17), .ref (md 18), .ref (md 19), .ref (md 20), .ref (md 21), .ref (md 22), .int (nI sl), .int (nI (u0.1 24)), .int (nI (u0.1 25)), .ref (md 26), .ref (md 27), .ref (md 28), .int (nI (u0.1 29)), .ref (md 30), .ref (md 31), .int (nI (u0.1 32)), .int (nI (u0.1 33)), .int (nI (u0.1 34)), .int (oI u0.2.2), .int (nI (u0.1 36)), .int (nI (u0.1 37)), .int (nI (u0.1 38)), .int (nI (u0.1 39)), .ref (md 40), .int (nI (u0.1 41)), .int (nI (u0.1 42)), .int (nI (u0.1 43)), .ref (md 44), .int (nI (u0.1 45)), .int (nI (u0.1 46)), .ref (md 47), .int (nI (u0.1 48)), .int (nI (u0.1 49)), .ref (md 50), .int (nI tl)])), (md 0, .inl (cI, 7, .inl (fun i_ => nI (R i_)))), (md 6, .inl (cI, 8, .inl (fun i_ => nI (T 0 i_)))), (md 7, .inl (cI, 8, .inl (fun i_ => nI (T 1 i_)))), (md 8, .inl (cI, 8, .inl (fun i_ => nI (T 2 i_)))), (md 9, .inl (cI, 8, .inl (fun i_ => nI (T 3 i_)))), (md 10, .inl (cI, 64, .inl (fun i_ => nI (T 4 i_)))), (md 17, .inl (cI, 8, .inl (fun i_ => nI (P 0 i_)))), (md 18, .inl (cI, 8, .inl (fun i_ => nI (P 1 i_)))), (md 19, .inl (cI, 8, .inl (fun i_ => nI (P 2 i_)))), (md 20, .inl (cI, 8, .inl (fun i_ => nI (P 3 i_)))), (md 21, .inl (cI, 64, .inl (fun i_ => nI (P 4 i_)))), (md 22, .inl (cI, 64, .inl (fun i_ => nI (sg i_)))), (md 26, .inl (cC, 4, .inl (fun i_ => nI (sortsN i_)))), (md 27, .inl (cC, 5, .inl (fun i_ => nI (askersN i_)))), (md 28, .inl (cC, 5, .inl (fun i_ => nI (sayersN i_)))), (md 30, .inl (cI, 4, .inl (fun i_ => nI ((u0.2.1 30) i_)))), (md 31, .inl (cI, 8, .inl (fun i_ => nI ((u0.2.1 31) i_)))), (md 40, .inl (cI, 8, .inl (fun i_ => nI ((u0.2.1 40) i_)))), (md 44, .inl (cI, 8, .inl (fun i_ => nI ((u0.2.1 44) i_)))), (md 47, .inl (cI, 8, .inl (fun i_ => nI ((u0.2.1 47) i_)))), (md 50, .inl (cI, 8, .inl (fun i_ => nI (tg i_))))]) (rest := []) h0 (c_X6_isIn (xL κ) D cI cC k p (by omega) (by omega)) gX6_always_X6_isIn (by decide +kernel) rfl rfl rfl ⟨Nat.le_of_ble_eq_true rfl, Nat.le_of_ble_eq_true rfl⟩ ⟨by decide, by decide⟩ (fun _ _ _ _ h => h) (fun _ _ _ _ _ _ _ => trivial) rfl (Nat.le_of_ble_eq_true rfl) rfl [] [0, 1, 2, 3, 4, 5, 6, 7, 8, 9, 10, 11, 12, 13, 14, 15, 16, 17, 18, 19, 20, 21] [0, 1, 2, 3, 4, 5, 6, 7, 8, 9, 10, 11, 12, 13, 14, 15, 16, 17, 18, 19, 20, 21] ⟨rfl, rfl, rfl, rfl, rfl⟩ (fun _ => ⟨rfl, rfl⟩) dX6_always_19 (fun r_5 u_ hr_4 => ?_)
    subst hr_4
    refine xbif_eq (tgt := 32) h0 dX6_always_22 (by decide)  (fun c_6 => ?_) (fun c_6 => ?_)
    · skip
      have hC : rfC (T 5 0) k (nI p) 1 0 = 0 := rfC_z hok (by decide) (by rw [xn_n (by omega)]; exact c_6)
      have hkp : ¬ k.testBit p = true := c_6
      refine xaload_n h0 0 dX6_always_32 rfl rfl ?_
      refine xiload_n h0 1 dX6_always_33 rfl rfl ?_
      refine xiconst (v := (-1)) h0 dX6_always_34 (by decide) ?_
      refine xcallV_v (nn := 2) (w2 := fun u_7 => (wM cI cC md T k tm dy P pk ptm pdy hpi tg tl R sg sl (upN (upN (upN (upN (upN (upN (upN (upN (upN (upN (upN (upN u0.1 32 (([] : List Nat).length)) 33 ((alS T k p).length)) 34 (onS (alS T k p))) 36 ((fwS T none (alS T k p)).length)) 37 (onS (fwS T none (alS T k p)))) 38 (u_7.2.2 4)) 39 (u_7.2.2 0)) 41 (u_7.2.2 5)) 42 (u_7.2.2 1)) 43 (u_7.2.2 2)) 45 (u_7.2.2 6)) 46 (u_7.2.2 3), upA (upA (upA (upA u0.2.1 31 u_7.1) 40 (u_7.2.1 0)) 44 (u_7.2.1 1)) 47 (u_7.2.1 2), none))) (wr := []) (rest := []) h0 (c_X6_all (xL κ) D cI cC md T k tm dy P pk ptm pdy hpi tg tl R sg sl u0 p none hT (by omega) (by omega) (by intro t e; cases e)) gX6_always_X6_all (by decide +kernel) rfl rfl rfl ⟨Nat.le_of_ble_eq_true rfl, Nat.le_of_ble_eq_true rfl⟩ ⟨by decide, by decide⟩ (fun _ _ _ _ h => h) (fun _ _ _ _ _ _ _ => trivial) rfl (Nat.le_of_ble_eq_true rfl) (q0 := 0) rfl rfl rfl [0, 1, 2, 3, 4, 5, 6, 7, 8, 9, 10, 11, 12, 13, 14, 15, 16, 17, 18, 19, 20, 21] [] [0, 1, 2, 3, 4, 5, 6, 7, 8, 9, 10, 11, 12, 13, 14, 15, 16, 17, 18, 19, 20, 21] ⟨rfl, rfl, rfl, rfl, rfl⟩ (fun _ => ⟨rfl, rfl⟩) dX6_always_35 (fun u_7 hu_8 => ?_)
      refine xaload_n h0 0 dX6_always_38 rfl rfl ?_
      refine xget (C := RX6) (T := TX6) (N := 52) (ci := 6) (v := .int (nI (onS (alS T k p)))) h0 hiX6 0 rfl rfl 34 (by decide) (List.mem_of_getElem? (i := 2) rfl) rfl dX6_always_39 ?_
      exact xiret h0 dX6_always_42 (upN (upN (upN (upN (upN (upN (upN (upN (upN (upN (upN (upN u0.1 32 (([] : List Nat).length)) 33 ((alS T k p).length)) 34 (onS (alS T k p))) 36 ((fwS T none (alS T k p)).length)) 37 (onS (fwS T none (alS T k p)))) 38 (u_7.2.2 4)) 39 (u_7.2.2 0)) 41 (u_7.2.2 5)) 42 (u_7.2.2 1)) 43 (u_7.2.2 2)) 45 (u_7.2.2 6)) 46 (u_7.2.2 3), upA (upA (upA (upA u0.2.1 31 u_7.1) 40 (u_7.2.1 0)) 44 (u_7.2.1 1)) 47 (u_7.2.1 2), none) (by rw [hC, sel_0, xn_n (by omega)]; first | done | (rfl)) (by rw [hC]; first | done | rfl)
    · skip
      have hC : rfC (T 5 0) k (nI p) 1 0 = 3 := rfC_3 hok (by decide) (by rw [xn_n (by omega)]; exact c_6)
      refine xaload_n h0 0 dX6_always_25 rfl rfl ?_
      refine xbipush (v := (-3)) h0 dX6_always_26 (by decide) ?_
      refine xcallV_i (nn := 1) (w2 := fun u_ => (wM cI cC md T k tm dy P pk ptm pdy hpi tg tl (upN R 3 (R 3 + 1)) sg sl u0)) (wr := []) (rest := []) h0 (c_X6_no (xL κ) D cI cC md T k tm dy P pk ptm pdy hpi tg tl R sg sl u0 3 (by omega)) gX6_always_X6_no (by decide +kernel) rfl rfl rfl ⟨Nat.le_of_ble_eq_true rfl, Nat.le_of_ble_eq_true rfl⟩ ⟨by decide, by decide⟩ (fun _ _ _ _ h => h) (fun _ _ _ _ _ _ _ => trivial) rfl (Nat.le_of_ble_eq_true rfl) (q0 := 0) rfl rfl rfl [0, 1, 2, 3, 4, 5, 6, 7, 8, 9, 10, 11, 12, 13, 14, 15, 16, 17, 18, 19, 20, 21] [] [0, 1, 2, 3, 4, 5, 6, 7, 8, 9, 10, 11, 12, 13, 14, 15, 16, 17, 18, 19, 20, 21] ⟨rfl, rfl, rfl, rfl, rfl⟩ (fun _ => ⟨rfl, rfl⟩) dX6_always_28 (fun r_11 u_ hr_10 => ?_)
      subst hr_10
      exact xiret h0 dX6_always_31 u0 (by rw [hC, sel_n (by decide)]) (by rw [hC]; first | done | rfl)
  · skip
    have hC : rfC (T 5 0) k x 1 0 = 1 := rfC_1 c_3
    refine xaload_n h0 0 dX6_always_8 rfl rfl ?_
    refine xiconst (v := (-1)) h0 dX6_always_9 (by decide) ?_
    refine xcallV_i (nn := 1) (w2 := fun u_ => (wM cI cC md T k tm dy P pk ptm pdy hpi tg tl (upN R 1 (R 1 + 1)) sg sl u0)) (wr := []) (rest := []) h0 (c_X6_no (xL κ) D cI cC md T k tm dy P pk ptm pdy hpi tg tl R sg sl u0 1 (by omega)) gX6_always_X6_no (by decide +kernel) rfl rfl rfl ⟨Nat.le_of_ble_eq_true rfl, Nat.le_of_ble_eq_true rfl⟩ ⟨by decide, by decide⟩ (fun _ _ _ _ h => h) (fun _ _ _ _ _ _ _ => trivial) rfl (Nat.le_of_ble_eq_true rfl) (q0 := 0) rfl rfl rfl [0, 1, 2, 3, 4, 5, 6, 7, 8, 9, 10, 11, 12, 13, 14, 15, 16, 17, 18, 19, 20, 21] [] [0, 1, 2, 3, 4, 5, 6, 7, 8, 9, 10, 11, 12, 13, 14, 15, 16, 17, 18, 19, 20, 21] ⟨rfl, rfl, rfl, rfl, rfl⟩ (fun _ => ⟨rfl, rfl⟩) dX6_always_10 (fun r_13 u_ hr_12 => ?_)
    subst hr_12
    exact xiret h0 dX6_always_13 u0 (by rw [hC, sel_n (by decide)]) (by rw [hC]; first | done | rfl)
set_option maxHeartbeats 4000000 in
set_option maxRecDepth 100000 in
theorem c_X6_soonest (l : Launch) (D : va_G) (cI cC : ClassId) (md : Nat → Nat) (T : TT) (k tm dy : Nat) (P : TT) (pk ptm pdy hpi : Nat) (tg : Nat → Nat) (tl : Nat) (R : Nat → Nat) (sg : Nat → Nat) (sl : Nat) (u0 : ScmT) (x v : Int32) (hT : TOK T) (hk : k < 256) (hP : TOK P) (hpk : pk < 256) (htl : tl ≤ 8) (hsl : sl ≤ 64) (hhp : hpi < 2) (htg : ∀ i, tg i ≤ 9) : XMi l yX6_soonest wsX6_soonest ({ frames := 14, cells := 0, slots := 0, locals := 436 } : Room) D (xT cI cC) xE0 (wM cI cC md T k tm dy P pk ptm pdy hpi tg tl R sg sl u0) [.ref (md 1), .int x, .int v] (S := ScmT) (fun r _ => r = sel (rfC (T 5 0) k x (gem v) 4) (soS T k (xn x) v) (-(nI (rfC (T 5 0) k x (gem v) 4)))) (fun u => wM cI cC md T k tm dy P pk ptm pdy hpi tg tl (bmp R (rfC (T 5 0) k x (gem v) 4)) sg sl u) 0 0 := by
  refine xMet_i (cc := cX6_soonest) (nL := 3) (ret := some .int) (by decide +kernel) rfl (Nat.le_of_ble_eq_true rfl) (fun κ A h0 hn0 hE => ?_)
  have hiX6 : ∀ w ∈ u_ws RX6 TX6 52, w ∈ wsX6_soonest := by decide +kernel
  refine xlv (lv' := [(0, .ref (md 1)), (1, .int x), (2, .int v)]) [0, 1, 2] rfl ?_
  have hn := hT.1
  refine xaload_n h0 0 dX6_soonest_0 rfl rfl ?_
  refine xiload_n h0 1 dX6_soonest_1 rfl rfl ?_
  refine xcallV_i (nn := 1) (w2 := fun u_ => (wM cI cC md T k tm dy P pk ptm pdy hpi tg tl R sg sl u0)) (wr := []) (rest := []) h0 (c_X6_isNobody (xL κ) D cI cC md T k tm dy P pk ptm pdy hpi tg tl R sg sl u0 x (by omega)) gX6_soonest_X6_isNobody (by decide +kernel) rfl rfl rfl ⟨Nat.le_of_ble_eq_true rfl, Nat.le_of_ble_eq_true rfl⟩ ⟨by decide, by decide⟩ (fun _ _ _ _ h => h) (fun _ _ _ _ _ _ _ => trivial) rfl (Nat.le_of_ble_eq_true rfl) (q0 := 0) rfl rfl rfl [0, 1, 2, 3, 4, 5, 6, 7, 8, 9, 10, 11, 12, 13, 14, 15, 16, 17, 18, 19, 20, 21] [] [0, 1, 2, 3, 4, 5, 6, 7, 8, 9, 10, 11, 12, 13, 14, 15, 16, 17, 18, 19, 20, 21] ⟨rfl, rfl, rfl, rfl, rfl⟩ (fun _ => ⟨rfl, rfl⟩) dX6_soonest_2 (fun r_2 u_ hr_1 => ?_)
  subst hr_1
  refine xbif_eq (tgt := 14) h0 dX6_soonest_5 (by decide)  (fun c_3 => ?_) (fun c_3 => ?_)
  · skip
    obtain ⟨p, hp, hxp⟩ := okN_of hn (Decidable.of_not_not c_3)
    subst hxp
    have hp8 : p < 8 := by omega
    have hok : okN (T 5 0) (nI p) := (okN_n hn (by omega)).mpr hp
    refine xiload_n h0 2 dX6_soonest_14 rfl rfl ?_
    refine xiconst (v := (-1)) h0 dX6_soonest_15 (by decide) ?_
    refine xicmp_ge (tgt := 26) h0 dX6_soonest_16 (by decide)  (fun c_4 => ?_) (fun c_4 => ?_)
    · skip
      have hgm : ¬ v < (-1) := Int32.not_lt.mpr c_4
      have hgd := gem_1 hgm
      refine xaload_n h0 0 dX6_soonest_26 rfl rfl ?_
      refine xget (C := RX6) (T := TX6) (N := 52) (ci := 6) (v := .int (nI k)) h0 hiX6 0 rfl rfl 3 (by decide) (List.mem_of_getElem? (i := 1) rfl) rfl dX6_soonest_27 ?_
      refine xiload_n h0 1 dX6_soonest_30 rfl rfl ?_
      refine xcallS_i (nn := 2) (w2 := fun u_ => (wM cI cC md T k tm dy P pk ptm pdy hpi tg tl R sg sl u0)) (wr := [(md 1, .inr (6, [.ref (md 0), .int (nI (T 5 0)), .int (nI (T 5 1)), .int (nI k), .int (nI tm), .int (nI dy), .ref (md 6), .ref (md 7), .ref (md 8), .ref (md 9), .ref (md 10), .int (nI hpi), .int (nI (P 5 0)), .int (nI (P 5 1)), .int (nI pk), .int (nI ptm), .int (nI pdy), .ref (md 17), .ref (md 18), .ref (md 19), .ref (md 20), .ref (md 21), .ref (md 22), .int (nI sl), .int (nI (u0.1 24)), .int (nI (u0.1 25)), .ref (md 26), .ref (md 27), .ref (md 28), .int (nI (u0.1 29)), .ref (md 30), .ref (md 31), .int (nI (u0.1 32)), .int (nI (u0.1 33)), .int (nI (u0.1 34)), .int (oI u0.2.2), .int (nI (u0.1 36)), .int (nI (u0.1 37)), .int (nI (u0.1 38)), .int (nI (u0.1 39)), .ref (md 40), .int (nI (u0.1 41)), .int (nI (u0.1 42)), .int (nI (u0.1 43)), .ref (md 44), .int (nI (u0.1 45)), .int (nI (u0.1 46)), .ref (md 47), .int (nI (u0.1 48)), .int (nI (u0.1 49)), .ref (md 50), .int (nI tl)])), (md 0, .inl (cI, 7, .inl (fun i_ => nI (R i_)))), (md 6, .inl (cI, 8, .inl (fun i_ => nI (T 0 i_)))), (md 7, .inl (cI, 8, .inl (fun i_ => nI (T 1 i_)))), (md 8, .inl (cI, 8, .inl (fun i_ => nI (T 2 i_)))), (md 9, .inl (cI, 8, .inl (fun i_ => nI (T 3 i_)))), (md 10, .inl (cI, 64, .inl (fun i_ => nI (T 4 i_)))), (md 17, .inl (cI, 8, .inl (fun i_ => nI (P 0 i_)))), (md 18, .inl (cI, 8, .inl (fun i_ => nI (P 1 i_)))), (md 19, .inl (cI, 8, .inl (fun i_ => nI (P 2 i_)))), (md 20, .inl (cI, 8, .inl (fun i_ => nI (P 3 i_)))), (md 21, .inl (cI, 64, .inl (fun i_ => nI (P 4 i_)))), (md 22, .inl (cI, 64, .inl (fun i_ => nI (sg i_)))), (md 26, .inl (cC, 4, .inl (fun i_ => nI (sortsN i_)))), (md 27, .inl (cC, 5, .inl (fun i_ => nI (askersN i_)))), (md 28, .inl (cC, 5, .inl (fun i_ => nI (sayersN i_)))), (md 30, .inl (cI, 4, .inl (fun i_ => nI ((u0.2.1 30) i_)))), (md 31, .inl (cI, 8, .inl (fun i_ => nI ((u0.2.1 31) i_)))), (md 40, .inl (cI, 8, .inl (fun i_ => nI ((u0.2.1 40) i_)))), (md 44, .inl (cI, 8, .inl (fun i_ => nI ((u0.2.1 44) i_)))), (md 47, .inl (cI, 8, .inl (fun i_ => nI ((u0.2.1 47) i_)))), (md 50, .inl (cI, 8, .inl (fun i_ => nI (tg i_))))]) (rest := []) h0 (c_X6_isIn (xL κ) D cI cC k p (by omega) (by omega)) gX6_soonest_X6_isIn (by decide +kernel) rfl rfl rfl ⟨Nat.le_of_ble_eq_true rfl, Nat.le_of_ble_eq_true rfl⟩ ⟨by decide, by decide⟩ (fun _ _ _ _ h => h) (fun _ _ _ _ _ _ _ => trivial) rfl (Nat.le_of_ble_eq_true rfl) rfl [] [0, 1, 2, 3, 4, 5, 6, 7, 8, 9, 10, 11, 12, 13, 14, 15, 16, 17, 18, 19, 20, 21] [0, 1, 2, 3, 4, 5, 6, 7, 8, 9, 10, 11, 12, 13, 14, 15, 16, 17, 18, 19, 20, 21] ⟨rfl, rfl, rfl, rfl, rfl⟩ (fun _ => ⟨rfl, rfl⟩) dX6_soonest_31 (fun r_6 u_ hr_5 => ?_)
      subst hr_5
      refine xbif_eq (tgt := 44) h0 dX6_soonest_34 (by decide)  (fun c_7 => ?_) (fun c_7 => ?_)
      · skip
        have hC : rfC (T 5 0) k (nI p) (gem v) 4 = 0 := rfC_z hok hgd (by rw [xn_n (by omega)]; exact c_7)
        have hkp : ¬ k.testBit p = true := c_7
        refine xaload_n h0 0 dX6_soonest_44 rfl rfl ?_
        refine xiload_n h0 1 dX6_soonest_45 rfl rfl ?_
        refine xiconst (v := (-1)) h0 dX6_soonest_46 (by decide) ?_
        refine xcallV_v (nn := 2) (w2 := fun u_8 => (wM cI cC md T k tm dy P pk ptm pdy hpi tg tl R sg sl (upN (upN (upN (upN (upN (upN (upN (upN (upN (upN (upN (upN u0.1 32 (([] : List Nat).length)) 33 ((alS T k p).length)) 34 (onS (alS T k p))) 36 ((fwS T none (alS T k p)).length)) 37 (onS (fwS T none (alS T k p)))) 38 (u_8.2.2 4)) 39 (u_8.2.2 0)) 41 (u_8.2.2 5)) 42 (u_8.2.2 1)) 43 (u_8.2.2 2)) 45 (u_8.2.2 6)) 46 (u_8.2.2 3), upA (upA (upA (upA u0.2.1 31 u_8.1) 40 (u_8.2.1 0)) 44 (u_8.2.1 1)) 47 (u_8.2.1 2), none))) (wr := []) (rest := []) h0 (c_X6_all (xL κ) D cI cC md T k tm dy P pk ptm pdy hpi tg tl R sg sl u0 p none hT (by omega) (by omega) (by intro t e; cases e)) gX6_soonest_X6_all (by decide +kernel) rfl rfl rfl ⟨Nat.le_of_ble_eq_true rfl, Nat.le_of_ble_eq_true rfl⟩ ⟨by decide, by decide⟩ (fun _ _ _ _ h => h) (fun _ _ _ _ _ _ _ => trivial) rfl (Nat.le_of_ble_eq_true rfl) (q0 := 0) rfl rfl rfl [0, 1, 2, 3, 4, 5, 6, 7, 8, 9, 10, 11, 12, 13, 14, 15, 16, 17, 18, 19, 20, 21] [] [0, 1, 2, 3, 4, 5, 6, 7, 8, 9, 10, 11, 12, 13, 14, 15, 16, 17, 18, 19, 20, 21] ⟨rfl, rfl, rfl, rfl, rfl⟩ (fun _ => ⟨rfl, rfl⟩) dX6_soonest_47 (fun u_8 hu_9 => ?_)
        refine xiload_n h0 2 dX6_soonest_50 rfl rfl ?_
        refine xif_ge (tgt := 61) h0 dX6_soonest_51 (by decide)  (fun c_11 => ?_) (fun c_11 => ?_)
        · skip
          have hl8 := alS_8 (o := 0) hT k hp; have hln := (hu_9.2.2.2 (alS_ne hT k hp)).2.2.2.2.1
          obtain ⟨j, hj, rfl⟩ := nI_of (Int32.not_lt.mpr c_11)
          have hnj : ¬ nI j = (-1) := fun z => by rw [z] at c_11; revert c_11; decide
          refine xiload_n h0 2 dX6_soonest_61 rfl rfl ?_
          refine xaload_n h0 0 dX6_soonest_62 rfl rfl ?_
          refine xget (C := RX6) (T := TX6) (N := 52) (ci := 6) (v := .int (nI (u_8.2.2 4))) h0 hiX6 0 rfl rfl 38 (by decide) (List.mem_of_getElem? (i := 3) rfl) rfl dX6_soonest_63 ?_
          refine xncmp_ge (tgt := 78) h0 dX6_soonest_66 (by decide) (by omega) (by omega) (fun c_12 => ?_) (fun c_12 => ?_)
          · skip
            refine xbipush (v := (-9)) h0 dX6_soonest_78 (by decide) ?_
            exact xiret h0 dX6_soonest_80 (upN (upN (upN (upN (upN (upN (upN (upN (upN (upN (upN (upN u0.1 32 (([] : List Nat).length)) 33 ((alS T k p).length)) 34 (onS (alS T k p))) 36 ((fwS T none (alS T k p)).length)) 37 (onS (fwS T none (alS T k p)))) 38 (u_8.2.2 4)) 39 (u_8.2.2 0)) 41 (u_8.2.2 5)) 42 (u_8.2.2 1)) 43 (u_8.2.2 2)) 45 (u_8.2.2 6)) 46 (u_8.2.2 3), upA (upA (upA (upA u0.2.1 31 u_8.1) 40 (u_8.2.1 0)) 44 (u_8.2.1 1)) 47 (u_8.2.1 2), none) (by rw [hC, sel_0, xn_n (by omega)]; first | done | (unfold soS; rw [if_neg hnj]; first | exact (ansW_o hj hl8 (by omega)).symm | exact (ansW_i hl8 (by omega)).symm)) (by rw [hC]; first | done | rfl)
          · skip
            refine xaload_n h0 0 dX6_soonest_69 rfl rfl ?_
            refine xget (C := RX6) (T := TX6) (N := 52) (ci := 6) (v := .ref (md 40)) h0 hiX6 0 rfl rfl 40 (by decide) (List.mem_of_getElem? (i := 4) rfl) rfl dX6_soonest_70 ?_
            refine xiload_n h0 2 dX6_soonest_73 rfl rfl ?_
            refine xiald (v := (nI ((bestS T 0 (alS T k p)).getD j 0))) h0 18 0 rfl rfl (by omega) (by decide) dX6_soonest_74 (congrArg nI (hu_9.1 _ (by omega))) ?_
            refine xgoto (tgt := 80) h0 dX6_soonest_75 (by decide) ?_
            exact xiret h0 dX6_soonest_80 (upN (upN (upN (upN (upN (upN (upN (upN (upN (upN (upN (upN u0.1 32 (([] : List Nat).length)) 33 ((alS T k p).length)) 34 (onS (alS T k p))) 36 ((fwS T none (alS T k p)).length)) 37 (onS (fwS T none (alS T k p)))) 38 (u_8.2.2 4)) 39 (u_8.2.2 0)) 41 (u_8.2.2 5)) 42 (u_8.2.2 1)) 43 (u_8.2.2 2)) 45 (u_8.2.2 6)) 46 (u_8.2.2 3), upA (upA (upA (upA u0.2.1 31 u_8.1) 40 (u_8.2.1 0)) 44 (u_8.2.1 1)) 47 (u_8.2.1 2), none) (by rw [hC, sel_0, xn_n (by omega)]; first | done | (unfold soS; rw [if_neg hnj]; first | exact (ansW_o hj hl8 (by omega)).symm | exact (ansW_i hl8 (by omega)).symm)) (by rw [hC]; first | done | rfl)
        · skip
          have hl8 := alS_8 (o := 0) hT k hp; have hln := (hu_9.2.2.2 (alS_ne hT k hp)).2.2.2.2.1
          have hvm := i32_lt1 hgm (Int32.not_le.mp c_11)
          subst hvm
          refine xaload_n h0 0 dX6_soonest_54 rfl rfl ?_
          refine xget (C := RX6) (T := TX6) (N := 52) (ci := 6) (v := .int (nI (u_8.2.2 0))) h0 hiX6 0 rfl rfl 39 (by decide) (List.mem_of_getElem? (i := 2) rfl) rfl dX6_soonest_55 ?_
          refine xgoto (tgt := 80) h0 dX6_soonest_58 (by decide) ?_
          exact xiret h0 dX6_soonest_80 (upN (upN (upN (upN (upN (upN (upN (upN (upN (upN (upN (upN u0.1 32 (([] : List Nat).length)) 33 ((alS T k p).length)) 34 (onS (alS T k p))) 36 ((fwS T none (alS T k p)).length)) 37 (onS (fwS T none (alS T k p)))) 38 (u_8.2.2 4)) 39 (u_8.2.2 0)) 41 (u_8.2.2 5)) 42 (u_8.2.2 1)) 43 (u_8.2.2 2)) 45 (u_8.2.2 6)) 46 (u_8.2.2 3), upA (upA (upA (upA u0.2.1 31 u_8.1) 40 (u_8.2.1 0)) 44 (u_8.2.1 1)) 47 (u_8.2.1 2), none) (by rw [hC, sel_0, xn_n (by omega)]; first | done | (unfold soS; rw [if_pos rfl, (hu_9.2.2.2 (alS_ne hT k hp)).1])) (by rw [hC]; first | done | rfl)
      · skip
        have hC : rfC (T 5 0) k (nI p) (gem v) 4 = 3 := rfC_3 hok hgd (by rw [xn_n (by omega)]; exact c_7)
        refine xaload_n h0 0 dX6_soonest_37 rfl rfl ?_
        refine xbipush (v := (-3)) h0 dX6_soonest_38 (by decide) ?_
        refine xcallV_i (nn := 1) (w2 := fun u_ => (wM cI cC md T k tm dy P pk ptm pdy hpi tg tl (upN R 3 (R 3 + 1)) sg sl u0)) (wr := []) (rest := []) h0 (c_X6_no (xL κ) D cI cC md T k tm dy P pk ptm pdy hpi tg tl R sg sl u0 3 (by omega)) gX6_soonest_X6_no (by decide +kernel) rfl rfl rfl ⟨Nat.le_of_ble_eq_true rfl, Nat.le_of_ble_eq_true rfl⟩ ⟨by decide, by decide⟩ (fun _ _ _ _ h => h) (fun _ _ _ _ _ _ _ => trivial) rfl (Nat.le_of_ble_eq_true rfl) (q0 := 0) rfl rfl rfl [0, 1, 2, 3, 4, 5, 6, 7, 8, 9, 10, 11, 12, 13, 14, 15, 16, 17, 18, 19, 20, 21] [] [0, 1, 2, 3, 4, 5, 6, 7, 8, 9, 10, 11, 12, 13, 14, 15, 16, 17, 18, 19, 20, 21] ⟨rfl, rfl, rfl, rfl, rfl⟩ (fun _ => ⟨rfl, rfl⟩) dX6_soonest_40 (fun r_14 u_ hr_13 => ?_)
        subst hr_13
        exact xiret h0 dX6_soonest_43 u0 (by rw [hC, sel_n (by decide)]) (by rw [hC]; first | done | rfl)
    · skip
      have hC : rfC (T 5 0) k (nI p) (gem v) 4 = 4 := rfC_2 hok (gem_0 (Int32.not_le.mp c_4))
      refine xaload_n h0 0 dX6_soonest_19 rfl rfl ?_
      refine xbipush (v := (-4)) h0 dX6_soonest_20 (by decide) ?_
      refine xcallV_i (nn := 1) (w2 := fun u_ => (wM cI cC md T k tm dy P pk ptm pdy hpi tg tl (upN R 4 (R 4 + 1)) sg sl u0)) (wr := []) (rest := []) h0 (c_X6_no (xL κ) D cI cC md T k tm dy P pk ptm pdy hpi tg tl R sg sl u0 4 (by omega)) gX6_soonest_X6_no (by decide +kernel) rfl rfl rfl ⟨Nat.le_of_ble_eq_true rfl, Nat.le_of_ble_eq_true rfl⟩ ⟨by decide, by decide⟩ (fun _ _ _ _ h => h) (fun _ _ _ _ _ _ _ => trivial) rfl (Nat.le_of_ble_eq_true rfl) (q0 := 0) rfl rfl rfl [0, 1, 2, 3, 4, 5, 6, 7, 8, 9, 10, 11, 12, 13, 14, 15, 16, 17, 18, 19, 20, 21] [] [0, 1, 2, 3, 4, 5, 6, 7, 8, 9, 10, 11, 12, 13, 14, 15, 16, 17, 18, 19, 20, 21] ⟨rfl, rfl, rfl, rfl, rfl⟩ (fun _ => ⟨rfl, rfl⟩) dX6_soonest_22 (fun r_16 u_ hr_15 => ?_)
      subst hr_15
      exact xiret h0 dX6_soonest_25 u0 (by rw [hC, sel_n (by decide)]) (by rw [hC]; first | done | rfl)
  · skip
    have hC : rfC (T 5 0) k x (gem v) 4 = 1 := rfC_1 c_3
    refine xaload_n h0 0 dX6_soonest_8 rfl rfl ?_
    refine xiconst (v := (-1)) h0 dX6_soonest_9 (by decide) ?_
    refine xcallV_i (nn := 1) (w2 := fun u_ => (wM cI cC md T k tm dy P pk ptm pdy hpi tg tl (upN R 1 (R 1 + 1)) sg sl u0)) (wr := []) (rest := []) h0 (c_X6_no (xL κ) D cI cC md T k tm dy P pk ptm pdy hpi tg tl R sg sl u0 1 (by omega)) gX6_soonest_X6_no (by decide +kernel) rfl rfl rfl ⟨Nat.le_of_ble_eq_true rfl, Nat.le_of_ble_eq_true rfl⟩ ⟨by decide, by decide⟩ (fun _ _ _ _ h => h) (fun _ _ _ _ _ _ _ => trivial) rfl (Nat.le_of_ble_eq_true rfl) (q0 := 0) rfl rfl rfl [0, 1, 2, 3, 4, 5, 6, 7, 8, 9, 10, 11, 12, 13, 14, 15, 16, 17, 18, 19, 20, 21] [] [0, 1, 2, 3, 4, 5, 6, 7, 8, 9, 10, 11, 12, 13, 14, 15, 16, 17, 18, 19, 20, 21] ⟨rfl, rfl, rfl, rfl, rfl⟩ (fun _ => ⟨rfl, rfl⟩) dX6_soonest_10 (fun r_18 u_ hr_17 => ?_)
    subst hr_17
    exact xiret h0 dX6_soonest_13 u0 (by rw [hC, sel_n (by decide)]) (by rw [hC]; first | done | rfl)
set_option maxHeartbeats 4000000 in
set_option maxRecDepth 100000 in
theorem c_X6_surest (l : Launch) (D : va_G) (cI cC : ClassId) (md : Nat → Nat) (T : TT) (k tm dy : Nat) (P : TT) (pk ptm pdy hpi : Nat) (tg : Nat → Nat) (tl : Nat) (R : Nat → Nat) (sg : Nat → Nat) (sl : Nat) (u0 : ScmT) (x v : Int32) (hT : TOK T) (hk : k < 256) (hP : TOK P) (hpk : pk < 256) (htl : tl ≤ 8) (hsl : sl ≤ 64) (hhp : hpi < 2) (htg : ∀ i, tg i ≤ 9) : XMi l yX6_surest wsX6_surest ({ frames := 14, cells := 0, slots := 0, locals := 436 } : Room) D (xT cI cC) xE0 (wM cI cC md T k tm dy P pk ptm pdy hpi tg tl R sg sl u0) [.ref (md 1), .int x, .int v] (S := ScmT) (fun r _ => r = sel (rfC (T 5 0) k x (gem v) 4) (suS T k (xn x) v) (-(nI (rfC (T 5 0) k x (gem v) 4)))) (fun u => wM cI cC md T k tm dy P pk ptm pdy hpi tg tl (bmp R (rfC (T 5 0) k x (gem v) 4)) sg sl u) 0 0 := by
  refine xMet_i (cc := cX6_surest) (nL := 3) (ret := some .int) (by decide +kernel) rfl (Nat.le_of_ble_eq_true rfl) (fun κ A h0 hn0 hE => ?_)
  have hiX6 : ∀ w ∈ u_ws RX6 TX6 52, w ∈ wsX6_surest := by decide +kernel
  refine xlv (lv' := [(0, .ref (md 1)), (1, .int x), (2, .int v)]) [0, 1, 2] rfl ?_
  have hn := hT.1
  refine xaload_n h0 0 dX6_surest_0 rfl rfl ?_
  refine xiload_n h0 1 dX6_surest_1 rfl rfl ?_
  refine xcallV_i (nn := 1) (w2 := fun u_ => (wM cI cC md T k tm dy P pk ptm pdy hpi tg tl R sg sl u0)) (wr := []) (rest := []) h0 (c_X6_isNobody (xL κ) D cI cC md T k tm dy P pk ptm pdy hpi tg tl R sg sl u0 x (by omega)) gX6_surest_X6_isNobody (by decide +kernel) rfl rfl rfl ⟨Nat.le_of_ble_eq_true rfl, Nat.le_of_ble_eq_true rfl⟩ ⟨by decide, by decide⟩ (fun _ _ _ _ h => h) (fun _ _ _ _ _ _ _ => trivial) rfl (Nat.le_of_ble_eq_true rfl) (q0 := 0) rfl rfl rfl [0, 1, 2, 3, 4, 5, 6, 7, 8, 9, 10, 11, 12, 13, 14, 15, 16, 17, 18, 19, 20, 21] [] [0, 1, 2, 3, 4, 5, 6, 7, 8, 9, 10, 11, 12, 13, 14, 15, 16, 17, 18, 19, 20, 21] ⟨rfl, rfl, rfl, rfl, rfl⟩ (fun _ => ⟨rfl, rfl⟩) dX6_surest_2 (fun r_2 u_ hr_1 => ?_)
  subst hr_1
  refine xbif_eq (tgt := 14) h0 dX6_surest_5 (by decide)  (fun c_3 => ?_) (fun c_3 => ?_)
  · skip
    obtain ⟨p, hp, hxp⟩ := okN_of hn (Decidable.of_not_not c_3)
    subst hxp
    have hp8 : p < 8 := by omega
    have hok : okN (T 5 0) (nI p) := (okN_n hn (by omega)).mpr hp
    refine xiload_n h0 2 dX6_surest_14 rfl rfl ?_
    refine xiconst (v := (-1)) h0 dX6_surest_15 (by decide) ?_
    refine xicmp_ge (tgt := 26) h0 dX6_surest_16 (by decide)  (fun c_4 => ?_) (fun c_4 => ?_)
    · skip
      have hgm : ¬ v < (-1) := Int32.not_lt.mpr c_4
      have hgd := gem_1 hgm
      refine xaload_n h0 0 dX6_surest_26 rfl rfl ?_
      refine xget (C := RX6) (T := TX6) (N := 52) (ci := 6) (v := .int (nI k)) h0 hiX6 0 rfl rfl 3 (by decide) (List.mem_of_getElem? (i := 1) rfl) rfl dX6_surest_27 ?_
      refine xiload_n h0 1 dX6_surest_30 rfl rfl ?_
      refine xcallS_i (nn := 2) (w2 := fun u_ => (wM cI cC md T k tm dy P pk ptm pdy hpi tg tl R sg sl u0)) (wr := [(md 1, .inr (6, [.ref (md 0), .int (nI (T 5 0)), .int (nI (T 5 1)), .int (nI k), .int (nI tm), .int (nI dy), .ref (md 6), .ref (md 7), .ref (md 8), .ref (md 9), .ref (md 10), .int (nI hpi), .int (nI (P 5 0)), .int (nI (P 5 1)), .int (nI pk), .int (nI ptm), .int (nI pdy), .ref (md 17), .ref (md 18), .ref (md 19), .ref (md 20), .ref (md 21), .ref (md 22), .int (nI sl), .int (nI (u0.1 24)), .int (nI (u0.1 25)), .ref (md 26), .ref (md 27), .ref (md 28), .int (nI (u0.1 29)), .ref (md 30), .ref (md 31), .int (nI (u0.1 32)), .int (nI (u0.1 33)), .int (nI (u0.1 34)), .int (oI u0.2.2), .int (nI (u0.1 36)), .int (nI (u0.1 37)), .int (nI (u0.1 38)), .int (nI (u0.1 39)), .ref (md 40), .int (nI (u0.1 41)), .int (nI (u0.1 42)), .int (nI (u0.1 43)), .ref (md 44), .int (nI (u0.1 45)), .int (nI (u0.1 46)), .ref (md 47), .int (nI (u0.1 48)), .int (nI (u0.1 49)), .ref (md 50), .int (nI tl)])), (md 0, .inl (cI, 7, .inl (fun i_ => nI (R i_)))), (md 6, .inl (cI, 8, .inl (fun i_ => nI (T 0 i_)))), (md 7, .inl (cI, 8, .inl (fun i_ => nI (T 1 i_)))), (md 8, .inl (cI, 8, .inl (fun i_ => nI (T 2 i_)))), (md 9, .inl (cI, 8, .inl (fun i_ => nI (T 3 i_)))), (md 10, .inl (cI, 64, .inl (fun i_ => nI (T 4 i_)))), (md 17, .inl (cI, 8, .inl (fun i_ => nI (P 0 i_)))), (md 18, .inl (cI, 8, .inl (fun i_ => nI (P 1 i_)))), (md 19, .inl (cI, 8, .inl (fun i_ => nI (P 2 i_)))), (md 20, .inl (cI, 8, .inl (fun i_ => nI (P 3 i_)))), (md 21, .inl (cI, 64, .inl (fun i_ => nI (P 4 i_)))), (md 22, .inl (cI, 64, .inl (fun i_ => nI (sg i_)))), (md 26, .inl (cC, 4, .inl (fun i_ => nI (sortsN i_)))), (md 27, .inl (cC, 5, .inl (fun i_ => nI (askersN i_)))), (md 28, .inl (cC, 5, .inl (fun i_ => nI (sayersN i_)))), (md 30, .inl (cI, 4, .inl (fun i_ => nI ((u0.2.1 30) i_)))), (md 31, .inl (cI, 8, .inl (fun i_ => nI ((u0.2.1 31) i_)))), (md 40, .inl (cI, 8, .inl (fun i_ => nI ((u0.2.1 40) i_)))), (md 44, .inl (cI, 8, .inl (fun i_ => nI ((u0.2.1 44) i_)))), (md 47, .inl (cI, 8, .inl (fun i_ => nI ((u0.2.1 47) i_)))), (md 50, .inl (cI, 8, .inl (fun i_ => nI (tg i_))))]) (rest := []) h0 (c_X6_isIn (xL κ) D cI cC k p (by omega) (by omega)) gX6_surest_X6_isIn (by decide +kernel) rfl rfl rfl ⟨Nat.le_of_ble_eq_true rfl, Nat.le_of_ble_eq_true rfl⟩ ⟨by decide, by decide⟩ (fun _ _ _ _ h => h) (fun _ _ _ _ _ _ _ => trivial) rfl (Nat.le_of_ble_eq_true rfl) rfl [] [0, 1, 2, 3, 4, 5, 6, 7, 8, 9, 10, 11, 12, 13, 14, 15, 16, 17, 18, 19, 20, 21] [0, 1, 2, 3, 4, 5, 6, 7, 8, 9, 10, 11, 12, 13, 14, 15, 16, 17, 18, 19, 20, 21] ⟨rfl, rfl, rfl, rfl, rfl⟩ (fun _ => ⟨rfl, rfl⟩) dX6_surest_31 (fun r_6 u_ hr_5 => ?_)
      subst hr_5
      refine xbif_eq (tgt := 44) h0 dX6_surest_34 (by decide)  (fun c_7 => ?_) (fun c_7 => ?_)
      · skip
        have hC : rfC (T 5 0) k (nI p) (gem v) 4 = 0 := rfC_z hok hgd (by rw [xn_n (by omega)]; exact c_7)
        have hkp : ¬ k.testBit p = true := c_7
        refine xaload_n h0 0 dX6_surest_44 rfl rfl ?_
        refine xiload_n h0 1 dX6_surest_45 rfl rfl ?_
        refine xiconst (v := (-1)) h0 dX6_surest_46 (by decide) ?_
        refine xcallV_v (nn := 2) (w2 := fun u_8 => (wM cI cC md T k tm dy P pk ptm pdy hpi tg tl R sg sl (upN (upN (upN (upN (upN (upN (upN (upN (upN (upN (upN (upN u0.1 32 (([] : List Nat).length)) 33 ((alS T k p).length)) 34 (onS (alS T k p))) 36 ((fwS T none (alS T k p)).length)) 37 (onS (fwS T none (alS T k p)))) 38 (u_8.2.2 4)) 39 (u_8.2.2 0)) 41 (u_8.2.2 5)) 42 (u_8.2.2 1)) 43 (u_8.2.2 2)) 45 (u_8.2.2 6)) 46 (u_8.2.2 3), upA (upA (upA (upA u0.2.1 31 u_8.1) 40 (u_8.2.1 0)) 44 (u_8.2.1 1)) 47 (u_8.2.1 2), none))) (wr := []) (rest := []) h0 (c_X6_all (xL κ) D cI cC md T k tm dy P pk ptm pdy hpi tg tl R sg sl u0 p none hT (by omega) (by omega) (by intro t e; cases e)) gX6_surest_X6_all (by decide +kernel) rfl rfl rfl ⟨Nat.le_of_ble_eq_true rfl, Nat.le_of_ble_eq_true rfl⟩ ⟨by decide, by decide⟩ (fun _ _ _ _ h => h) (fun _ _ _ _ _ _ _ => trivial) rfl (Nat.le_of_ble_eq_true rfl) (q0 := 0) rfl rfl rfl [0, 1, 2, 3, 4, 5, 6, 7, 8, 9, 10, 11, 12, 13, 14, 15, 16, 17, 18, 19, 20, 21] [] [0, 1, 2, 3, 4, 5, 6, 7, 8, 9, 10, 11, 12, 13, 14, 15, 16, 17, 18, 19, 20, 21] ⟨rfl, rfl, rfl, rfl, rfl⟩ (fun _ => ⟨rfl, rfl⟩) dX6_surest_47 (fun u_8 hu_9 => ?_)
        refine xiload_n h0 2 dX6_surest_50 rfl rfl ?_
        refine xif_ge (tgt := 61) h0 dX6_surest_51 (by decide)  (fun c_11 => ?_) (fun c_11 => ?_)
        · skip
          have hl8 := alS_8 (o := 1) hT k hp; have hln := (hu_9.2.2.2 (alS_ne hT k hp)).2.2.2.2.2.1
          obtain ⟨j, hj, rfl⟩ := nI_of (Int32.not_lt.mpr c_11)
          have hnj : ¬ nI j = (-1) := fun z => by rw [z] at c_11; revert c_11; decide
          refine xiload_n h0 2 dX6_surest_61 rfl rfl ?_
          refine xaload_n h0 0 dX6_surest_62 rfl rfl ?_
          refine xget (C := RX6) (T := TX6) (N := 52) (ci := 6) (v := .int (nI (u_8.2.2 5))) h0 hiX6 0 rfl rfl 41 (by decide) (List.mem_of_getElem? (i := 3) rfl) rfl dX6_surest_63 ?_
          refine xncmp_ge (tgt := 78) h0 dX6_surest_66 (by decide) (by omega) (by omega) (fun c_12 => ?_) (fun c_12 => ?_)
          · skip
            refine xbipush (v := (-9)) h0 dX6_surest_78 (by decide) ?_
            exact xiret h0 dX6_surest_80 (upN (upN (upN (upN (upN (upN (upN (upN (upN (upN (upN (upN u0.1 32 (([] : List Nat).length)) 33 ((alS T k p).length)) 34 (onS (alS T k p))) 36 ((fwS T none (alS T k p)).length)) 37 (onS (fwS T none (alS T k p)))) 38 (u_8.2.2 4)) 39 (u_8.2.2 0)) 41 (u_8.2.2 5)) 42 (u_8.2.2 1)) 43 (u_8.2.2 2)) 45 (u_8.2.2 6)) 46 (u_8.2.2 3), upA (upA (upA (upA u0.2.1 31 u_8.1) 40 (u_8.2.1 0)) 44 (u_8.2.1 1)) 47 (u_8.2.1 2), none) (by rw [hC, sel_0, xn_n (by omega)]; first | done | (unfold suS; rw [if_neg hnj]; first | exact (ansW_o hj hl8 (by omega)).symm | exact (ansW_i hl8 (by omega)).symm)) (by rw [hC]; first | done | rfl)
          · skip
            refine xaload_n h0 0 dX6_surest_69 rfl rfl ?_
            refine xget (C := RX6) (T := TX6) (N := 52) (ci := 6) (v := .ref (md 44)) h0 hiX6 0 rfl rfl 44 (by decide) (List.mem_of_getElem? (i := 4) rfl) rfl dX6_surest_70 ?_
            refine xiload_n h0 2 dX6_surest_73 rfl rfl ?_
            refine xiald (v := (nI ((bestS T 1 (alS T k p)).getD j 0))) h0 19 0 rfl rfl (by omega) (by decide) dX6_surest_74 (congrArg nI (hu_9.2.1 _ (by omega))) ?_
            refine xgoto (tgt := 80) h0 dX6_surest_75 (by decide) ?_
            exact xiret h0 dX6_surest_80 (upN (upN (upN (upN (upN (upN (upN (upN (upN (upN (upN (upN u0.1 32 (([] : List Nat).length)) 33 ((alS T k p).length)) 34 (onS (alS T k p))) 36 ((fwS T none (alS T k p)).length)) 37 (onS (fwS T none (alS T k p)))) 38 (u_8.2.2 4)) 39 (u_8.2.2 0)) 41 (u_8.2.2 5)) 42 (u_8.2.2 1)) 43 (u_8.2.2 2)) 45 (u_8.2.2 6)) 46 (u_8.2.2 3), upA (upA (upA (upA u0.2.1 31 u_8.1) 40 (u_8.2.1 0)) 44 (u_8.2.1 1)) 47 (u_8.2.1 2), none) (by rw [hC, sel_0, xn_n (by omega)]; first | done | (unfold suS; rw [if_neg hnj]; first | exact (ansW_o hj hl8 (by omega)).symm | exact (ansW_i hl8 (by omega)).symm)) (by rw [hC]; first | done | rfl)
        · skip
          have hl8 := alS_8 (o := 1) hT k hp; have hln := (hu_9.2.2.2 (alS_ne hT k hp)).2.2.2.2.2.1
          have hvm := i32_lt1 hgm (Int32.not_le.mp c_11)
          subst hvm
          refine xaload_n h0 0 dX6_surest_54 rfl rfl ?_
          refine xget (C := RX6) (T := TX6) (N := 52) (ci := 6) (v := .int (nI (u_8.2.2 1))) h0 hiX6 0 rfl rfl 42 (by decide) (List.mem_of_getElem? (i := 2) rfl) rfl dX6_surest_55 ?_
          refine xgoto (tgt := 80) h0 dX6_surest_58 (by decide) ?_
          exact xiret h0 dX6_surest_80 (upN (upN (upN (upN (upN (upN (upN (upN (upN (upN (upN (upN u0.1 32 (([] : List Nat).length)) 33 ((alS T k p).length)) 34 (onS (alS T k p))) 36 ((fwS T none (alS T k p)).length)) 37 (onS (fwS T none (alS T k p)))) 38 (u_8.2.2 4)) 39 (u_8.2.2 0)) 41 (u_8.2.2 5)) 42 (u_8.2.2 1)) 43 (u_8.2.2 2)) 45 (u_8.2.2 6)) 46 (u_8.2.2 3), upA (upA (upA (upA u0.2.1 31 u_8.1) 40 (u_8.2.1 0)) 44 (u_8.2.1 1)) 47 (u_8.2.1 2), none) (by rw [hC, sel_0, xn_n (by omega)]; first | done | (unfold suS; rw [if_pos rfl, (hu_9.2.2.2 (alS_ne hT k hp)).2.1])) (by rw [hC]; first | done | rfl)
      · skip
        have hC : rfC (T 5 0) k (nI p) (gem v) 4 = 3 := rfC_3 hok hgd (by rw [xn_n (by omega)]; exact c_7)
        refine xaload_n h0 0 dX6_surest_37 rfl rfl ?_
        refine xbipush (v := (-3)) h0 dX6_surest_38 (by decide) ?_
        refine xcallV_i (nn := 1) (w2 := fun u_ => (wM cI cC md T k tm dy P pk ptm pdy hpi tg tl (upN R 3 (R 3 + 1)) sg sl u0)) (wr := []) (rest := []) h0 (c_X6_no (xL κ) D cI cC md T k tm dy P pk ptm pdy hpi tg tl R sg sl u0 3 (by omega)) gX6_surest_X6_no (by decide +kernel) rfl rfl rfl ⟨Nat.le_of_ble_eq_true rfl, Nat.le_of_ble_eq_true rfl⟩ ⟨by decide, by decide⟩ (fun _ _ _ _ h => h) (fun _ _ _ _ _ _ _ => trivial) rfl (Nat.le_of_ble_eq_true rfl) (q0 := 0) rfl rfl rfl [0, 1, 2, 3, 4, 5, 6, 7, 8, 9, 10, 11, 12, 13, 14, 15, 16, 17, 18, 19, 20, 21] [] [0, 1, 2, 3, 4, 5, 6, 7, 8, 9, 10, 11, 12, 13, 14, 15, 16, 17, 18, 19, 20, 21] ⟨rfl, rfl, rfl, rfl, rfl⟩ (fun _ => ⟨rfl, rfl⟩) dX6_surest_40 (fun r_14 u_ hr_13 => ?_)
        subst hr_13
        exact xiret h0 dX6_surest_43 u0 (by rw [hC, sel_n (by decide)]) (by rw [hC]; first | done | rfl)
    · skip
      have hC : rfC (T 5 0) k (nI p) (gem v) 4 = 4 := rfC_2 hok (gem_0 (Int32.not_le.mp c_4))
      refine xaload_n h0 0 dX6_surest_19 rfl rfl ?_
      refine xbipush (v := (-4)) h0 dX6_surest_20 (by decide) ?_
      refine xcallV_i (nn := 1) (w2 := fun u_ => (wM cI cC md T k tm dy P pk ptm pdy hpi tg tl (upN R 4 (R 4 + 1)) sg sl u0)) (wr := []) (rest := []) h0 (c_X6_no (xL κ) D cI cC md T k tm dy P pk ptm pdy hpi tg tl R sg sl u0 4 (by omega)) gX6_surest_X6_no (by decide +kernel) rfl rfl rfl ⟨Nat.le_of_ble_eq_true rfl, Nat.le_of_ble_eq_true rfl⟩ ⟨by decide, by decide⟩ (fun _ _ _ _ h => h) (fun _ _ _ _ _ _ _ => trivial) rfl (Nat.le_of_ble_eq_true rfl) (q0 := 0) rfl rfl rfl [0, 1, 2, 3, 4, 5, 6, 7, 8, 9, 10, 11, 12, 13, 14, 15, 16, 17, 18, 19, 20, 21] [] [0, 1, 2, 3, 4, 5, 6, 7, 8, 9, 10, 11, 12, 13, 14, 15, 16, 17, 18, 19, 20, 21] ⟨rfl, rfl, rfl, rfl, rfl⟩ (fun _ => ⟨rfl, rfl⟩) dX6_surest_22 (fun r_16 u_ hr_15 => ?_)
      subst hr_15
      exact xiret h0 dX6_surest_25 u0 (by rw [hC, sel_n (by decide)]) (by rw [hC]; first | done | rfl)
  · skip
    have hC : rfC (T 5 0) k x (gem v) 4 = 1 := rfC_1 c_3
    refine xaload_n h0 0 dX6_surest_8 rfl rfl ?_
    refine xiconst (v := (-1)) h0 dX6_surest_9 (by decide) ?_
    refine xcallV_i (nn := 1) (w2 := fun u_ => (wM cI cC md T k tm dy P pk ptm pdy hpi tg tl (upN R 1 (R 1 + 1)) sg sl u0)) (wr := []) (rest := []) h0 (c_X6_no (xL κ) D cI cC md T k tm dy P pk ptm pdy hpi tg tl R sg sl u0 1 (by omega)) gX6_surest_X6_no (by decide +kernel) rfl rfl rfl ⟨Nat.le_of_ble_eq_true rfl, Nat.le_of_ble_eq_true rfl⟩ ⟨by decide, by decide⟩ (fun _ _ _ _ h => h) (fun _ _ _ _ _ _ _ => trivial) rfl (Nat.le_of_ble_eq_true rfl) (q0 := 0) rfl rfl rfl [0, 1, 2, 3, 4, 5, 6, 7, 8, 9, 10, 11, 12, 13, 14, 15, 16, 17, 18, 19, 20, 21] [] [0, 1, 2, 3, 4, 5, 6, 7, 8, 9, 10, 11, 12, 13, 14, 15, 16, 17, 18, 19, 20, 21] ⟨rfl, rfl, rfl, rfl, rfl⟩ (fun _ => ⟨rfl, rfl⟩) dX6_surest_10 (fun r_18 u_ hr_17 => ?_)
    subst hr_17
    exact xiret h0 dX6_surest_13 u0 (by rw [hC, sel_n (by decide)]) (by rw [hC]; first | done | rfl)
set_option maxHeartbeats 4000000 in
set_option maxRecDepth 100000 in
theorem c_X6_longest (l : Launch) (D : va_G) (cI cC : ClassId) (md : Nat → Nat) (T : TT) (k tm dy : Nat) (P : TT) (pk ptm pdy hpi : Nat) (tg : Nat → Nat) (tl : Nat) (R : Nat → Nat) (sg : Nat → Nat) (sl : Nat) (u0 : ScmT) (x v : Int32) (hT : TOK T) (hk : k < 256) (hP : TOK P) (hpk : pk < 256) (htl : tl ≤ 8) (hsl : sl ≤ 64) (hhp : hpi < 2) (htg : ∀ i, tg i ≤ 9) : XMi l yX6_longest wsX6_longest ({ frames := 14, cells := 0, slots := 0, locals := 436 } : Room) D (xT cI cC) xE0 (wM cI cC md T k tm dy P pk ptm pdy hpi tg tl R sg sl u0) [.ref (md 1), .int x, .int v] (S := ScmT) (fun r _ => r = sel (rfC (T 5 0) k x (gem v) 4) (loS T k (xn x) v) (-(nI (rfC (T 5 0) k x (gem v) 4)))) (fun u => wM cI cC md T k tm dy P pk ptm pdy hpi tg tl (bmp R (rfC (T 5 0) k x (gem v) 4)) sg sl u) 0 0 := by
  refine xMet_i (cc := cX6_longest) (nL := 3) (ret := some .int) (by decide +kernel) rfl (Nat.le_of_ble_eq_true rfl) (fun κ A h0 hn0 hE => ?_)
  have hiX6 : ∀ w ∈ u_ws RX6 TX6 52, w ∈ wsX6_longest := by decide +kernel
  refine xlv (lv' := [(0, .ref (md 1)), (1, .int x), (2, .int v)]) [0, 1, 2] rfl ?_
  have hn := hT.1
  refine xaload_n h0 0 dX6_longest_0 rfl rfl ?_
  refine xiload_n h0 1 dX6_longest_1 rfl rfl ?_
  refine xcallV_i (nn := 1) (w2 := fun u_ => (wM cI cC md T k tm dy P pk ptm pdy hpi tg tl R sg sl u0)) (wr := []) (rest := []) h0 (c_X6_isNobody (xL κ) D cI cC md T k tm dy P pk ptm pdy hpi tg tl R sg sl u0 x (by omega)) gX6_longest_X6_isNobody (by decide +kernel) rfl rfl rfl ⟨Nat.le_of_ble_eq_true rfl, Nat.le_of_ble_eq_true rfl⟩ ⟨by decide, by decide⟩ (fun _ _ _ _ h => h) (fun _ _ _ _ _ _ _ => trivial) rfl (Nat.le_of_ble_eq_true rfl) (q0 := 0) rfl rfl rfl [0, 1, 2, 3, 4, 5, 6, 7, 8, 9, 10, 11, 12, 13, 14, 15, 16, 17, 18, 19, 20, 21] [] [0, 1, 2, 3, 4, 5, 6, 7, 8, 9, 10, 11, 12, 13, 14, 15, 16, 17, 18, 19, 20, 21] ⟨rfl, rfl, rfl, rfl, rfl⟩ (fun _ => ⟨rfl, rfl⟩) dX6_longest_2 (fun r_2 u_ hr_1 => ?_)
  subst hr_1
  refine xbif_eq (tgt := 14) h0 dX6_longest_5 (by decide)  (fun c_3 => ?_) (fun c_3 => ?_)
  · skip
    obtain ⟨p, hp, hxp⟩ := okN_of hn (Decidable.of_not_not c_3)
    subst hxp
    have hp8 : p < 8 := by omega
    have hok : okN (T 5 0) (nI p) := (okN_n hn (by omega)).mpr hp
    refine xiload_n h0 2 dX6_longest_14 rfl rfl ?_
    refine xiconst (v := (-1)) h0 dX6_longest_15 (by decide) ?_
    refine xicmp_ge (tgt := 26) h0 dX6_longest_16 (by decide)  (fun c_4 => ?_) (fun c_4 => ?_)
    · skip
      have hgm : ¬ v < (-1) := Int32.not_lt.mpr c_4
      have hgd := gem_1 hgm
      refine xaload_n h0 0 dX6_longest_26 rfl rfl ?_
      refine xget (C := RX6) (T := TX6) (N := 52) (ci := 6) (v := .int (nI k)) h0 hiX6 0 rfl rfl 3 (by decide) (List.mem_of_getElem? (i := 1) rfl) rfl dX6_longest_27 ?_
      refine xiload_n h0 1 dX6_longest_30 rfl rfl ?_
      refine xcallS_i (nn := 2) (w2 := fun u_ => (wM cI cC md T k tm dy P pk ptm pdy hpi tg tl R sg sl u0)) (wr := [(md 1, .inr (6, [.ref (md 0), .int (nI (T 5 0)), .int (nI (T 5 1)), .int (nI k), .int (nI tm), .int (nI dy), .ref (md 6), .ref (md 7), .ref (md 8), .ref (md 9), .ref (md 10), .int (nI hpi), .int (nI (P 5 0)), .int (nI (P 5 1)), .int (nI pk), .int (nI ptm), .int (nI pdy), .ref (md 17), .ref (md 18), .ref (md 19), .ref (md 20), .ref (md 21), .ref (md 22), .int (nI sl), .int (nI (u0.1 24)), .int (nI (u0.1 25)), .ref (md 26), .ref (md 27), .ref (md 28), .int (nI (u0.1 29)), .ref (md 30), .ref (md 31), .int (nI (u0.1 32)), .int (nI (u0.1 33)), .int (nI (u0.1 34)), .int (oI u0.2.2), .int (nI (u0.1 36)), .int (nI (u0.1 37)), .int (nI (u0.1 38)), .int (nI (u0.1 39)), .ref (md 40), .int (nI (u0.1 41)), .int (nI (u0.1 42)), .int (nI (u0.1 43)), .ref (md 44), .int (nI (u0.1 45)), .int (nI (u0.1 46)), .ref (md 47), .int (nI (u0.1 48)), .int (nI (u0.1 49)), .ref (md 50), .int (nI tl)])), (md 0, .inl (cI, 7, .inl (fun i_ => nI (R i_)))), (md 6, .inl (cI, 8, .inl (fun i_ => nI (T 0 i_)))), (md 7, .inl (cI, 8, .inl (fun i_ => nI (T 1 i_)))), (md 8, .inl (cI, 8, .inl (fun i_ => nI (T 2 i_)))), (md 9, .inl (cI, 8, .inl (fun i_ => nI (T 3 i_)))), (md 10, .inl (cI, 64, .inl (fun i_ => nI (T 4 i_)))), (md 17, .inl (cI, 8, .inl (fun i_ => nI (P 0 i_)))), (md 18, .inl (cI, 8, .inl (fun i_ => nI (P 1 i_)))), (md 19, .inl (cI, 8, .inl (fun i_ => nI (P 2 i_)))), (md 20, .inl (cI, 8, .inl (fun i_ => nI (P 3 i_)))), (md 21, .inl (cI, 64, .inl (fun i_ => nI (P 4 i_)))), (md 22, .inl (cI, 64, .inl (fun i_ => nI (sg i_)))), (md 26, .inl (cC, 4, .inl (fun i_ => nI (sortsN i_)))), (md 27, .inl (cC, 5, .inl (fun i_ => nI (askersN i_)))), (md 28, .inl (cC, 5, .inl (fun i_ => nI (sayersN i_)))), (md 30, .inl (cI, 4, .inl (fun i_ => nI ((u0.2.1 30) i_)))), (md 31, .inl (cI, 8, .inl (fun i_ => nI ((u0.2.1 31) i_)))), (md 40, .inl (cI, 8, .inl (fun i_ => nI ((u0.2.1 40) i_)))), (md 44, .inl (cI, 8, .inl (fun i_ => nI ((u0.2.1 44) i_)))), (md 47, .inl (cI, 8, .inl (fun i_ => nI ((u0.2.1 47) i_)))), (md 50, .inl (cI, 8, .inl (fun i_ => nI (tg i_))))]) (rest := []) h0 (c_X6_isIn (xL κ) D cI cC k p (by omega) (by omega)) gX6_longest_X6_isIn (by decide +kernel) rfl rfl rfl ⟨Nat.le_of_ble_eq_true rfl, Nat.le_of_ble_eq_true rfl⟩ ⟨by decide, by decide⟩ (fun _ _ _ _ h => h) (fun _ _ _ _ _ _ _ => trivial) rfl (Nat.le_of_ble_eq_true rfl) rfl [] [0, 1, 2, 3, 4, 5, 6, 7, 8, 9, 10, 11, 12, 13, 14, 15, 16, 17, 18, 19, 20, 21] [0, 1, 2, 3, 4, 5, 6, 7, 8, 9, 10, 11, 12, 13, 14, 15, 16, 17, 18, 19, 20, 21] ⟨rfl, rfl, rfl, rfl, rfl⟩ (fun _ => ⟨rfl, rfl⟩) dX6_longest_31 (fun r_6 u_ hr_5 => ?_)
      subst hr_5
      refine xbif_eq (tgt := 44) h0 dX6_longest_34 (by decide)  (fun c_7 => ?_) (fun c_7 => ?_)
      · skip
        have hC : rfC (T 5 0) k (nI p) (gem v) 4 = 0 := rfC_z hok hgd (by rw [xn_n (by omega)]; exact c_7)
        have hkp : ¬ k.testBit p = true := c_7
        refine xaload_n h0 0 dX6_longest_44 rfl rfl ?_
        refine xiload_n h0 1 dX6_longest_45 rfl rfl ?_
        refine xiconst (v := (-1)) h0 dX6_longest_46 (by decide) ?_
        refine xcallV_v (nn := 2) (w2 := fun u_8 => (wM cI cC md T k tm dy P pk ptm pdy hpi tg tl R sg sl (upN (upN (upN (upN (upN (upN (upN (upN (upN (upN (upN (upN u0.1 32 (([] : List Nat).length)) 33 ((alS T k p).length)) 34 (onS (alS T k p))) 36 ((fwS T none (alS T k p)).length)) 37 (onS (fwS T none (alS T k p)))) 38 (u_8.2.2 4)) 39 (u_8.2.2 0)) 41 (u_8.2.2 5)) 42 (u_8.2.2 1)) 43 (u_8.2.2 2)) 45 (u_8.2.2 6)) 46 (u_8.2.2 3), upA (upA (upA (upA u0.2.1 31 u_8.1) 40 (u_8.2.1 0)) 44 (u_8.2.1 1)) 47 (u_8.2.1 2), none))) (wr := []) (rest := []) h0 (c_X6_all (xL κ) D cI cC md T k tm dy P pk ptm pdy hpi tg tl R sg sl u0 p none hT (by omega) (by omega) (by intro t e; cases e)) gX6_longest_X6_all (by decide +kernel) rfl rfl rfl ⟨Nat.le_of_ble_eq_true rfl, Nat.le_of_ble_eq_true rfl⟩ ⟨by decide, by decide⟩ (fun _ _ _ _ h => h) (fun _ _ _ _ _ _ _ => trivial) rfl (Nat.le_of_ble_eq_true rfl) (q0 := 0) rfl rfl rfl [0, 1, 2, 3, 4, 5, 6, 7, 8, 9, 10, 11, 12, 13, 14, 15, 16, 17, 18, 19, 20, 21] [] [0, 1, 2, 3, 4, 5, 6, 7, 8, 9, 10, 11, 12, 13, 14, 15, 16, 17, 18, 19, 20, 21] ⟨rfl, rfl, rfl, rfl, rfl⟩ (fun _ => ⟨rfl, rfl⟩) dX6_longest_47 (fun u_8 hu_9 => ?_)
        refine xiload_n h0 2 dX6_longest_50 rfl rfl ?_
        refine xif_ge (tgt := 61) h0 dX6_longest_51 (by decide)  (fun c_11 => ?_) (fun c_11 => ?_)
        · skip
          have hl8 := alS_8 (o := 2) hT k hp; have hln := (hu_9.2.2.2 (alS_ne hT k hp)).2.2.2.2.2.2
          obtain ⟨j, hj, rfl⟩ := nI_of (Int32.not_lt.mpr c_11)
          have hnj : ¬ nI j = (-1) := fun z => by rw [z] at c_11; revert c_11; decide
          refine xiload_n h0 2 dX6_longest_61 rfl rfl ?_
          refine xaload_n h0 0 dX6_longest_62 rfl rfl ?_
          refine xget (C := RX6) (T := TX6) (N := 52) (ci := 6) (v := .int (nI (u_8.2.2 6))) h0 hiX6 0 rfl rfl 45 (by decide) (List.mem_of_getElem? (i := 2) rfl) rfl dX6_longest_63 ?_
          refine xncmp_ge (tgt := 78) h0 dX6_longest_66 (by decide) (by omega) (by omega) (fun c_12 => ?_) (fun c_12 => ?_)
          · skip
            refine xbipush (v := (-9)) h0 dX6_longest_78 (by decide) ?_
            exact xiret h0 dX6_longest_80 (upN (upN (upN (upN (upN (upN (upN (upN (upN (upN (upN (upN u0.1 32 (([] : List Nat).length)) 33 ((alS T k p).length)) 34 (onS (alS T k p))) 36 ((fwS T none (alS T k p)).length)) 37 (onS (fwS T none (alS T k p)))) 38 (u_8.2.2 4)) 39 (u_8.2.2 0)) 41 (u_8.2.2 5)) 42 (u_8.2.2 1)) 43 (u_8.2.2 2)) 45 (u_8.2.2 6)) 46 (u_8.2.2 3), upA (upA (upA (upA u0.2.1 31 u_8.1) 40 (u_8.2.1 0)) 44 (u_8.2.1 1)) 47 (u_8.2.1 2), none) (by rw [hC, sel_0, xn_n (by omega)]; first | done | (unfold loS; rw [if_neg hnj]; first | exact (ansW_o hj hl8 (by omega)).symm | exact (ansW_i hl8 (by omega)).symm)) (by rw [hC]; first | done | rfl)
          · skip
            refine xaload_n h0 0 dX6_longest_69 rfl rfl ?_
            refine xget (C := RX6) (T := TX6) (N := 52) (ci := 6) (v := .ref (md 47)) h0 hiX6 0 rfl rfl 47 (by decide) (List.mem_of_getElem? (i := 3) rfl) rfl dX6_longest_70 ?_
            refine xiload_n h0 2 dX6_longest_73 rfl rfl ?_
            refine xiald (v := (nI ((bestS T 2 (alS T k p)).getD j 0))) h0 20 0 rfl rfl (by omega) (by decide) dX6_longest_74 (congrArg nI (hu_9.2.2.1 _ (by omega))) ?_
            refine xgoto (tgt := 80) h0 dX6_longest_75 (by decide) ?_
            exact xiret h0 dX6_longest_80 (upN (upN (upN (upN (upN (upN (upN (upN (upN (upN (upN (upN u0.1 32 (([] : List Nat).length)) 33 ((alS T k p).length)) 34 (onS (alS T k p))) 36 ((fwS T none (alS T k p)).length)) 37 (onS (fwS T none (alS T k p)))) 38 (u_8.2.2 4)) 39 (u_8.2.2 0)) 41 (u_8.2.2 5)) 42 (u_8.2.2 1)) 43 (u_8.2.2 2)) 45 (u_8.2.2 6)) 46 (u_8.2.2 3), upA (upA (upA (upA u0.2.1 31 u_8.1) 40 (u_8.2.1 0)) 44 (u_8.2.1 1)) 47 (u_8.2.1 2), none) (by rw [hC, sel_0, xn_n (by omega)]; first | done | (unfold loS; rw [if_neg hnj]; first | exact (ansW_o hj hl8 (by omega)).symm | exact (ansW_i hl8 (by omega)).symm)) (by rw [hC]; first | done | rfl)
        · skip
          have hl8 := alS_8 (o := 2) hT k hp; have hln := (hu_9.2.2.2 (alS_ne hT k hp)).2.2.2.2.2.2
          have hvm := i32_lt1 hgm (Int32.not_le.mp c_11)
          subst hvm
          refine xaload_n h0 0 dX6_longest_54 rfl rfl ?_
          refine xget (C := RX6) (T := TX6) (N := 52) (ci := 6) (v := .int (nI (u_8.2.2 6))) h0 hiX6 0 rfl rfl 45 (by decide) (List.mem_of_getElem? (i := 2) rfl) rfl dX6_longest_55 ?_
          refine xgoto (tgt := 80) h0 dX6_longest_58 (by decide) ?_
          exact xiret h0 dX6_longest_80 (upN (upN (upN (upN (upN (upN (upN (upN (upN (upN (upN (upN u0.1 32 (([] : List Nat).length)) 33 ((alS T k p).length)) 34 (onS (alS T k p))) 36 ((fwS T none (alS T k p)).length)) 37 (onS (fwS T none (alS T k p)))) 38 (u_8.2.2 4)) 39 (u_8.2.2 0)) 41 (u_8.2.2 5)) 42 (u_8.2.2 1)) 43 (u_8.2.2 2)) 45 (u_8.2.2 6)) 46 (u_8.2.2 3), upA (upA (upA (upA u0.2.1 31 u_8.1) 40 (u_8.2.1 0)) 44 (u_8.2.1 1)) 47 (u_8.2.1 2), none) (by rw [hC, sel_0, xn_n (by omega)]; first | done | (unfold loS; rw [if_pos rfl, (hu_9.2.2.2 (alS_ne hT k hp)).2.2.2.2.2.2])) (by rw [hC]; first | done | rfl)
      · skip
        have hC : rfC (T 5 0) k (nI p) (gem v) 4 = 3 := rfC_3 hok hgd (by rw [xn_n (by omega)]; exact c_7)
        refine xaload_n h0 0 dX6_longest_37 rfl rfl ?_
        refine xbipush (v := (-3)) h0 dX6_longest_38 (by decide) ?_
        refine xcallV_i (nn := 1) (w2 := fun u_ => (wM cI cC md T k tm dy P pk ptm pdy hpi tg tl (upN R 3 (R 3 + 1)) sg sl u0)) (wr := []) (rest := []) h0 (c_X6_no (xL κ) D cI cC md T k tm dy P pk ptm pdy hpi tg tl R sg sl u0 3 (by omega)) gX6_longest_X6_no (by decide +kernel) rfl rfl rfl ⟨Nat.le_of_ble_eq_true rfl, Nat.le_of_ble_eq_true rfl⟩ ⟨by decide, by decide⟩ (fun _ _ _ _ h => h) (fun _ _ _ _ _ _ _ => trivial) rfl (Nat.le_of_ble_eq_true rfl) (q0 := 0) rfl rfl rfl [0, 1, 2, 3, 4, 5, 6, 7, 8, 9, 10, 11, 12, 13, 14, 15, 16, 17, 18, 19, 20, 21] [] [0, 1, 2, 3, 4, 5, 6, 7, 8, 9, 10, 11, 12, 13, 14, 15, 16, 17, 18, 19, 20, 21] ⟨rfl, rfl, rfl, rfl, rfl⟩ (fun _ => ⟨rfl, rfl⟩) dX6_longest_40 (fun r_14 u_ hr_13 => ?_)
        subst hr_13
        exact xiret h0 dX6_longest_43 u0 (by rw [hC, sel_n (by decide)]) (by rw [hC]; first | done | rfl)
    · skip
      have hC : rfC (T 5 0) k (nI p) (gem v) 4 = 4 := rfC_2 hok (gem_0 (Int32.not_le.mp c_4))
      refine xaload_n h0 0 dX6_longest_19 rfl rfl ?_
      refine xbipush (v := (-4)) h0 dX6_longest_20 (by decide) ?_
      refine xcallV_i (nn := 1) (w2 := fun u_ => (wM cI cC md T k tm dy P pk ptm pdy hpi tg tl (upN R 4 (R 4 + 1)) sg sl u0)) (wr := []) (rest := []) h0 (c_X6_no (xL κ) D cI cC md T k tm dy P pk ptm pdy hpi tg tl R sg sl u0 4 (by omega)) gX6_longest_X6_no (by decide +kernel) rfl rfl rfl ⟨Nat.le_of_ble_eq_true rfl, Nat.le_of_ble_eq_true rfl⟩ ⟨by decide, by decide⟩ (fun _ _ _ _ h => h) (fun _ _ _ _ _ _ _ => trivial) rfl (Nat.le_of_ble_eq_true rfl) (q0 := 0) rfl rfl rfl [0, 1, 2, 3, 4, 5, 6, 7, 8, 9, 10, 11, 12, 13, 14, 15, 16, 17, 18, 19, 20, 21] [] [0, 1, 2, 3, 4, 5, 6, 7, 8, 9, 10, 11, 12, 13, 14, 15, 16, 17, 18, 19, 20, 21] ⟨rfl, rfl, rfl, rfl, rfl⟩ (fun _ => ⟨rfl, rfl⟩) dX6_longest_22 (fun r_16 u_ hr_15 => ?_)
      subst hr_15
      exact xiret h0 dX6_longest_25 u0 (by rw [hC, sel_n (by decide)]) (by rw [hC]; first | done | rfl)
  · skip
    have hC : rfC (T 5 0) k x (gem v) 4 = 1 := rfC_1 c_3
    refine xaload_n h0 0 dX6_longest_8 rfl rfl ?_
    refine xiconst (v := (-1)) h0 dX6_longest_9 (by decide) ?_
    refine xcallV_i (nn := 1) (w2 := fun u_ => (wM cI cC md T k tm dy P pk ptm pdy hpi tg tl (upN R 1 (R 1 + 1)) sg sl u0)) (wr := []) (rest := []) h0 (c_X6_no (xL κ) D cI cC md T k tm dy P pk ptm pdy hpi tg tl R sg sl u0 1 (by omega)) gX6_longest_X6_no (by decide +kernel) rfl rfl rfl ⟨Nat.le_of_ble_eq_true rfl, Nat.le_of_ble_eq_true rfl⟩ ⟨by decide, by decide⟩ (fun _ _ _ _ h => h) (fun _ _ _ _ _ _ _ => trivial) rfl (Nat.le_of_ble_eq_true rfl) (q0 := 0) rfl rfl rfl [0, 1, 2, 3, 4, 5, 6, 7, 8, 9, 10, 11, 12, 13, 14, 15, 16, 17, 18, 19, 20, 21] [] [0, 1, 2, 3, 4, 5, 6, 7, 8, 9, 10, 11, 12, 13, 14, 15, 16, 17, 18, 19, 20, 21] ⟨rfl, rfl, rfl, rfl, rfl⟩ (fun _ => ⟨rfl, rfl⟩) dX6_longest_10 (fun r_18 u_ hr_17 => ?_)
    subst hr_17
    exact xiret h0 dX6_longest_13 u0 (by rw [hC, sel_n (by decide)]) (by rw [hC]; first | done | rfl)
