/-! THE REFERENCE: took, the foe, switching, the edge, two -/
theorem up2_self (T : TT) (j i : Nat) : up2 T j i (T j i) = T := by
  funext a b
  unfold up2
  cases h : (Nat.beq a j && Nat.beq b i) with
  | false => rfl
  | true =>
    simp only [Bool.and_eq_true, Nat.beq_eq] at h
    rw [h.1, h.2]; rfl
theorem ed_no {n : Nat} {x y : Int32} (hx : okN n x) (hy : okN n y) (hne : x ≠ y) : ¬ (¬ okN n x ∨ ¬ okN n y ∨ x = y) := fun z => z.elim (fun a => a hx) (fun b => b.elim (fun a => a hy) (fun a => hne a))

set_option maxHeartbeats 4000000 in
set_option maxRecDepth 100000 in
theorem c_X6_took (l : Launch) (D : va_G) (cI cC : ClassId) (md : Nat → Nat) (T : TT) (k tm dy : Nat) (P : TT) (pk ptm pdy hpi : Nat) (tg : Nat → Nat) (tl : Nat) (R : Nat → Nat) (sg : Nat → Nat) (sl : Nat) (u0 : ScmT) (x t v : Int32) (hT : TOK T) (hk : k < 256) (hP : TOK P) (hpk : pk < 256) (htl : tl ≤ 8) (hsl : sl ≤ 64) (hhp : hpi < 2) (htg : ∀ i, tg i ≤ 9) : XMi l yX6_took wsX6_took ({ frames := 14, cells := 0, slots := 0, locals := 436 } : Room) D (xT cI cC) xE0 (wM cI cC md T k tm dy P pk ptm pdy hpi tg tl R sg sl u0) [.ref (md 1), .int x, .int t, .int v] (S := ScmT) (fun r _ => r = sel (toC (T 5 0) k x t v) (toS T k (xn x) (xn t) v) (-(nI (toC (T 5 0) k x t v)))) (fun u => wM cI cC md T k tm dy P pk ptm pdy hpi tg tl (bmp R (toC (T 5 0) k x t v)) sg sl u) 0 0 := by
  refine xMet_i (cc := cX6_took) (nL := 4) (ret := some .int) (by decide +kernel) rfl (Nat.le_of_ble_eq_true rfl) (fun κ A h0 hn0 hE => ?_)
  have hiX6 : ∀ w ∈ u_ws RX6 TX6 52, w ∈ wsX6_took := by decide +kernel
  refine xlv (lv' := [(0, .ref (md 1)), (1, .int x), (2, .int t), (3, .int v)]) [0, 1, 2, 3] rfl ?_
  have hn := hT.1
  refine xaload_n h0 0 dX6_took_0 rfl rfl ?_
  refine xiload_n h0 1 dX6_took_1 rfl rfl ?_
  refine xcallV_i (nn := 1) (w2 := fun u_ => (wM cI cC md T k tm dy P pk ptm pdy hpi tg tl R sg sl u0)) (wr := []) (rest := []) h0 (c_X6_isNobody (xL κ) D cI cC md T k tm dy P pk ptm pdy hpi tg tl R sg sl u0 x (by omega)) gX6_took_X6_isNobody (by decide +kernel) rfl rfl rfl ⟨Nat.le_of_ble_eq_true rfl, Nat.le_of_ble_eq_true rfl⟩ ⟨by decide, by decide⟩ (fun _ _ _ _ h => h) (fun _ _ _ _ _ _ _ => trivial) rfl (Nat.le_of_ble_eq_true rfl) (q0 := 0) rfl rfl rfl [0, 1, 2, 3, 4, 5, 6, 7, 8, 9, 10, 11, 12, 13, 14, 15, 16, 17, 18, 19, 20, 21] [] [0, 1, 2, 3, 4, 5, 6, 7, 8, 9, 10, 11, 12, 13, 14, 15, 16, 17, 18, 19, 20, 21] ⟨rfl, rfl, rfl, rfl, rfl⟩ (fun _ => ⟨rfl, rfl⟩) dX6_took_2 (fun r_2 u_ hr_1 => ?_)
  subst hr_1
  refine xbif_eq (tgt := 14) h0 dX6_took_5 (by decide)  (fun c_3 => ?_) (fun c_3 => ?_)
  · skip
    obtain ⟨p, hp, hxp⟩ := okN_of hn (Decidable.of_not_not c_3)
    subst hxp
    have hp8 : p < 8 := by omega
    have hok : okN (T 5 0) (nI p) := (okN_n hn (by omega)).mpr hp
    refine xiload_n h0 3 dX6_took_14 rfl rfl ?_
    refine xif_lt (tgt := 23) h0 dX6_took_15 (by decide)  (fun c_4 => ?_) (fun c_4 => ?_)
    · skip
      have hC : rfC (T 5 0) k (nI p) (wh1 v) 2 = 2 := rfC_2 hok (wh1_0 (Or.inl c_4))
      replace hC : toC (T 5 0) k (nI p) t v = 2 := by unfold toC; rw [hC]; rfl
      refine xaload_n h0 0 dX6_took_23 rfl rfl ?_
      refine xbipush (v := (-2)) h0 dX6_took_24 (by decide) ?_
      refine xcallV_i (nn := 1) (w2 := fun u_ => (wM cI cC md T k tm dy P pk ptm pdy hpi tg tl (upN R 2 (R 2 + 1)) sg sl u0)) (wr := []) (rest := []) h0 (c_X6_no (xL κ) D cI cC md T k tm dy P pk ptm pdy hpi tg tl R sg sl u0 2 (by omega)) gX6_took_X6_no (by decide +kernel) rfl rfl rfl ⟨Nat.le_of_ble_eq_true rfl, Nat.le_of_ble_eq_true rfl⟩ ⟨by decide, by decide⟩ (fun _ _ _ _ h => h) (fun _ _ _ _ _ _ _ => trivial) rfl (Nat.le_of_ble_eq_true rfl) (q0 := 0) rfl rfl rfl [0, 1, 2, 3, 4, 5, 6, 7, 8, 9, 10, 11, 12, 13, 14, 15, 16, 17, 18, 19, 20, 21] [] [0, 1, 2, 3, 4, 5, 6, 7, 8, 9, 10, 11, 12, 13, 14, 15, 16, 17, 18, 19, 20, 21] ⟨rfl, rfl, rfl, rfl, rfl⟩ (fun _ => ⟨rfl, rfl⟩) dX6_took_26 (fun r_6 u_ hr_5 => ?_)
      subst hr_5
      exact xiret h0 dX6_took_29 u0 (by rw [hC, sel_n (by decide)]) (by rw [hC]; first | done | rfl)
    · skip
      refine xiload_n h0 3 dX6_took_18 rfl rfl ?_
      refine xiconst (v := (nI 1)) h0 dX6_took_19 (by decide) ?_
      refine xicmp_le (tgt := 30) h0 dX6_took_20 (by decide)  (fun c_7 => ?_) (fun c_7 => ?_)
      · skip
        have hgd := wh1_1 (by assumption) c_7
        refine xaload_n h0 0 dX6_took_30 rfl rfl ?_
        refine xget (C := RX6) (T := TX6) (N := 52) (ci := 6) (v := .int (nI k)) h0 hiX6 0 rfl rfl 3 (by decide) (List.mem_of_getElem? (i := 1) rfl) rfl dX6_took_31 ?_
        refine xiload_n h0 1 dX6_took_34 rfl rfl ?_
        refine xcallS_i (nn := 2) (w2 := fun u_ => (wM cI cC md T k tm dy P pk ptm pdy hpi tg tl R sg sl u0)) (wr := [(md 1, .inr (6, [.ref (md 0), .int (nI (T 5 0)), .int (nI (T 5 1)), .int (nI k), .int (nI tm), .int (nI dy), .ref (md 6), .ref (md 7), .ref (md 8), .ref (md 9), .ref (md 10), .int (nI hpi), .int (nI (P 5 0)), .int (nI (P 5 1)), .int (nI pk), .int (nI ptm), .int (nI pdy), .ref (md 17), .ref (md 18), .ref (md 19), .ref (md 20), .ref (md 21), .ref (md 22), .int (nI sl), .int (nI (u0.1 24)), .int (nI (u0.1 25)), .ref (md 26), .ref (md 27), .ref (md 28), .int (nI (u0.1 29)), .ref (md 30), .ref (md 31), .int (nI (u0.1 32)), .int (nI (u0.1 33)), .int (nI (u0.1 34)), .int (oI u0.2.2), .int (nI (u0.1 36)), .int (nI (u0.1 37)), .int (nI (u0.1 38)), .int (nI (u0.1 39)), .ref (md 40), .int (nI (u0.1 41)), .int (nI (u0.1 42)), .int (nI (u0.1 43)), .ref (md 44), .int (nI (u0.1 45)), .int (nI (u0.1 46)), .ref (md 47), .int (nI (u0.1 48)), .int (nI (u0.1 49)), .ref (md 50), .int (nI tl)])), (md 0, .inl (cI, 7, .inl (fun i_ => nI (R i_)))), (md 6, .inl (cI, 8, .inl (fun i_ => nI (T 0 i_)))), (md 7, .inl (cI, 8, .inl (fun i_ => nI (T 1 i_)))), (md 8, .inl (cI, 8, .inl (fun i_ => nI (T 2 i_)))), (md 9, .inl (cI, 8, .inl (fun i_ => nI (T 3 i_)))), (md 10, .inl (cI, 64, .inl (fun i_ => nI (T 4 i_)))), (md 17, .inl (cI, 8, .inl (fun i_ => nI (P 0 i_)))), (md 18, .inl (cI, 8, .inl (fun i_ => nI (P 1 i_)))), (md 19, .inl (cI, 8, .inl (fun i_ => nI (P 2 i_)))), (md 20, .inl (cI, 8, .inl (fun i_ => nI (P 3 i_)))), (md 21, .inl (cI, 64, .inl (fun i_ => nI (P 4 i_)))), (md 22, .inl (cI, 64, .inl (fun i_ => nI (sg i_)))), (md 26, .inl (cC, 4, .inl (fun i_ => nI (sortsN i_)))), (md 27, .inl (cC, 5, .inl (fun i_ => nI (askersN i_)))), (md 28, .inl (cC, 5, .inl (fun i_ => nI (sayersN i_)))), (md 30, .inl (cI, 4, .inl (fun i_ => nI ((u0.2.1 30) i_)))), (md 31, .inl (cI, 8, .inl (fun i_ => nI ((u0.2.1 31) i_)))), (md 40, .inl (cI, 8, .inl (fun i_ => nI ((u0.2.1 40) i_)))), (md 44, .inl (cI, 8, .inl (fun i_ => nI ((u0.2.1 44) i_)))), (md 47, .inl (cI, 8, .inl (fun i_ => nI ((u0.2.1 47) i_)))), (md 50, .inl (cI, 8, .inl (fun i_ => nI (tg i_))))]) (rest := []) h0 (c_X6_isIn (xL κ) D cI cC k p (by omega) (by omega)) gX6_took_X6_isIn (by decide +kernel) rfl rfl rfl ⟨Nat.le_of_ble_eq_true rfl, Nat.le_of_ble_eq_true rfl⟩ ⟨by decide, by decide⟩ (fun _ _ _ _ h => h) (fun _ _ _ _ _ _ _ => trivial) rfl (Nat.le_of_ble_eq_true rfl) rfl [] [0, 1, 2, 3, 4, 5, 6, 7, 8, 9, 10, 11, 12, 13, 14, 15, 16, 17, 18, 19, 20, 21] [0, 1, 2, 3, 4, 5, 6, 7, 8, 9, 10, 11, 12, 13, 14, 15, 16, 17, 18, 19, 20, 21] ⟨rfl, rfl, rfl, rfl, rfl⟩ (fun _ => ⟨rfl, rfl⟩) dX6_took_35 (fun r_9 u_ hr_8 => ?_)
        subst hr_8
        refine xbif_eq (tgt := 48) h0 dX6_took_38 (by decide)  (fun c_10 => ?_) (fun c_10 => ?_)
        · skip
          have hC : rfC (T 5 0) k (nI p) (wh1 v) 2 = 0 := rfC_z hok hgd (by rw [xn_n (by omega)]; exact c_10)
          have hkp : ¬ k.testBit p = true := c_10
          refine xiload_n h0 2 dX6_took_48 rfl rfl ?_
          refine xif_ge (tgt := 59) h0 dX6_took_49 (by decide)  (fun c_11 => ?_) (fun c_11 => ?_)
          · skip
            obtain ⟨j, hj, rfl⟩ := nI_of (Int32.not_lt.mpr c_11)
            replace hC : toC (T 5 0) k (nI p) (nI j) v = 0 := by unfold toC; rw [hC, if_pos rfl, if_neg (not_not_intro c_11)]
            refine xaload_n h0 0 dX6_took_59 rfl rfl ?_
            refine xiload_n h0 1 dX6_took_60 rfl rfl ?_
            refine xiload_n h0 2 dX6_took_61 rfl rfl ?_
            refine xcallV_v (nn := 2) (w2 := fun u_12 => (wM cI cC md T k tm dy P pk ptm pdy hpi tg tl R sg sl (upN (upN (upN (upN (upN (upN (upN (upN (upN (upN (upN (upN u0.1 32 (([] : List Nat).length)) 33 ((alS T k p).length)) 34 (onS (alS T k p))) 36 ((fwS T (some j) (alS T k p)).length)) 37 (onS (fwS T (some j) (alS T k p)))) 38 (u_12.2.2 4)) 39 (u_12.2.2 0)) 41 (u_12.2.2 5)) 42 (u_12.2.2 1)) 43 (u_12.2.2 2)) 45 (u_12.2.2 6)) 46 (u_12.2.2 3), upA (upA (upA (upA u0.2.1 31 u_12.1) 40 (u_12.2.1 0)) 44 (u_12.2.1 1)) 47 (u_12.2.1 2), some j))) (wr := []) (rest := []) h0 (c_X6_all (xL κ) D cI cC md T k tm dy P pk ptm pdy hpi tg tl R sg sl u0 p (some j) hT (by omega) (by omega) (by intro z e; cases e; exact hj)) gX6_took_X6_all (by decide +kernel) rfl rfl rfl ⟨Nat.le_of_ble_eq_true rfl, Nat.le_of_ble_eq_true rfl⟩ ⟨by decide, by decide⟩ (fun _ _ _ _ h => h) (fun _ _ _ _ _ _ _ => trivial) rfl (Nat.le_of_ble_eq_true rfl) (q0 := 0) rfl rfl rfl [0, 1, 2, 3, 4, 5, 6, 7, 8, 9, 10, 11, 12, 13, 14, 15, 16, 17, 18, 19, 20, 21] [] [0, 1, 2, 3, 4, 5, 6, 7, 8, 9, 10, 11, 12, 13, 14, 15, 16, 17, 18, 19, 20, 21] ⟨rfl, rfl, rfl, rfl, rfl⟩ (fun _ => ⟨rfl, rfl⟩) dX6_took_62 (fun u_12 hu_13 => ?_)
            refine xiload_n h0 3 dX6_took_65 rfl rfl ?_
            refine xif_ne (tgt := 76) h0 dX6_took_66 (by decide)  (fun c_15 => ?_) (fun c_15 => ?_)
            · skip
              refine xaload_n h0 0 dX6_took_76 rfl rfl ?_
              refine xget (C := RX6) (T := TX6) (N := 52) (ci := 6) (v := .int (nI (onS (fwS T (some j) (alS T k p))))) h0 hiX6 0 rfl rfl 37 (by decide) (List.mem_of_getElem? (i := 3) rfl) rfl dX6_took_77 ?_
              exact xiret h0 dX6_took_80 (upN (upN (upN (upN (upN (upN (upN (upN (upN (upN (upN (upN u0.1 32 (([] : List Nat).length)) 33 ((alS T k p).length)) 34 (onS (alS T k p))) 36 ((fwS T (some j) (alS T k p)).length)) 37 (onS (fwS T (some j) (alS T k p)))) 38 (u_12.2.2 4)) 39 (u_12.2.2 0)) 41 (u_12.2.2 5)) 42 (u_12.2.2 1)) 43 (u_12.2.2 2)) 45 (u_12.2.2 6)) 46 (u_12.2.2 3), upA (upA (upA (upA u0.2.1 31 u_12.1) 40 (u_12.2.1 0)) 44 (u_12.2.1 1)) 47 (u_12.2.1 2), some j) (by rw [hC, sel_0, xn_n (by omega)]; first | done | (rw [xn_n hj]; unfold toS; first | (rw [if_pos (by assumption)]; done) | (rw [if_neg (by assumption)]; done) | (rw [if_pos (by assumption)]; rfl) | (rw [if_neg (by assumption)]; rfl))) (by rw [hC]; first | done | rfl)
            · skip
              refine xaload_n h0 0 dX6_took_69 rfl rfl ?_
              refine xget (C := RX6) (T := TX6) (N := 52) (ci := 6) (v := .int (nI ((fwS T (some j) (alS T k p)).length))) h0 hiX6 0 rfl rfl 36 (by decide) (List.mem_of_getElem? (i := 2) rfl) rfl dX6_took_70 ?_
              refine xgoto (tgt := 80) h0 dX6_took_73 (by decide) ?_
              exact xiret h0 dX6_took_80 (upN (upN (upN (upN (upN (upN (upN (upN (upN (upN (upN (upN u0.1 32 (([] : List Nat).length)) 33 ((alS T k p).length)) 34 (onS (alS T k p))) 36 ((fwS T (some j) (alS T k p)).length)) 37 (onS (fwS T (some j) (alS T k p)))) 38 (u_12.2.2 4)) 39 (u_12.2.2 0)) 41 (u_12.2.2 5)) 42 (u_12.2.2 1)) 43 (u_12.2.2 2)) 45 (u_12.2.2 6)) 46 (u_12.2.2 3), upA (upA (upA (upA u0.2.1 31 u_12.1) 40 (u_12.2.1 0)) 44 (u_12.2.1 1)) 47 (u_12.2.1 2), some j) (by rw [hC, sel_0, xn_n (by omega)]; first | done | (rw [xn_n hj]; unfold toS; first | (rw [if_pos (by assumption)]; done) | (rw [if_neg (by assumption)]; done) | (rw [if_pos (by assumption)]; rfl) | (rw [if_neg (by assumption)]; rfl))) (by rw [hC]; first | done | rfl)
          · skip
            replace hC : toC (T 5 0) k (nI p) t v = 4 := by unfold toC; rw [hC, if_pos rfl, if_pos c_11]
            refine xaload_n h0 0 dX6_took_52 rfl rfl ?_
            refine xbipush (v := (-4)) h0 dX6_took_53 (by decide) ?_
            refine xcallV_i (nn := 1) (w2 := fun u_ => (wM cI cC md T k tm dy P pk ptm pdy hpi tg tl (upN R 4 (R 4 + 1)) sg sl u0)) (wr := []) (rest := []) h0 (c_X6_no (xL κ) D cI cC md T k tm dy P pk ptm pdy hpi tg tl R sg sl u0 4 (by omega)) gX6_took_X6_no (by decide +kernel) rfl rfl rfl ⟨Nat.le_of_ble_eq_true rfl, Nat.le_of_ble_eq_true rfl⟩ ⟨by decide, by decide⟩ (fun _ _ _ _ h => h) (fun _ _ _ _ _ _ _ => trivial) rfl (Nat.le_of_ble_eq_true rfl) (q0 := 0) rfl rfl rfl [0, 1, 2, 3, 4, 5, 6, 7, 8, 9, 10, 11, 12, 13, 14, 15, 16, 17, 18, 19, 20, 21] [] [0, 1, 2, 3, 4, 5, 6, 7, 8, 9, 10, 11, 12, 13, 14, 15, 16, 17, 18, 19, 20, 21] ⟨rfl, rfl, rfl, rfl, rfl⟩ (fun _ => ⟨rfl, rfl⟩) dX6_took_55 (fun r_17 u_ hr_16 => ?_)
            subst hr_16
            exact xiret h0 dX6_took_58 u0 (by rw [hC, sel_n (by decide)]) (by rw [hC]; first | done | rfl)
        · skip
          have hC : rfC (T 5 0) k (nI p) (wh1 v) 2 = 3 := rfC_3 hok hgd (by rw [xn_n (by omega)]; exact c_10)
          replace hC : toC (T 5 0) k (nI p) t v = 3 := by unfold toC; rw [hC]; rfl
          refine xaload_n h0 0 dX6_took_41 rfl rfl ?_
          refine xbipush (v := (-3)) h0 dX6_took_42 (by decide) ?_
          refine xcallV_i (nn := 1) (w2 := fun u_ => (wM cI cC md T k tm dy P pk ptm pdy hpi tg tl (upN R 3 (R 3 + 1)) sg sl u0)) (wr := []) (rest := []) h0 (c_X6_no (xL κ) D cI cC md T k tm dy P pk ptm pdy hpi tg tl R sg sl u0 3 (by omega)) gX6_took_X6_no (by decide +kernel) rfl rfl rfl ⟨Nat.le_of_ble_eq_true rfl, Nat.le_of_ble_eq_true rfl⟩ ⟨by decide, by decide⟩ (fun _ _ _ _ h => h) (fun _ _ _ _ _ _ _ => trivial) rfl (Nat.le_of_ble_eq_true rfl) (q0 := 0) rfl rfl rfl [0, 1, 2, 3, 4, 5, 6, 7, 8, 9, 10, 11, 12, 13, 14, 15, 16, 17, 18, 19, 20, 21] [] [0, 1, 2, 3, 4, 5, 6, 7, 8, 9, 10, 11, 12, 13, 14, 15, 16, 17, 18, 19, 20, 21] ⟨rfl, rfl, rfl, rfl, rfl⟩ (fun _ => ⟨rfl, rfl⟩) dX6_took_44 (fun r_19 u_ hr_18 => ?_)
          subst hr_18
          exact xiret h0 dX6_took_47 u0 (by rw [hC, sel_n (by decide)]) (by rw [hC]; first | done | rfl)
      · skip
        have hC : rfC (T 5 0) k (nI p) (wh1 v) 2 = 2 := rfC_2 hok (wh1_0 (Or.inr (Int32.not_le.mp c_7)))
        replace hC : toC (T 5 0) k (nI p) t v = 2 := by unfold toC; rw [hC]; rfl
        refine xaload_n h0 0 dX6_took_23 rfl rfl ?_
        refine xbipush (v := (-2)) h0 dX6_took_24 (by decide) ?_
        refine xcallV_i (nn := 1) (w2 := fun u_ => (wM cI cC md T k tm dy P pk ptm pdy hpi tg tl (upN R 2 (R 2 + 1)) sg sl u0)) (wr := []) (rest := []) h0 (c_X6_no (xL κ) D cI cC md T k tm dy P pk ptm pdy hpi tg tl R sg sl u0 2 (by omega)) gX6_took_X6_no (by decide +kernel) rfl rfl rfl ⟨Nat.le_of_ble_eq_true rfl, Nat.le_of_ble_eq_true rfl⟩ ⟨by decide, by decide⟩ (fun _ _ _ _ h => h) (fun _ _ _ _ _ _ _ => trivial) rfl (Nat.le_of_ble_eq_true rfl) (q0 := 0) rfl rfl rfl [0, 1, 2, 3, 4, 5, 6, 7, 8, 9, 10, 11, 12, 13, 14, 15, 16, 17, 18, 19, 20, 21] [] [0, 1, 2, 3, 4, 5, 6, 7, 8, 9, 10, 11, 12, 13, 14, 15, 16, 17, 18, 19, 20, 21] ⟨rfl, rfl, rfl, rfl, rfl⟩ (fun _ => ⟨rfl, rfl⟩) dX6_took_26 (fun r_21 u_ hr_20 => ?_)
        subst hr_20
        exact xiret h0 dX6_took_29 u0 (by rw [hC, sel_n (by decide)]) (by rw [hC]; first | done | rfl)
  · skip
    have hC : rfC (T 5 0) k x (wh1 v) 2 = 1 := rfC_1 c_3
    replace hC : toC (T 5 0) k x t v = 1 := by unfold toC; rw [hC]; rfl
    refine xaload_n h0 0 dX6_took_8 rfl rfl ?_
    refine xiconst (v := (-1)) h0 dX6_took_9 (by decide) ?_
    refine xcallV_i (nn := 1) (w2 := fun u_ => (wM cI cC md T k tm dy P pk ptm pdy hpi tg tl (upN R 1 (R 1 + 1)) sg sl u0)) (wr := []) (rest := []) h0 (c_X6_no (xL κ) D cI cC md T k tm dy P pk ptm pdy hpi tg tl R sg sl u0 1 (by omega)) gX6_took_X6_no (by decide +kernel) rfl rfl rfl ⟨Nat.le_of_ble_eq_true rfl, Nat.le_of_ble_eq_true rfl⟩ ⟨by decide, by decide⟩ (fun _ _ _ _ h => h) (fun _ _ _ _ _ _ _ => trivial) rfl (Nat.le_of_ble_eq_true rfl) (q0 := 0) rfl rfl rfl [0, 1, 2, 3, 4, 5, 6, 7, 8, 9, 10, 11, 12, 13, 14, 15, 16, 17, 18, 19, 20, 21] [] [0, 1, 2, 3, 4, 5, 6, 7, 8, 9, 10, 11, 12, 13, 14, 15, 16, 17, 18, 19, 20, 21] ⟨rfl, rfl, rfl, rfl, rfl⟩ (fun _ => ⟨rfl, rfl⟩) dX6_took_10 (fun r_23 u_ hr_22 => ?_)
    subst hr_22
    exact xiret h0 dX6_took_13 u0 (by rw [hC, sel_n (by decide)]) (by rw [hC]; first | done | rfl)
set_option maxHeartbeats 4000000 in
set_option maxRecDepth 100000 in
theorem c_X6_foe (l : Launch) (D : va_G) (cI cC : ClassId) (md : Nat → Nat) (T : TT) (k tm dy : Nat) (P : TT) (pk ptm pdy hpi : Nat) (tg : Nat → Nat) (tl : Nat) (R : Nat → Nat) (sg : Nat → Nat) (sl : Nat) (u0 : ScmT) (x : Int32) (hT : TOK T) (hk : k < 256) (hP : TOK P) (hpk : pk < 256) (htl : tl ≤ 8) (hsl : sl ≤ 64) (hhp : hpi < 2) (htg : ∀ i, tg i ≤ 9) : XMi l yX6_foe wsX6_foe ({ frames := 5, cells := 0, slots := 0, locals := 130 } : Room) D (xT cI cC) xE0 (wM cI cC md T k tm dy P pk ptm pdy hpi tg tl R sg sl u0) [.ref (md 1), .int x] (S := ScmT) (fun r _ => r = sel (rfC (T 5 0) k x 1 0) (foS T k (xn x)) (-(nI (rfC (T 5 0) k x 1 0)))) (fun u => wM cI cC md T k tm dy P pk ptm pdy hpi tg tl (bmp R (rfC (T 5 0) k x 1 0)) sg sl u) 0 0 := by
  refine xMet_i (cc := cX6_foe) (nL := 7) (ret := some .int) (by decide +kernel) rfl (Nat.le_of_ble_eq_true rfl) (fun κ A h0 hn0 hE => ?_)
  have hiX6 : ∀ w ∈ u_ws RX6 TX6 52, w ∈ wsX6_foe := by decide +kernel
  refine xlv (lv' := [(0, .ref (md 1)), (1, .int x)]) [0, 1] rfl ?_
  have hn := hT.1
  refine xaload_n h0 0 dX6_foe_0 rfl rfl ?_
  refine xiload_n h0 1 dX6_foe_1 rfl rfl ?_
  refine xcallV_i (nn := 1) (w2 := fun u_ => (wM cI cC md T k tm dy P pk ptm pdy hpi tg tl R sg sl u0)) (wr := []) (rest := []) h0 (c_X6_isNobody (xL κ) D cI cC md T k tm dy P pk ptm pdy hpi tg tl R sg sl u0 x (by omega)) gX6_foe_X6_isNobody (by decide +kernel) rfl rfl rfl ⟨Nat.le_of_ble_eq_true rfl, Nat.le_of_ble_eq_true rfl⟩ ⟨by decide, by decide⟩ (fun _ _ _ _ h => h) (fun _ _ _ _ _ _ _ => trivial) rfl (Nat.le_of_ble_eq_true rfl) (q0 := 0) rfl rfl rfl [0, 1, 2, 3, 4, 5, 6, 7, 8, 9, 10, 11, 12, 13, 14, 15, 16, 17, 18, 19, 20, 21] [] [0, 1, 2, 3, 4, 5, 6, 7, 8, 9, 10, 11, 12, 13, 14, 15, 16, 17, 18, 19, 20, 21] ⟨rfl, rfl, rfl, rfl, rfl⟩ (fun _ => ⟨rfl, rfl⟩) dX6_foe_2 (fun r_2 u_ hr_1 => ?_)
  subst hr_1
  refine xbif_eq (tgt := 14) h0 dX6_foe_5 (by decide)  (fun c_3 => ?_) (fun c_3 => ?_)
  · skip
    obtain ⟨p, hp, hxp⟩ := okN_of hn (Decidable.of_not_not c_3)
    subst hxp
    have hp8 : p < 8 := by omega
    have hok : okN (T 5 0) (nI p) := (okN_n hn (by omega)).mpr hp
    refine xaload_n h0 0 dX6_foe_14 rfl rfl ?_
    refine xget (C := RX6) (T := TX6) (N := 52) (ci := 6) (v := .int (nI k)) h0 hiX6 0 rfl rfl 3 (by decide) (List.mem_of_getElem? (i := 1) rfl) rfl dX6_foe_15 ?_
    refine xiload_n h0 1 dX6_foe_18 rfl rfl ?_
    refine xcallS_i (nn := 2) (w2 := fun u_ => (wM cI cC md T k tm dy P pk ptm pdy hpi tg tl R sg sl u0)) (wr := [(md 1, .inr (6, [.ref (md 0), .int (nI (T 5 0)), .int (nI (T 5 1)), .int (nI k), .int (nI tm), .int (nI dy), .ref (md 6), .ref (md 7), .ref (md 8), .ref (md 9), .ref (md 10), .int (nI hpi), .int (nI (P 5 0)), .int (nI (P 5 1)), .int (nI pk), .int (nI ptm), .int (nI pdy), .ref (md 17), .ref (md 18), .ref (md 19), .ref (md 20), .ref (md 21), .ref (md 22), .int (nI sl), .int (nI (u0.1 24)), .int (nI (u0.1 25)), .ref (md 26), .ref (md 27), .ref (md 28), .int (nI (u0.1 29)), .ref (md 30), .ref (md 31), .int (nI (u0.1 32)), .int (nI (u0.1 33)), .int (nI (u0.1 34)), .int (oI u0.2.2), .int (nI (u0.1 36)), .int (nI (u0.1 37)), .int (nI (u0.1 38)), .int (nI (u0.1 39)), .ref (md 40), .int (nI (u0.1 41)), .int (nI (u0.1 42)), .int (nI (u0.1 43)), .ref (md 44), .int (nI (u0.1 45)), .int (nI (u0.1 46)), .ref (md 47), .int (nI (u0.1 48)), .int (nI (u0.1 49)), .ref (md 50), .int (nI tl)])), (md 0, .inl (cI, 7, .inl (fun i_ => nI (R i_)))), (md 6, .inl (cI, 8, .inl (fun i_ => nI (T 0 i_)))), (md 7, .inl (cI, 8, .inl (fun i_ => nI (T 1 i_)))), (md 8, .inl (cI, 8, .inl (fun i_ => nI (T 2 i_)))), (md 9, .inl (cI, 8, .inl (fun i_ => nI (T 3 i_)))), (md 10, .inl (cI, 64, .inl (fun i_ => nI (T 4 i_)))), (md 17, .inl (cI, 8, .inl (fun i_ => nI (P 0 i_)))), (md 18, .inl (cI, 8, .inl (fun i_ => nI (P 1 i_)))), (md 19, .inl (cI, 8, .inl (fun i_ => nI (P 2 i_)))), (md 20, .inl (cI, 8, .inl (fun i_ => nI (P 3 i_)))), (md 21, .inl (cI, 64, .inl (fun i_ => nI (P 4 i_)))), (md 22, .inl (cI, 64, .inl (fun i_ => nI (sg i_)))), (md 26, .inl (cC, 4, .inl (fun i_ => nI (sortsN i_)))), (md 27, .inl (cC, 5, .inl (fun i_ => nI (askersN i_)))), (md 28, .inl (cC, 5, .inl (fun i_ => nI (sayersN i_)))), (md 30, .inl (cI, 4, .inl (fun i_ => nI ((u0.2.1 30) i_)))), (md 31, .inl (cI, 8, .inl (fun i_ => nI ((u0.2.1 31) i_)))), (md 40, .inl (cI, 8, .inl (fun i_ => nI ((u0.2.1 40) i_)))), (md 44, .inl (cI, 8, .inl (fun i_ => nI ((u0.2.1 44) i_)))), (md 47, .inl (cI, 8, .inl (fun i_ => nI ((u0.2.1 47) i_)))), (md 50, .inl (cI, 8, .inl (fun i_ => nI (tg i_))))]) (rest := []) h0 (c_X6_isIn (xL κ) D cI cC k p (by omega) (by omega)) gX6_foe_X6_isIn (by decide +kernel) rfl rfl rfl ⟨Nat.le_of_ble_eq_true rfl, Nat.le_of_ble_eq_true rfl⟩ ⟨by decide, by decide⟩ (fun _ _ _ _ h => h) (fun _ _ _ _ _ _ _ => trivial) rfl (Nat.le_of_ble_eq_true rfl) rfl [] [0, 1, 2, 3, 4, 5, 6, 7, 8, 9, 10, 11, 12, 13, 14, 15, 16, 17, 18, 19, 20, 21] [0, 1, 2, 3, 4, 5, 6, 7, 8, 9, 10, 11, 12, 13, 14, 15, 16, 17, 18, 19, 20, 21] ⟨rfl, rfl, rfl, rfl, rfl⟩ (fun _ => ⟨rfl, rfl⟩) dX6_foe_19 (fun r_5 u_ hr_4 => ?_)
    subst hr_4
    refine xbif_eq (tgt := 32) h0 dX6_foe_22 (by decide)  (fun c_6 => ?_) (fun c_6 => ?_)
    · skip
      have hC : rfC (T 5 0) k (nI p) 1 0 = 0 := rfC_z hok (by decide) (by rw [xn_n (by omega)]; exact c_6)
      have hkp : ¬ k.testBit p = true := c_6
      refine xaload_n h0 0 dX6_foe_32 rfl rfl ?_
      refine xiload_n h0 1 dX6_foe_33 rfl rfl ?_
      refine xaload_n h0 0 dX6_foe_34 rfl rfl ?_
      refine xget (C := RX6) (T := TX6) (N := 52) (ci := 6) (v := .int (nI k)) h0 hiX6 0 rfl rfl 3 (by decide) (List.mem_of_getElem? (i := 1) rfl) rfl dX6_foe_35 ?_
      refine xiconst (v := (-1)) h0 dX6_foe_38 (by decide) ?_
      refine xcallV_v (nn := 3) (w2 := fun G_7 => (wM cI cC md T k tm dy P pk ptm pdy hpi tg tl R sg sl (upN u0.1 32 ((wkS T p k 8).length), upA u0.2.1 31 G_7, u0.2.2))) (wr := []) (rest := []) h0 (c_X6_go (xL κ) D cI cC md T k tm dy P pk ptm pdy hpi tg tl R sg sl u0 p k 8 (-1) hT (by omega) (by omega) mx_8) gX6_foe_X6_go (by decide +kernel) rfl rfl rfl ⟨Nat.le_of_ble_eq_true rfl, Nat.le_of_ble_eq_true rfl⟩ ⟨by decide, by decide⟩ (fun _ _ _ _ h => h) (fun _ _ _ _ _ _ _ => trivial) rfl (Nat.le_of_ble_eq_true rfl) (q0 := 0) rfl rfl rfl [0, 1, 2, 3, 4, 5, 6, 7, 8, 9, 10, 11, 12, 13, 14, 15, 16, 17, 18, 19, 20, 21] [] [0, 1, 2, 3, 4, 5, 6, 7, 8, 9, 10, 11, 12, 13, 14, 15, 16, 17, 18, 19, 20, 21] ⟨rfl, rfl, rfl, rfl, rfl⟩ (fun _ => ⟨rfl, rfl⟩) dX6_foe_39 (fun G_7 hG_8 => ?_)
      refine xaload_n h0 0 dX6_foe_42 rfl rfl ?_
      refine xcallV_i (nn := 0) (w2 := fun u_ => (wM cI cC md T k tm dy P pk ptm pdy hpi tg tl R sg sl (upN u0.1 32 ((wkS T p k 8).length), upA u0.2.1 31 G_7, u0.2.2))) (wr := []) (rest := []) h0 (c_X6_right (xL κ) D cI cC md T k tm dy P pk ptm pdy hpi tg tl R sg sl (upN u0.1 32 ((wkS T p k 8).length), upA u0.2.1 31 G_7, u0.2.2) (wkS T p k 8) G_7 hT hG_8 (by exact wk_1 _ _ _ _) (by exact wk_8 hT hp) (by exact wk_n hT hp)) gX6_foe_X6_right (by decide +kernel) rfl rfl rfl ⟨Nat.le_of_ble_eq_true rfl, Nat.le_of_ble_eq_true rfl⟩ ⟨by decide, by decide⟩ (fun _ _ _ _ h => h) (fun _ _ _ _ _ _ _ => trivial) rfl (Nat.le_of_ble_eq_true rfl) (q0 := 0) rfl rfl rfl [0, 1, 2, 3, 4, 5, 6, 7, 8, 9, 10, 11, 12, 13, 14, 15, 16, 17, 18, 19, 20, 21] [] [0, 1, 2, 3, 4, 5, 6, 7, 8, 9, 10, 11, 12, 13, 14, 15, 16, 17, 18, 19, 20, 21] ⟨rfl, rfl, rfl, rfl, rfl⟩ (fun _ => ⟨rfl, rfl⟩) dX6_foe_43 (fun r_11 u_ hr_10 => ?_)
      subst hr_10
      refine xistore_n (lv' := [(2, .int (nI (rgS T (wkS T p k 8)))), (0, .ref (md 1)), (1, .int (nI p))]) h0 dX6_foe_46 rfl (by decide) rfl ?_
      refine xbipush (v := (-9)) h0 dX6_foe_47 (by decide) ?_
      refine xistore_n (lv' := [(3, .int (-9)), (2, .int (nI (rgS T (wkS T p k 8)))), (0, .ref (md 1)), (1, .int (nI p))]) h0 dX6_foe_49 rfl (by decide) rfl ?_
      refine xiconst (v := (nI 0)) h0 dX6_foe_50 (by decide) ?_
      refine xistore (lv' := [(4, .int (nI 0)), (3, .int (-9)), (2, .int (nI (rgS T (wkS T p k 8)))), (0, .ref (md 1)), (1, .int (nI p))]) h0 dX6_foe_51 (by decide) rfl ?_
      have lp : ∀ (d_ : Nat) (i v : Nat) (y : Int32) (G : Nat → Nat), (9 - i ≤ d_) → (i ≤ T 5 0) → (v = (foK T (wkS T p k 8) p i).1) → (y = f9 (foK T (wkS T p k 8) p i).2) → (okW (wkS T p k 8) G) → XG κ 7 D (xT cI cC) A (xQi (S := ScmT) κ D (xT cI cC) A (fun r _ => r = sel (rfC (T 5 0) k (nI p) 1 0) (foS T k (xn (nI p))) (-(nI (rfC (T 5 0) k (nI p) 1 0)))) (fun u => wM cI cC md T k tm dy P pk ptm pdy hpi tg tl (bmp R (rfC (T 5 0) k (nI p) 1 0)) sg sl u) 0 0) (wM cI cC md T k tm dy P pk ptm pdy hpi tg tl R sg sl (upN u0.1 32 ((wkS T p k 8).length), upA u0.2.1 31 G, u0.2.2)) 0 0 53 [(0, .ref (md 1)), (1, .int (nI p)), (2, .int (nI v)), (3, .int y), (4, .int (nI i))] [] := by
        intro d_
        induction d_ with
        | zero => intro i v y G hm_ hi hv hy hGw; exact absurd hm_ (by omega)
        | succ d_ ih_lp =>
          intro i v y G hm_ hi hv hy hGw
          refine xiload h0 4 dX6_foe_53 rfl ?_
          refine xaload_n h0 0 dX6_foe_55 rfl rfl ?_
          refine xget (C := RX6) (T := TX6) (N := 52) (ci := 6) (v := .int (nI (T 5 0))) h0 hiX6 0 rfl rfl 1 (by decide) (List.mem_of_getElem? (i := 2) rfl) rfl dX6_foe_56 ?_
          refine xncmp_ge (tgt := 118) h0 dX6_foe_59 (by decide) (by omega) (by omega) (fun c_12 => ?_) (fun c_12 => ?_)
          · skip
            refine xiload_n h0 3 dX6_foe_118 rfl rfl ?_
            exact xiret h0 dX6_foe_119 (upN u0.1 32 ((wkS T p k 8).length), upA u0.2.1 31 G, u0.2.2) (by rw [hC, sel_0, xn_n (by omega)]; first | done | (rw [hy, show i = T 5 0 by omega]; rfl)) (by rw [hC]; first | done | rfl)
          · skip
            refine xiload h0 4 dX6_foe_62 rfl ?_
            refine xiload_n h0 1 dX6_foe_64 rfl rfl ?_
            refine xncmp_eq (tgt := 112) h0 dX6_foe_65 (by decide) (by omega) (by omega) (fun c_13 => ?_) (fun c_13 => ?_)
            · skip
              refine xiinc (v := (nI (i + 1))) (lv' := [(4, .int (nI (i + 1))), (0, .ref (md 1)), (1, .int (nI p)), (2, .int (nI v)), (3, .int y)]) h0 4 dX6_foe_112 rfl (nI_add _ _) (by decide) rfl ?_
              refine xgoto (tgt := 53) h0 dX6_foe_115 (by decide) ?_
              refine xlv [1, 2, 3, 4, 0] rfl ?_
              exact ih_lp (i + 1) v y G (by omega) (by omega) (by first | (rw [foK_n (by rw [← hv]; omega)]; exact hv) | (rw [foK_y (by assumption) (by rw [← hv]; assumption)])) (by first | (rw [foK_n (by rw [← hv]; omega)]; exact hy) | (rw [foK_y (by assumption) (by rw [← hv]; assumption)]; rfl)) (by exact hGw)
            · skip
              refine xaload_n h0 0 dX6_foe_68 rfl rfl ?_
              refine xget (C := RX6) (T := TX6) (N := 52) (ci := 6) (v := .ref (md 7)) h0 hiX6 0 rfl rfl 7 (by decide) (List.mem_of_getElem? (i := 3) rfl) rfl dX6_foe_69 ?_
              refine xiload h0 4 dX6_foe_72 rfl ?_
              refine xiald (v := (nI (T 1 i))) h0 3 0 rfl rfl (by omega) (by decide) dX6_foe_74 (rfl) ?_
              refine xistore (lv' := [(5, .int (nI (T 1 i))), (0, .ref (md 1)), (1, .int (nI p)), (2, .int (nI v)), (3, .int y), (4, .int (nI i))]) h0 dX6_foe_75 (by decide) rfl ?_
              refine xaload_n h0 1 dX6_foe_77 rfl rfl ?_
              refine xget (C := RX6) (T := TX6) (N := 52) (ci := 6) (v := .ref (md 7)) h0 hiX6 0 rfl rfl 7 (by decide) (List.mem_of_getElem? (i := 3) rfl) rfl dX6_foe_78 ?_
              refine xiload h0 5 dX6_foe_81 rfl ?_
              refine xiconst (v := (nI 3)) h0 dX6_foe_83 (by decide) ?_
              refine xiastN (ws' := (wM cI cC md (up2 T 1 i 3) k tm dy P pk ptm pdy hpi tg tl R sg sl (upN u0.1 32 ((wkS T p k 8).length), upA u0.2.1 31 G, u0.2.2))) h0 3 0 rfl rfl (by omega) (by decide) dX6_foe_84 rfl ?_
              refine xaload_n h0 1 dX6_foe_85 rfl rfl ?_
              refine xcallV_i (nn := 0) (w2 := fun u_ => (wM cI cC md (up2 T 1 i 3) k tm dy P pk ptm pdy hpi tg tl R sg sl (upN u0.1 32 ((wkS T p k 8).length), upA u0.2.1 31 G, u0.2.2))) (wr := []) (rest := []) h0 (c_X6_right (xL κ) D cI cC md (up2 T 1 i 3) k tm dy P pk ptm pdy hpi tg tl R sg sl (upN u0.1 32 ((wkS T p k 8).length), upA u0.2.1 31 G, u0.2.2) (wkS T p k 8) G (tok_1 hT (by omega)) hGw (by exact wk_1 _ _ _ _) (by exact wk_8 hT hp) (by exact wk_n hT hp)) gX6_foe_X6_right (by decide +kernel) rfl rfl rfl ⟨Nat.le_of_ble_eq_true rfl, Nat.le_of_ble_eq_true rfl⟩ ⟨by decide, by decide⟩ (fun _ _ _ _ h => h) (fun _ _ _ _ _ _ _ => trivial) rfl (Nat.le_of_ble_eq_true rfl) (q0 := 0) rfl rfl rfl [0, 1, 2, 3, 4, 5, 6, 7, 8, 9, 10, 11, 12, 13, 14, 15, 16, 17, 18, 19, 20, 21] [] [0, 1, 2, 3, 4, 5, 6, 7, 8, 9, 10, 11, 12, 13, 14, 15, 16, 17, 18, 19, 20, 21] ⟨rfl, rfl, rfl, rfl, rfl⟩ (fun _ => ⟨rfl, rfl⟩) dX6_foe_86 (fun r_15 u_ hr_14 => ?_)
              subst hr_14
              refine xistore (lv' := [(6, .int (nI (rgS (up2 T 1 i 3) (wkS T p k 8)))), (5, .int (nI (T 1 i))), (0, .ref (md 1)), (1, .int (nI p)), (2, .int (nI v)), (3, .int y), (4, .int (nI i))]) h0 dX6_foe_89 (by decide) rfl ?_
              refine xaload_n h0 2 dX6_foe_91 rfl rfl ?_
              refine xget (C := RX6) (T := TX6) (N := 52) (ci := 6) (v := .ref (md 7)) h0 hiX6 0 rfl rfl 7 (by decide) (List.mem_of_getElem? (i := 3) rfl) rfl dX6_foe_92 ?_
              refine xiload h0 6 dX6_foe_95 rfl ?_
              refine xiload h0 1 dX6_foe_97 rfl ?_
              refine xiastN (ws' := (wM cI cC md (up2 (up2 T 1 i 3) 1 i (T 1 i)) k tm dy P pk ptm pdy hpi tg tl R sg sl (upN u0.1 32 ((wkS T p k 8).length), upA u0.2.1 31 G, u0.2.2))) h0 3 0 rfl rfl (by omega) (by decide) dX6_foe_99 rfl ?_
              refine xeq (ws' := (wM cI cC md T k tm dy P pk ptm pdy hpi tg tl R sg sl (upN u0.1 32 ((wkS T p k 8).length), upA u0.2.1 31 G, u0.2.2))) (by rw [up2_back]) ?_
              refine xiload h0 0 dX6_foe_100 rfl ?_
              refine xiload_n h0 4 dX6_foe_102 rfl rfl ?_
              refine xncmp_ge (tgt := 112) h0 dX6_foe_103 (by decide) (by first | exact Nat.lt_of_le_of_lt (rgS_le (tok_1 hT (by decide)) _) (by decide) | (rw [hv]; exact Nat.lt_of_le_of_lt (foK_le hT _ _ _) (by decide))) (by first | exact Nat.lt_of_le_of_lt (rgS_le (tok_1 hT (by decide)) _) (by decide) | (rw [hv]; exact Nat.lt_of_le_of_lt (foK_le hT _ _ _) (by decide))) (fun c_16 => ?_) (fun c_16 => ?_)
              · skip
                refine xiinc (v := (nI (i + 1))) (lv' := [(4, .int (nI (i + 1))), (6, .int (nI (rgS (up2 T 1 i 3) (wkS T p k 8)))), (5, .int (nI (T 1 i))), (0, .ref (md 1)), (1, .int (nI p)), (2, .int (nI v)), (3, .int y)]) h0 6 dX6_foe_112 rfl (nI_add _ _) (by decide) rfl ?_
                refine xgoto (tgt := 53) h0 dX6_foe_115 (by decide) ?_
                refine xlv [3, 4, 5, 6, 0] rfl ?_
                exact ih_lp (i + 1) v y G (by omega) (by omega) (by first | (rw [foK_n (by rw [← hv]; omega)]; exact hv) | (rw [foK_y (by assumption) (by rw [← hv]; assumption)])) (by first | (rw [foK_n (by rw [← hv]; omega)]; exact hy) | (rw [foK_y (by assumption) (by rw [← hv]; assumption)]; rfl)) (by exact hGw)
              · skip
                refine xiload h0 0 dX6_foe_106 rfl ?_
                refine xistore_n (lv' := [(2, .int (nI (rgS (up2 T 1 i 3) (wkS T p k 8)))), (6, .int (nI (rgS (up2 T 1 i 3) (wkS T p k 8)))), (5, .int (nI (T 1 i))), (0, .ref (md 1)), (1, .int (nI p)), (3, .int y), (4, .int (nI i))]) h0 dX6_foe_108 rfl (by decide) rfl ?_
                refine xiload h0 6 dX6_foe_109 rfl ?_
                refine xistore_n (lv' := [(3, .int (nI i)), (2, .int (nI (rgS (up2 T 1 i 3) (wkS T p k 8)))), (6, .int (nI (rgS (up2 T 1 i 3) (wkS T p k 8)))), (5, .int (nI (T 1 i))), (0, .ref (md 1)), (1, .int (nI p)), (4, .int (nI i))]) h0 dX6_foe_111 rfl (by decide) rfl ?_
                refine xiinc (v := (nI (i + 1))) (lv' := [(4, .int (nI (i + 1))), (3, .int (nI i)), (2, .int (nI (rgS (up2 T 1 i 3) (wkS T p k 8)))), (6, .int (nI (rgS (up2 T 1 i 3) (wkS T p k 8)))), (5, .int (nI (T 1 i))), (0, .ref (md 1)), (1, .int (nI p))]) h0 6 dX6_foe_112 rfl (nI_add _ _) (by decide) rfl ?_
                refine xgoto (tgt := 53) h0 dX6_foe_115 (by decide) ?_
                refine xlv [5, 6, 2, 1, 0] rfl ?_
                exact ih_lp (i + 1) (rgS (up2 T 1 i 3) (wkS T p k 8)) (nI i) G (by omega) (by omega) (by first | (rw [foK_n (by rw [← hv]; omega)]; exact hv) | (rw [foK_y (by assumption) (by rw [← hv]; assumption)])) (by first | (rw [foK_n (by rw [← hv]; omega)]; exact hy) | (rw [foK_y (by assumption) (by rw [← hv]; assumption)]; rfl)) (by exact hGw)
      refine xlv [3, 4, 2, 1, 0] rfl ?_
      exact lp (9) 0 (rgS T (wkS T p k 8)) (-9) G_7 (by omega) (by omega) (by rfl) (by rfl) (by exact hG_8)
    · skip
      have hC : rfC (T 5 0) k (nI p) 1 0 = 3 := rfC_3 hok (by decide) (by rw [xn_n (by omega)]; exact c_6)
      refine xaload_n h0 0 dX6_foe_25 rfl rfl ?_
      refine xbipush (v := (-3)) h0 dX6_foe_26 (by decide) ?_
      refine xcallV_i (nn := 1) (w2 := fun u_ => (wM cI cC md T k tm dy P pk ptm pdy hpi tg tl (upN R 3 (R 3 + 1)) sg sl u0)) (wr := []) (rest := []) h0 (c_X6_no (xL κ) D cI cC md T k tm dy P pk ptm pdy hpi tg tl R sg sl u0 3 (by omega)) gX6_foe_X6_no (by decide +kernel) rfl rfl rfl ⟨Nat.le_of_ble_eq_true rfl, Nat.le_of_ble_eq_true rfl⟩ ⟨by decide, by decide⟩ (fun _ _ _ _ h => h) (fun _ _ _ _ _ _ _ => trivial) rfl (Nat.le_of_ble_eq_true rfl) (q0 := 0) rfl rfl rfl [0, 1, 2, 3, 4, 5, 6, 7, 8, 9, 10, 11, 12, 13, 14, 15, 16, 17, 18, 19, 20, 21] [] [0, 1, 2, 3, 4, 5, 6, 7, 8, 9, 10, 11, 12, 13, 14, 15, 16, 17, 18, 19, 20, 21] ⟨rfl, rfl, rfl, rfl, rfl⟩ (fun _ => ⟨rfl, rfl⟩) dX6_foe_28 (fun r_18 u_ hr_17 => ?_)
      subst hr_17
      exact xiret h0 dX6_foe_31 u0 (by rw [hC, sel_n (by decide)]) (by rw [hC]; first | done | rfl)
  · skip
    have hC : rfC (T 5 0) k x 1 0 = 1 := rfC_1 c_3
    refine xaload_n h0 0 dX6_foe_8 rfl rfl ?_
    refine xiconst (v := (-1)) h0 dX6_foe_9 (by decide) ?_
    refine xcallV_i (nn := 1) (w2 := fun u_ => (wM cI cC md T k tm dy P pk ptm pdy hpi tg tl (upN R 1 (R 1 + 1)) sg sl u0)) (wr := []) (rest := []) h0 (c_X6_no (xL κ) D cI cC md T k tm dy P pk ptm pdy hpi tg tl R sg sl u0 1 (by omega)) gX6_foe_X6_no (by decide +kernel) rfl rfl rfl ⟨Nat.le_of_ble_eq_true rfl, Nat.le_of_ble_eq_true rfl⟩ ⟨by decide, by decide⟩ (fun _ _ _ _ h => h) (fun _ _ _ _ _ _ _ => trivial) rfl (Nat.le_of_ble_eq_true rfl) (q0 := 0) rfl rfl rfl [0, 1, 2, 3, 4, 5, 6, 7, 8, 9, 10, 11, 12, 13, 14, 15, 16, 17, 18, 19, 20, 21] [] [0, 1, 2, 3, 4, 5, 6, 7, 8, 9, 10, 11, 12, 13, 14, 15, 16, 17, 18, 19, 20, 21] ⟨rfl, rfl, rfl, rfl, rfl⟩ (fun _ => ⟨rfl, rfl⟩) dX6_foe_10 (fun r_20 u_ hr_19 => ?_)
    subst hr_19
    exact xiret h0 dX6_foe_13 u0 (by rw [hC, sel_n (by decide)]) (by rw [hC]; first | done | rfl)
set_option maxHeartbeats 4000000 in
set_option maxRecDepth 100000 in
theorem c_X6_switching (l : Launch) (D : va_G) (cI cC : ClassId) (md : Nat → Nat) (T : TT) (k tm dy : Nat) (P : TT) (pk ptm pdy hpi : Nat) (tg : Nat → Nat) (tl : Nat) (R : Nat → Nat) (sg : Nat → Nat) (sl : Nat) (u0 : ScmT) (x : Int32) (hT : TOK T) (hk : k < 256) (hP : TOK P) (hpk : pk < 256) (htl : tl ≤ 8) (hsl : sl ≤ 64) (hhp : hpi < 2) (htg : ∀ i, tg i ≤ 9) : XMi l yX6_switching wsX6_switching ({ frames := 5, cells := 0, slots := 0, locals := 130 } : Room) D (xT cI cC) xE0 (wM cI cC md T k tm dy P pk ptm pdy hpi tg tl R sg sl u0) [.ref (md 1), .int x] (S := ScmT) (fun r _ => r = sel (rfC (T 5 0) k x 1 0) (nI (swK T k (xn x) 5).2) (-(nI (rfC (T 5 0) k x 1 0)))) (fun u => wM cI cC md T k tm dy P pk ptm pdy hpi tg tl (bmp R (rfC (T 5 0) k x 1 0)) sg sl u) 0 0 := by
  refine xMet_i (cc := cX6_switching) (nL := 7) (ret := some .int) (by decide +kernel) rfl (Nat.le_of_ble_eq_true rfl) (fun κ A h0 hn0 hE => ?_)
  have hiX6 : ∀ w ∈ u_ws RX6 TX6 52, w ∈ wsX6_switching := by decide +kernel
  refine xlv (lv' := [(0, .ref (md 1)), (1, .int x)]) [0, 1] rfl ?_
  have hn := hT.1
  refine xaload_n h0 0 dX6_switching_0 rfl rfl ?_
  refine xiload_n h0 1 dX6_switching_1 rfl rfl ?_
  refine xcallV_i (nn := 1) (w2 := fun u_ => (wM cI cC md T k tm dy P pk ptm pdy hpi tg tl R sg sl u0)) (wr := []) (rest := []) h0 (c_X6_isNobody (xL κ) D cI cC md T k tm dy P pk ptm pdy hpi tg tl R sg sl u0 x (by omega)) gX6_switching_X6_isNobody (by decide +kernel) rfl rfl rfl ⟨Nat.le_of_ble_eq_true rfl, Nat.le_of_ble_eq_true rfl⟩ ⟨by decide, by decide⟩ (fun _ _ _ _ h => h) (fun _ _ _ _ _ _ _ => trivial) rfl (Nat.le_of_ble_eq_true rfl) (q0 := 0) rfl rfl rfl [0, 1, 2, 3, 4, 5, 6, 7, 8, 9, 10, 11, 12, 13, 14, 15, 16, 17, 18, 19, 20, 21] [] [0, 1, 2, 3, 4, 5, 6, 7, 8, 9, 10, 11, 12, 13, 14, 15, 16, 17, 18, 19, 20, 21] ⟨rfl, rfl, rfl, rfl, rfl⟩ (fun _ => ⟨rfl, rfl⟩) dX6_switching_2 (fun r_2 u_ hr_1 => ?_)
  subst hr_1
  refine xbif_eq (tgt := 14) h0 dX6_switching_5 (by decide)  (fun c_3 => ?_) (fun c_3 => ?_)
  · skip
    obtain ⟨p, hp, hxp⟩ := okN_of hn (Decidable.of_not_not c_3)
    subst hxp
    have hp8 : p < 8 := by omega
    have hok : okN (T 5 0) (nI p) := (okN_n hn (by omega)).mpr hp
    refine xaload_n h0 0 dX6_switching_14 rfl rfl ?_
    refine xget (C := RX6) (T := TX6) (N := 52) (ci := 6) (v := .int (nI k)) h0 hiX6 0 rfl rfl 3 (by decide) (List.mem_of_getElem? (i := 1) rfl) rfl dX6_switching_15 ?_
    refine xiload_n h0 1 dX6_switching_18 rfl rfl ?_
    refine xcallS_i (nn := 2) (w2 := fun u_ => (wM cI cC md T k tm dy P pk ptm pdy hpi tg tl R sg sl u0)) (wr := [(md 1, .inr (6, [.ref (md 0), .int (nI (T 5 0)), .int (nI (T 5 1)), .int (nI k), .int (nI tm), .int (nI dy), .ref (md 6), .ref (md 7), .ref (md 8), .ref (md 9), .ref (md 10), .int (nI hpi), .int (nI (P 5 0)), .int (nI (P 5 1)), .int (nI pk), .int (nI ptm), .int (nI pdy), .ref (md 17), .ref (md 18), .ref (md 19), .ref (md 20), .ref (md 21), .ref (md 22), .int (nI sl), .int (nI (u0.1 24)), .int (nI (u0.1 25)), .ref (md 26), .ref (md 27), .ref (md 28), .int (nI (u0.1 29)), .ref (md 30), .ref (md 31), .int (nI (u0.1 32)), .int (nI (u0.1 33)), .int (nI (u0.1 34)), .int (oI u0.2.2), .int (nI (u0.1 36)), .int (nI (u0.1 37)), .int (nI (u0.1 38)), .int (nI (u0.1 39)), .ref (md 40), .int (nI (u0.1 41)), .int (nI (u0.1 42)), .int (nI (u0.1 43)), .ref (md 44), .int (nI (u0.1 45)), .int (nI (u0.1 46)), .ref (md 47), .int (nI (u0.1 48)), .int (nI (u0.1 49)), .ref (md 50), .int (nI tl)])), (md 0, .inl (cI, 7, .inl (fun i_ => nI (R i_)))), (md 6, .inl (cI, 8, .inl (fun i_ => nI (T 0 i_)))), (md 7, .inl (cI, 8, .inl (fun i_ => nI (T 1 i_)))), (md 8, .inl (cI, 8, .inl (fun i_ => nI (T 2 i_)))), (md 9, .inl (cI, 8, .inl (fun i_ => nI (T 3 i_)))), (md 10, .inl (cI, 64, .inl (fun i_ => nI (T 4 i_)))), (md 17, .inl (cI, 8, .inl (fun i_ => nI (P 0 i_)))), (md 18, .inl (cI, 8, .inl (fun i_ => nI (P 1 i_)))), (md 19, .inl (cI, 8, .inl (fun i_ => nI (P 2 i_)))), (md 20, .inl (cI, 8, .inl (fun i_ => nI (P 3 i_)))), (md 21, .inl (cI, 64, .inl (fun i_ => nI (P 4 i_)))), (md 22, .inl (cI, 64, .inl (fun i_ => nI (sg i_)))), (md 26, .inl (cC, 4, .inl (fun i_ => nI (sortsN i_)))), (md 27, .inl (cC, 5, .inl (fun i_ => nI (askersN i_)))), (md 28, .inl (cC, 5, .inl (fun i_ => nI (sayersN i_)))), (md 30, .inl (cI, 4, .inl (fun i_ => nI ((u0.2.1 30) i_)))), (md 31, .inl (cI, 8, .inl (fun i_ => nI ((u0.2.1 31) i_)))), (md 40, .inl (cI, 8, .inl (fun i_ => nI ((u0.2.1 40) i_)))), (md 44, .inl (cI, 8, .inl (fun i_ => nI ((u0.2.1 44) i_)))), (md 47, .inl (cI, 8, .inl (fun i_ => nI ((u0.2.1 47) i_)))), (md 50, .inl (cI, 8, .inl (fun i_ => nI (tg i_))))]) (rest := []) h0 (c_X6_isIn (xL κ) D cI cC k p (by omega) (by omega)) gX6_switching_X6_isIn (by decide +kernel) rfl rfl rfl ⟨Nat.le_of_ble_eq_true rfl, Nat.le_of_ble_eq_true rfl⟩ ⟨by decide, by decide⟩ (fun _ _ _ _ h => h) (fun _ _ _ _ _ _ _ => trivial) rfl (Nat.le_of_ble_eq_true rfl) rfl [] [0, 1, 2, 3, 4, 5, 6, 7, 8, 9, 10, 11, 12, 13, 14, 15, 16, 17, 18, 19, 20, 21] [0, 1, 2, 3, 4, 5, 6, 7, 8, 9, 10, 11, 12, 13, 14, 15, 16, 17, 18, 19, 20, 21] ⟨rfl, rfl, rfl, rfl, rfl⟩ (fun _ => ⟨rfl, rfl⟩) dX6_switching_19 (fun r_5 u_ hr_4 => ?_)
    subst hr_4
    refine xbif_eq (tgt := 32) h0 dX6_switching_22 (by decide)  (fun c_6 => ?_) (fun c_6 => ?_)
    · skip
      have hC : rfC (T 5 0) k (nI p) 1 0 = 0 := rfC_z hok (by decide) (by rw [xn_n (by omega)]; exact c_6)
      have hkp : ¬ k.testBit p = true := c_6
      refine xaload_n h0 0 dX6_switching_32 rfl rfl ?_
      refine xget (C := RX6) (T := TX6) (N := 52) (ci := 6) (v := .ref (md 6)) h0 hiX6 0 rfl rfl 6 (by decide) (List.mem_of_getElem? (i := 2) rfl) rfl dX6_switching_33 ?_
      refine xiload_n h0 1 dX6_switching_36 rfl rfl ?_
      refine xiald (v := (nI (T 0 p))) h0 2 0 rfl rfl (by omega) (by decide) dX6_switching_37 (rfl) ?_
      refine xistore_n (lv' := [(2, .int (nI (T 0 p))), (0, .ref (md 1)), (1, .int (nI p))]) h0 dX6_switching_38 rfl (by decide) rfl ?_
      refine xiconst (v := (-1)) h0 dX6_switching_39 (by decide) ?_
      refine xistore_n (lv' := [(3, .int (-1)), (2, .int (nI (T 0 p))), (0, .ref (md 1)), (1, .int (nI p))]) h0 dX6_switching_40 rfl (by decide) rfl ?_
      refine xiconst (v := (nI 0)) h0 dX6_switching_41 (by decide) ?_
      refine xistore (lv' := [(4, .int (nI 0)), (3, .int (-1)), (2, .int (nI (T 0 p))), (0, .ref (md 1)), (1, .int (nI p))]) h0 dX6_switching_42 (by decide) rfl ?_
      refine xiconst (v := (nI 0)) h0 dX6_switching_44 (by decide) ?_
      refine xistore (lv' := [(5, .int (nI 0)), (4, .int (nI 0)), (3, .int (-1)), (2, .int (nI (T 0 p))), (0, .ref (md 1)), (1, .int (nI p))]) h0 dX6_switching_45 (by decide) rfl ?_
      have lp : ∀ (d_ : Nat) (i : Nat) (N : TT) (m : Option Nat) (fd : Nat) (z : Nat) (G : Nat → Nat), (6 - i ≤ d_) → (i ≤ 5) → (∀ z, up2 N 0 p z = up2 T 0 p z) → (m = (swK T k p i).1) → (fd = (swK T k p i).2) → XG κ 7 D (xT cI cC) A (xQi (S := ScmT) κ D (xT cI cC) A (fun r _ => r = sel (rfC (T 5 0) k (nI p) 1 0) (nI (swK T k (xn (nI p)) 5).2) (-(nI (rfC (T 5 0) k (nI p) 1 0)))) (fun u => wM cI cC md T k tm dy P pk ptm pdy hpi tg tl (bmp R (rfC (T 5 0) k (nI p) 1 0)) sg sl u) 0 0) (wM cI cC md N k tm dy P pk ptm pdy hpi tg tl R sg sl (upN u0.1 32 z, upA u0.2.1 31 G, u0.2.2)) 0 0 47 [(0, .ref (md 1)), (1, .int (nI p)), (2, .int (nI (T 0 p))), (3, .int (oI m)), (4, .int (nI fd)), (5, .int (nI i))] [] := by
        intro d_
        induction d_ with
        | zero => intro i N m fd z G hm_ hi hN hm hfd; exact absurd hm_ (by omega)
        | succ d_ ih_lp =>
          intro i N m fd z G hm_ hi hN hm hfd
          have hN5 : N 5 0 = T 5 0 := congrFun (congrFun (hN 0) 5) 0
          have hm100 : ∀ z, m = some z → z ≤ 100 := fun z e => swK_le hT k p i hi z (hm ▸ e)
          have hmb : ∀ z, m = some z → z < 2 ^ 31 := fun z e => by have := hm100 z e; omega
          refine xiload h0 5 dX6_switching_47 rfl ?_
          refine xiconst (v := (nI 5)) h0 dX6_switching_49 (by decide) ?_
          refine xncmp_ge (tgt := 96) h0 dX6_switching_50 (by decide) (by omega) (by omega) (fun c_7 => ?_) (fun c_7 => ?_)
          · skip
            refine xaload_n h0 0 dX6_switching_96 rfl rfl ?_
            refine xget (C := RX6) (T := TX6) (N := 52) (ci := 6) (v := .ref (md 6)) h0 hiX6 0 rfl rfl 6 (by decide) (List.mem_of_getElem? (i := 2) rfl) rfl dX6_switching_97 ?_
            refine xiload_n h0 1 dX6_switching_100 rfl rfl ?_
            refine xiload_n h0 2 dX6_switching_101 rfl rfl ?_
            refine xiastN (ws' := (wM cI cC md (up2 N 0 p (T 0 p)) k tm dy P pk ptm pdy hpi tg tl R sg sl (upN u0.1 32 z, upA u0.2.1 31 G, u0.2.2))) h0 2 0 rfl rfl (by omega) (by decide) dX6_switching_102 rfl ?_
            rw [hN (T 0 p), up2_self]
            refine xiload h0 4 dX6_switching_103 rfl ?_
            exact xiret h0 dX6_switching_105 (upN u0.1 32 z, upA u0.2.1 31 G, u0.2.2) (by rw [hC, sel_0, xn_n (by omega)]; first | done | (rw [hfd, show i = 5 by omega])) (by rw [hC]; first | done | rfl)
          · skip
            have hrg := rgS_le (tok_0 (p := p) (v := i) hT (by omega)) (wkS (up2 T 0 p i) p k 8)
            refine xaload_n h0 0 dX6_switching_53 rfl rfl ?_
            refine xget (C := RX6) (T := TX6) (N := 52) (ci := 6) (v := .ref (md 6)) h0 hiX6 0 rfl rfl 6 (by decide) (List.mem_of_getElem? (i := 2) rfl) rfl dX6_switching_54 ?_
            refine xiload_n h0 1 dX6_switching_57 rfl rfl ?_
            refine xiload h0 5 dX6_switching_58 rfl ?_
            refine xiastN (ws' := (wM cI cC md (up2 N 0 p i) k tm dy P pk ptm pdy hpi tg tl R sg sl (upN u0.1 32 z, upA u0.2.1 31 G, u0.2.2))) h0 2 0 rfl rfl (by omega) (by decide) dX6_switching_60 rfl ?_
            rw [hN i]
            refine xaload_n h0 0 dX6_switching_61 rfl rfl ?_
            refine xiload_n h0 1 dX6_switching_62 rfl rfl ?_
            refine xaload_n h0 0 dX6_switching_63 rfl rfl ?_
            refine xget (C := RX6) (T := TX6) (N := 52) (ci := 6) (v := .int (nI k)) h0 hiX6 0 rfl rfl 3 (by decide) (List.mem_of_getElem? (i := 1) rfl) rfl dX6_switching_64 ?_
            refine xiconst (v := (-1)) h0 dX6_switching_67 (by decide) ?_
            refine xcallV_v (nn := 3) (w2 := fun G_8 => (wM cI cC md (up2 T 0 p i) k tm dy P pk ptm pdy hpi tg tl R sg sl (upN u0.1 32 ((wkS (up2 T 0 p i) p k 8).length), upA u0.2.1 31 G_8, u0.2.2))) (wr := []) (rest := []) h0 (c_X6_go (xL κ) D cI cC md (up2 T 0 p i) k tm dy P pk ptm pdy hpi tg tl R sg sl (upN u0.1 32 z, upA u0.2.1 31 G, u0.2.2) p k 8 (-1) (tok_0 hT (by omega)) (by exact hp) (by exact hk) mx_8) gX6_switching_X6_go (by decide +kernel) rfl rfl rfl ⟨Nat.le_of_ble_eq_true rfl, Nat.le_of_ble_eq_true rfl⟩ ⟨by decide, by decide⟩ (fun _ _ _ _ h => h) (fun _ _ _ _ _ _ _ => trivial) rfl (Nat.le_of_ble_eq_true rfl) (q0 := 0) rfl rfl rfl [0, 1, 2, 3, 4, 5, 6, 7, 8, 9, 10, 11, 12, 13, 14, 15, 16, 17, 18, 19, 20, 21] [] [0, 1, 2, 3, 4, 5, 6, 7, 8, 9, 10, 11, 12, 13, 14, 15, 16, 17, 18, 19, 20, 21] ⟨rfl, rfl, rfl, rfl, rfl⟩ (fun _ => ⟨rfl, rfl⟩) dX6_switching_68 (fun G_8 hG_9 => ?_)
            refine xaload_n h0 0 dX6_switching_71 rfl rfl ?_
            refine xcallV_i (nn := 0) (w2 := fun u_ => (wM cI cC md (up2 T 0 p i) k tm dy P pk ptm pdy hpi tg tl R sg sl (upN u0.1 32 ((wkS (up2 T 0 p i) p k 8).length), upA u0.2.1 31 G_8, u0.2.2))) (wr := []) (rest := []) h0 (c_X6_right (xL κ) D cI cC md (up2 T 0 p i) k tm dy P pk ptm pdy hpi tg tl R sg sl (upN u0.1 32 ((wkS (up2 T 0 p i) p k 8).length), upA u0.2.1 31 G_8, u0.2.2) (wkS (up2 T 0 p i) p k 8) G_8 (tok_0 hT (by omega)) hG_9 (by exact wk_1 _ _ _ _) (by exact wk_8 (tok_0 hT (by omega)) hp) (by exact wk_n (tok_0 hT (by omega)) hp)) gX6_switching_X6_right (by decide +kernel) rfl rfl rfl ⟨Nat.le_of_ble_eq_true rfl, Nat.le_of_ble_eq_true rfl⟩ ⟨by decide, by decide⟩ (fun _ _ _ _ h => h) (fun _ _ _ _ _ _ _ => trivial) rfl (Nat.le_of_ble_eq_true rfl) (q0 := 0) rfl rfl rfl [0, 1, 2, 3, 4, 5, 6, 7, 8, 9, 10, 11, 12, 13, 14, 15, 16, 17, 18, 19, 20, 21] [] [0, 1, 2, 3, 4, 5, 6, 7, 8, 9, 10, 11, 12, 13, 14, 15, 16, 17, 18, 19, 20, 21] ⟨rfl, rfl, rfl, rfl, rfl⟩ (fun _ => ⟨rfl, rfl⟩) dX6_switching_72 (fun r_12 u_ hr_11 => ?_)
            subst hr_11
            refine xistore (lv' := [(6, .int (nI (rgS (up2 T 0 p i) (wkS (up2 T 0 p i) p k 8)))), (0, .ref (md 1)), (1, .int (nI p)), (2, .int (nI (T 0 p))), (3, .int (oI m)), (4, .int (nI fd)), (5, .int (nI i))]) h0 dX6_switching_75 (by decide) rfl ?_
            refine xiload h0 0 dX6_switching_77 rfl ?_
            refine xiload_n h0 4 dX6_switching_79 rfl rfl ?_
            refine xicmp_le (tgt := 90) h0 dX6_switching_80 (by decide)  (fun c_13 => ?_) (fun c_13 => ?_)
            · skip
              have hgc := (gtO_c (r := rgS (up2 T 0 p i) (wkS (up2 T 0 p i) p k 8)) (by omega) hmb).mp c_13
              refine xiinc (v := (nI (i + 1))) (lv' := [(5, .int (nI (i + 1))), (6, .int (nI (rgS (up2 T 0 p i) (wkS (up2 T 0 p i) p k 8)))), (0, .ref (md 1)), (1, .int (nI p)), (2, .int (nI (T 0 p))), (3, .int (oI m)), (4, .int (nI fd))]) h0 6 dX6_switching_90 rfl (nI_add _ _) (by decide) rfl ?_
              refine xgoto (tgt := 47) h0 dX6_switching_93 (by decide) ?_
              refine xlv [2, 3, 4, 5, 6, 0] rfl ?_
              exact ih_lp (i + 1) (up2 T 0 p i) m fd ((wkS (up2 T 0 p i) p k 8).length) G_8 (by omega) (by omega) (by intro z; exact up2_up2 T 0 p _ z) (by first | (rw [swK_n (by rw [← hm]; exact hgc)]; exact hm) | (rw [swK_y (by rw [← hm]; exact hgc)])) (by first | (rw [swK_n (by rw [← hm]; exact hgc)]; exact hfd) | (rw [swK_y (by rw [← hm]; exact hgc)]))
            · skip
              have hgc : gtO (rgS (up2 T 0 p i) (wkS (up2 T 0 p i) p k 8)) m = true := by cases hz : gtO (rgS (up2 T 0 p i) (wkS (up2 T 0 p i) p k 8)) m with | true => rfl | false => exact absurd ((gtO_c (by omega) hmb).mpr hz) c_13
              refine xiload h0 0 dX6_switching_83 rfl ?_
              refine xistore_n (lv' := [(3, .int (nI (rgS (up2 T 0 p i) (wkS (up2 T 0 p i) p k 8)))), (6, .int (nI (rgS (up2 T 0 p i) (wkS (up2 T 0 p i) p k 8)))), (0, .ref (md 1)), (1, .int (nI p)), (2, .int (nI (T 0 p))), (4, .int (nI fd)), (5, .int (nI i))]) h0 dX6_switching_85 rfl (by decide) rfl ?_
              refine xiload h0 6 dX6_switching_86 rfl ?_
              refine xistore (lv' := [(4, .int (nI i)), (3, .int (nI (rgS (up2 T 0 p i) (wkS (up2 T 0 p i) p k 8)))), (6, .int (nI (rgS (up2 T 0 p i) (wkS (up2 T 0 p i) p k 8)))), (0, .ref (md 1)), (1, .int (nI p)), (2, .int (nI (T 0 p))), (5, .int (nI i))]) h0 dX6_switching_88 (by decide) rfl ?_
              refine xiinc (v := (nI (i + 1))) (lv' := [(5, .int (nI (i + 1))), (4, .int (nI i)), (3, .int (nI (rgS (up2 T 0 p i) (wkS (up2 T 0 p i) p k 8)))), (6, .int (nI (rgS (up2 T 0 p i) (wkS (up2 T 0 p i) p k 8)))), (0, .ref (md 1)), (1, .int (nI p)), (2, .int (nI (T 0 p)))]) h0 6 dX6_switching_90 rfl (nI_add _ _) (by decide) rfl ?_
              refine xgoto (tgt := 47) h0 dX6_switching_93 (by decide) ?_
              refine xlv [4, 5, 6, 2, 1, 0] rfl ?_
              exact ih_lp (i + 1) (up2 T 0 p i) (some (rgS (up2 T 0 p i) (wkS (up2 T 0 p i) p k 8))) i ((wkS (up2 T 0 p i) p k 8).length) G_8 (by omega) (by omega) (by intro z; exact up2_up2 T 0 p _ z) (by first | (rw [swK_n (by rw [← hm]; exact hgc)]; exact hm) | (rw [swK_y (by rw [← hm]; exact hgc)])) (by first | (rw [swK_n (by rw [← hm]; exact hgc)]; exact hfd) | (rw [swK_y (by rw [← hm]; exact hgc)]))
      refine xlv [4, 5, 3, 2, 1, 0] rfl ?_
      exact lp (6) 0 T none 0 (u0.1 32) (u0.2.1 31) (by omega) (by omega) (by intro z; rfl) (by rfl) (by rfl)
    · skip
      have hC : rfC (T 5 0) k (nI p) 1 0 = 3 := rfC_3 hok (by decide) (by rw [xn_n (by omega)]; exact c_6)
      refine xaload_n h0 0 dX6_switching_25 rfl rfl ?_
      refine xbipush (v := (-3)) h0 dX6_switching_26 (by decide) ?_
      refine xcallV_i (nn := 1) (w2 := fun u_ => (wM cI cC md T k tm dy P pk ptm pdy hpi tg tl (upN R 3 (R 3 + 1)) sg sl u0)) (wr := []) (rest := []) h0 (c_X6_no (xL κ) D cI cC md T k tm dy P pk ptm pdy hpi tg tl R sg sl u0 3 (by omega)) gX6_switching_X6_no (by decide +kernel) rfl rfl rfl ⟨Nat.le_of_ble_eq_true rfl, Nat.le_of_ble_eq_true rfl⟩ ⟨by decide, by decide⟩ (fun _ _ _ _ h => h) (fun _ _ _ _ _ _ _ => trivial) rfl (Nat.le_of_ble_eq_true rfl) (q0 := 0) rfl rfl rfl [0, 1, 2, 3, 4, 5, 6, 7, 8, 9, 10, 11, 12, 13, 14, 15, 16, 17, 18, 19, 20, 21] [] [0, 1, 2, 3, 4, 5, 6, 7, 8, 9, 10, 11, 12, 13, 14, 15, 16, 17, 18, 19, 20, 21] ⟨rfl, rfl, rfl, rfl, rfl⟩ (fun _ => ⟨rfl, rfl⟩) dX6_switching_28 (fun r_15 u_ hr_14 => ?_)
      subst hr_14
      exact xiret h0 dX6_switching_31 u0 (by rw [hC, sel_n (by decide)]) (by rw [hC]; first | done | rfl)
  · skip
    have hC : rfC (T 5 0) k x 1 0 = 1 := rfC_1 c_3
    refine xaload_n h0 0 dX6_switching_8 rfl rfl ?_
    refine xiconst (v := (-1)) h0 dX6_switching_9 (by decide) ?_
    refine xcallV_i (nn := 1) (w2 := fun u_ => (wM cI cC md T k tm dy P pk ptm pdy hpi tg tl (upN R 1 (R 1 + 1)) sg sl u0)) (wr := []) (rest := []) h0 (c_X6_no (xL κ) D cI cC md T k tm dy P pk ptm pdy hpi tg tl R sg sl u0 1 (by omega)) gX6_switching_X6_no (by decide +kernel) rfl rfl rfl ⟨Nat.le_of_ble_eq_true rfl, Nat.le_of_ble_eq_true rfl⟩ ⟨by decide, by decide⟩ (fun _ _ _ _ h => h) (fun _ _ _ _ _ _ _ => trivial) rfl (Nat.le_of_ble_eq_true rfl) (q0 := 0) rfl rfl rfl [0, 1, 2, 3, 4, 5, 6, 7, 8, 9, 10, 11, 12, 13, 14, 15, 16, 17, 18, 19, 20, 21] [] [0, 1, 2, 3, 4, 5, 6, 7, 8, 9, 10, 11, 12, 13, 14, 15, 16, 17, 18, 19, 20, 21] ⟨rfl, rfl, rfl, rfl, rfl⟩ (fun _ => ⟨rfl, rfl⟩) dX6_switching_10 (fun r_17 u_ hr_16 => ?_)
    subst hr_16
    exact xiret h0 dX6_switching_13 u0 (by rw [hC, sel_n (by decide)]) (by rw [hC]; first | done | rfl)
set_option maxHeartbeats 4000000 in
set_option maxRecDepth 100000 in
theorem c_X6_edge (l : Launch) (D : va_G) (cI cC : ClassId) (md : Nat → Nat) (T : TT) (k tm dy : Nat) (P : TT) (pk ptm pdy hpi : Nat) (tg : Nat → Nat) (tl : Nat) (R : Nat → Nat) (sg : Nat → Nat) (sl : Nat) (u0 : ScmT) (x v : Int32) (hT : TOK T) (hk : k < 256) (hP : TOK P) (hpk : pk < 256) (htl : tl ≤ 8) (hsl : sl ≤ 64) (hhp : hpi < 2) (htg : ∀ i, tg i ≤ 9) : XMi l yX6_edge wsX6_edge ({ frames := 5, cells := 0, slots := 0, locals := 130 } : Room) D (xT cI cC) xE0 (wM cI cC md T k tm dy P pk ptm pdy hpi tg tl R sg sl u0) [.ref (md 1), .int x, .int v] (S := ScmT) (fun r _ => r = sel (edC (T 5 0) k x v) (edS T k (xn x) (xn v)) (nI 1000000000 - (-(nI (edC (T 5 0) k x v))))) (fun u => wM cI cC md T k tm dy P pk ptm pdy hpi tg tl (bmp R (edC (T 5 0) k x v)) sg sl u) 0 0 := by
  refine xMet_i (cc := cX6_edge) (nL := 4) (ret := some .int) (by decide +kernel) rfl (Nat.le_of_ble_eq_true rfl) (fun κ A h0 hn0 hE => ?_)
  have hiX6 : ∀ w ∈ u_ws RX6 TX6 52, w ∈ wsX6_edge := by decide +kernel
  refine xlv (lv' := [(0, .ref (md 1)), (1, .int x), (2, .int v)]) [0, 1, 2] rfl ?_
  have hn := hT.1
  refine xaload_n h0 0 dX6_edge_0 rfl rfl ?_
  refine xiload_n h0 1 dX6_edge_1 rfl rfl ?_
  refine xcallV_i (nn := 1) (w2 := fun u_ => (wM cI cC md T k tm dy P pk ptm pdy hpi tg tl R sg sl u0)) (wr := []) (rest := []) h0 (c_X6_isNobody (xL κ) D cI cC md T k tm dy P pk ptm pdy hpi tg tl R sg sl u0 x (by omega)) gX6_edge_X6_isNobody (by decide +kernel) rfl rfl rfl ⟨Nat.le_of_ble_eq_true rfl, Nat.le_of_ble_eq_true rfl⟩ ⟨by decide, by decide⟩ (fun _ _ _ _ h => h) (fun _ _ _ _ _ _ _ => trivial) rfl (Nat.le_of_ble_eq_true rfl) (q0 := 0) rfl rfl rfl [0, 1, 2, 3, 4, 5, 6, 7, 8, 9, 10, 11, 12, 13, 14, 15, 16, 17, 18, 19, 20, 21] [] [0, 1, 2, 3, 4, 5, 6, 7, 8, 9, 10, 11, 12, 13, 14, 15, 16, 17, 18, 19, 20, 21] ⟨rfl, rfl, rfl, rfl, rfl⟩ (fun _ => ⟨rfl, rfl⟩) dX6_edge_2 (fun r_2 u_ hr_1 => ?_)
  subst hr_1
  refine xbif_ne (tgt := 21) h0 dX6_edge_5 (by decide)  (fun c_3 => ?_) (fun c_3 => ?_)
  · skip
    have hC : edC (T 5 0) k x v = 1 := if_pos (Or.inl c_3)
    refine xldc (v := (nI 1000000000)) h0 (List.mem_of_getElem? (i := 1) rfl) dX6_edge_21 ?_
    refine xaload_n h0 0 dX6_edge_23 rfl rfl ?_
    refine xiconst (v := (-1)) h0 dX6_edge_24 (by decide) ?_
    refine xcallV_i (nn := 1) (w2 := fun u_ => (wM cI cC md T k tm dy P pk ptm pdy hpi tg tl (upN R 1 (R 1 + 1)) sg sl u0)) (wr := []) (rest := [.int (nI 1000000000)]) h0 (c_X6_no (xL κ) D cI cC md T k tm dy P pk ptm pdy hpi tg tl R sg sl u0 1 (by omega)) gX6_edge_X6_no (by decide +kernel) rfl rfl rfl ⟨Nat.le_of_ble_eq_true rfl, Nat.le_of_ble_eq_true rfl⟩ ⟨by decide, by decide⟩ (fun _ _ _ _ h => h) (fun _ _ _ _ _ _ _ => trivial) rfl (Nat.le_of_ble_eq_true rfl) (q0 := 0) rfl rfl rfl [0, 1, 2, 3, 4, 5, 6, 7, 8, 9, 10, 11, 12, 13, 14, 15, 16, 17, 18, 19, 20, 21] [] [0, 1, 2, 3, 4, 5, 6, 7, 8, 9, 10, 11, 12, 13, 14, 15, 16, 17, 18, 19, 20, 21] ⟨rfl, rfl, rfl, rfl, rfl⟩ (fun _ => ⟨rfl, rfl⟩) dX6_edge_25 (fun r_5 u_ hr_4 => ?_)
    subst hr_4
    refine xisub (v := ((nI 1000000000) - (-(nI 1)))) h0 dX6_edge_28 rfl ?_
    exact xiret h0 dX6_edge_29 u0 (by rw [hC, sel_n (by decide)]) (by rw [hC]; first | done | rfl)
  · skip
    obtain ⟨p, hp, hxp⟩ := okN_of hn (Decidable.of_not_not c_3)
    subst hxp
    have hp8 : p < 8 := by omega
    have hok : okN (T 5 0) (nI p) := (okN_n hn (by omega)).mpr hp
    refine xaload_n h0 0 dX6_edge_8 rfl rfl ?_
    refine xiload_n h0 2 dX6_edge_9 rfl rfl ?_
    refine xcallV_i (nn := 1) (w2 := fun u_ => (wM cI cC md T k tm dy P pk ptm pdy hpi tg tl R sg sl u0)) (wr := []) (rest := []) h0 (c_X6_isNobody (xL κ) D cI cC md T k tm dy P pk ptm pdy hpi tg tl R sg sl u0 v (by omega)) gX6_edge_X6_isNobody (by decide +kernel) rfl rfl rfl ⟨Nat.le_of_ble_eq_true rfl, Nat.le_of_ble_eq_true rfl⟩ ⟨by decide, by decide⟩ (fun _ _ _ _ h => h) (fun _ _ _ _ _ _ _ => trivial) rfl (Nat.le_of_ble_eq_true rfl) (q0 := 0) rfl rfl rfl [0, 1, 2, 3, 4, 5, 6, 7, 8, 9, 10, 11, 12, 13, 14, 15, 16, 17, 18, 19, 20, 21] [] [0, 1, 2, 3, 4, 5, 6, 7, 8, 9, 10, 11, 12, 13, 14, 15, 16, 17, 18, 19, 20, 21] ⟨rfl, rfl, rfl, rfl, rfl⟩ (fun _ => ⟨rfl, rfl⟩) dX6_edge_10 (fun r_7 u_ hr_6 => ?_)
    subst hr_6
    refine xbif_ne (tgt := 21) h0 dX6_edge_13 (by decide)  (fun c_8 => ?_) (fun c_8 => ?_)
    · skip
      have hC : edC (T 5 0) k (nI p) v = 1 := if_pos (Or.inr (Or.inl c_8))
      refine xldc (v := (nI 1000000000)) h0 (List.mem_of_getElem? (i := 1) rfl) dX6_edge_21 ?_
      refine xaload_n h0 0 dX6_edge_23 rfl rfl ?_
      refine xiconst (v := (-1)) h0 dX6_edge_24 (by decide) ?_
      refine xcallV_i (nn := 1) (w2 := fun u_ => (wM cI cC md T k tm dy P pk ptm pdy hpi tg tl (upN R 1 (R 1 + 1)) sg sl u0)) (wr := []) (rest := [.int (nI 1000000000)]) h0 (c_X6_no (xL κ) D cI cC md T k tm dy P pk ptm pdy hpi tg tl R sg sl u0 1 (by omega)) gX6_edge_X6_no (by decide +kernel) rfl rfl rfl ⟨Nat.le_of_ble_eq_true rfl, Nat.le_of_ble_eq_true rfl⟩ ⟨by decide, by decide⟩ (fun _ _ _ _ h => h) (fun _ _ _ _ _ _ _ => trivial) rfl (Nat.le_of_ble_eq_true rfl) (q0 := 0) rfl rfl rfl [0, 1, 2, 3, 4, 5, 6, 7, 8, 9, 10, 11, 12, 13, 14, 15, 16, 17, 18, 19, 20, 21] [] [0, 1, 2, 3, 4, 5, 6, 7, 8, 9, 10, 11, 12, 13, 14, 15, 16, 17, 18, 19, 20, 21] ⟨rfl, rfl, rfl, rfl, rfl⟩ (fun _ => ⟨rfl, rfl⟩) dX6_edge_25 (fun r_10 u_ hr_9 => ?_)
      subst hr_9
      refine xisub (v := ((nI 1000000000) - (-(nI 1)))) h0 dX6_edge_28 rfl ?_
      exact xiret h0 dX6_edge_29 u0 (by rw [hC, sel_n (by decide)]) (by rw [hC]; first | done | rfl)
    · skip
      obtain ⟨q, hq, hxq⟩ := okN_of hn (Decidable.of_not_not c_8)
      subst hxq
      have hq8 : q < 8 := by omega
      have hokq : okN (T 5 0) (nI q) := (okN_n hn (by omega)).mpr hq
      refine xiload_n h0 1 dX6_edge_16 rfl rfl ?_
      refine xiload_n h0 2 dX6_edge_17 rfl rfl ?_
      refine xncmp_ne (tgt := 30) h0 dX6_edge_18 (by decide) (by omega) (by omega) (fun c_11 => ?_) (fun c_11 => ?_)
      · skip
        have hno := ed_no hok hokq (fun z => absurd ((nI_eq (by omega) (by omega)).mp z) (by omega : ¬ p = q))
        refine xaload_n h0 0 dX6_edge_30 rfl rfl ?_
        refine xget (C := RX6) (T := TX6) (N := 52) (ci := 6) (v := .int (nI k)) h0 hiX6 0 rfl rfl 3 (by decide) (List.mem_of_getElem? (i := 2) rfl) rfl dX6_edge_31 ?_
        refine xiload_n h0 1 dX6_edge_34 rfl rfl ?_
        refine xcallS_i (nn := 2) (w2 := fun u_ => (wM cI cC md T k tm dy P pk ptm pdy hpi tg tl R sg sl u0)) (wr := [(md 1, .inr (6, [.ref (md 0), .int (nI (T 5 0)), .int (nI (T 5 1)), .int (nI k), .int (nI tm), .int (nI dy), .ref (md 6), .ref (md 7), .ref (md 8), .ref (md 9), .ref (md 10), .int (nI hpi), .int (nI (P 5 0)), .int (nI (P 5 1)), .int (nI pk), .int (nI ptm), .int (nI pdy), .ref (md 17), .ref (md 18), .ref (md 19), .ref (md 20), .ref (md 21), .ref (md 22), .int (nI sl), .int (nI (u0.1 24)), .int (nI (u0.1 25)), .ref (md 26), .ref (md 27), .ref (md 28), .int (nI (u0.1 29)), .ref (md 30), .ref (md 31), .int (nI (u0.1 32)), .int (nI (u0.1 33)), .int (nI (u0.1 34)), .int (oI u0.2.2), .int (nI (u0.1 36)), .int (nI (u0.1 37)), .int (nI (u0.1 38)), .int (nI (u0.1 39)), .ref (md 40), .int (nI (u0.1 41)), .int (nI (u0.1 42)), .int (nI (u0.1 43)), .ref (md 44), .int (nI (u0.1 45)), .int (nI (u0.1 46)), .ref (md 47), .int (nI (u0.1 48)), .int (nI (u0.1 49)), .ref (md 50), .int (nI tl)])), (md 0, .inl (cI, 7, .inl (fun i_ => nI (R i_)))), (md 6, .inl (cI, 8, .inl (fun i_ => nI (T 0 i_)))), (md 7, .inl (cI, 8, .inl (fun i_ => nI (T 1 i_)))), (md 8, .inl (cI, 8, .inl (fun i_ => nI (T 2 i_)))), (md 9, .inl (cI, 8, .inl (fun i_ => nI (T 3 i_)))), (md 10, .inl (cI, 64, .inl (fun i_ => nI (T 4 i_)))), (md 17, .inl (cI, 8, .inl (fun i_ => nI (P 0 i_)))), (md 18, .inl (cI, 8, .inl (fun i_ => nI (P 1 i_)))), (md 19, .inl (cI, 8, .inl (fun i_ => nI (P 2 i_)))), (md 20, .inl (cI, 8, .inl (fun i_ => nI (P 3 i_)))), (md 21, .inl (cI, 64, .inl (fun i_ => nI (P 4 i_)))), (md 22, .inl (cI, 64, .inl (fun i_ => nI (sg i_)))), (md 26, .inl (cC, 4, .inl (fun i_ => nI (sortsN i_)))), (md 27, .inl (cC, 5, .inl (fun i_ => nI (askersN i_)))), (md 28, .inl (cC, 5, .inl (fun i_ => nI (sayersN i_)))), (md 30, .inl (cI, 4, .inl (fun i_ => nI ((u0.2.1 30) i_)))), (md 31, .inl (cI, 8, .inl (fun i_ => nI ((u0.2.1 31) i_)))), (md 40, .inl (cI, 8, .inl (fun i_ => nI ((u0.2.1 40) i_)))), (md 44, .inl (cI, 8, .inl (fun i_ => nI ((u0.2.1 44) i_)))), (md 47, .inl (cI, 8, .inl (fun i_ => nI ((u0.2.1 47) i_)))), (md 50, .inl (cI, 8, .inl (fun i_ => nI (tg i_))))]) (rest := []) h0 (c_X6_isIn (xL κ) D cI cC k p (by omega) (by omega)) gX6_edge_X6_isIn (by decide +kernel) rfl rfl rfl ⟨Nat.le_of_ble_eq_true rfl, Nat.le_of_ble_eq_true rfl⟩ ⟨by decide, by decide⟩ (fun _ _ _ _ h => h) (fun _ _ _ _ _ _ _ => trivial) rfl (Nat.le_of_ble_eq_true rfl) rfl [] [0, 1, 2, 3, 4, 5, 6, 7, 8, 9, 10, 11, 12, 13, 14, 15, 16, 17, 18, 19, 20, 21] [0, 1, 2, 3, 4, 5, 6, 7, 8, 9, 10, 11, 12, 13, 14, 15, 16, 17, 18, 19, 20, 21] ⟨rfl, rfl, rfl, rfl, rfl⟩ (fun _ => ⟨rfl, rfl⟩) dX6_edge_35 (fun r_13 u_ hr_12 => ?_)
        subst hr_12
        refine xbif_eq (tgt := 51) h0 dX6_edge_38 (by decide)  (fun c_14 => ?_) (fun c_14 => ?_)
        · skip
          have hC : edC (T 5 0) k (nI p) (nI q) = 0 := by unfold edC; rw [if_neg hno, xn_n (by omega), if_neg c_14]
          refine xaload_n h0 0 dX6_edge_51 rfl rfl ?_
          refine xiload_n h0 1 dX6_edge_52 rfl rfl ?_
          refine xaload_n h0 0 dX6_edge_53 rfl rfl ?_
          refine xget (C := RX6) (T := TX6) (N := 52) (ci := 6) (v := .int (nI k)) h0 hiX6 0 rfl rfl 3 (by decide) (List.mem_of_getElem? (i := 2) rfl) rfl dX6_edge_54 ?_
          refine xiconst (v := (-1)) h0 dX6_edge_57 (by decide) ?_
          refine xcallV_v (nn := 3) (w2 := fun G_15 => (wM cI cC md T k tm dy P pk ptm pdy hpi tg tl R sg sl (upN u0.1 32 ((wkS T p k 8).length), upA u0.2.1 31 G_15, u0.2.2))) (wr := []) (rest := []) h0 (c_X6_go (xL κ) D cI cC md T k tm dy P pk ptm pdy hpi tg tl R sg sl u0 p k 8 (-1) hT (by omega) (by omega) mx_8) gX6_edge_X6_go (by decide +kernel) rfl rfl rfl ⟨Nat.le_of_ble_eq_true rfl, Nat.le_of_ble_eq_true rfl⟩ ⟨by decide, by decide⟩ (fun _ _ _ _ h => h) (fun _ _ _ _ _ _ _ => trivial) rfl (Nat.le_of_ble_eq_true rfl) (q0 := 0) rfl rfl rfl [0, 1, 2, 3, 4, 5, 6, 7, 8, 9, 10, 11, 12, 13, 14, 15, 16, 17, 18, 19, 20, 21] [] [0, 1, 2, 3, 4, 5, 6, 7, 8, 9, 10, 11, 12, 13, 14, 15, 16, 17, 18, 19, 20, 21] ⟨rfl, rfl, rfl, rfl, rfl⟩ (fun _ => ⟨rfl, rfl⟩) dX6_edge_58 (fun G_15 hG_16 => ?_)
          refine xaload_n h0 0 dX6_edge_61 rfl rfl ?_
          refine xcallV_i (nn := 0) (w2 := fun u_ => (wM cI cC md T k tm dy P pk ptm pdy hpi tg tl R sg sl (upN u0.1 32 ((wkS T p k 8).length), upA u0.2.1 31 G_15, u0.2.2))) (wr := []) (rest := []) h0 (c_X6_time (xL κ) D cI cC md T k tm dy P pk ptm pdy hpi tg tl R sg sl (upN u0.1 32 ((wkS T p k 8).length), upA u0.2.1 31 G_15, u0.2.2) (wkS T p k 8) G_15 hT hG_16 (by exact wk_1 _ _ _ _) (by exact wk_8 hT hp) (by exact wk_n hT hp)) gX6_edge_X6_time (by decide +kernel) rfl rfl rfl ⟨Nat.le_of_ble_eq_true rfl, Nat.le_of_ble_eq_true rfl⟩ ⟨by decide, by decide⟩ (fun _ _ _ _ h => h) (fun _ _ _ _ _ _ _ => trivial) rfl (Nat.le_of_ble_eq_true rfl) (q0 := 0) rfl rfl rfl [0, 1, 2, 3, 4, 5, 6, 7, 8, 9, 10, 11, 12, 13, 14, 15, 16, 17, 18, 19, 20, 21] [] [0, 1, 2, 3, 4, 5, 6, 7, 8, 9, 10, 11, 12, 13, 14, 15, 16, 17, 18, 19, 20, 21] ⟨rfl, rfl, rfl, rfl, rfl⟩ (fun _ => ⟨rfl, rfl⟩) dX6_edge_62 (fun r_19 u_ hr_18 => ?_)
          subst hr_18
          refine xistore_n (lv' := [(3, .int (nI (tmS T (wkS T p k 8)))), (0, .ref (md 1)), (1, .int (nI p)), (2, .int (nI q))]) h0 dX6_edge_65 rfl (by decide) rfl ?_
          refine xaload_n h0 1 dX6_edge_66 rfl rfl ?_
          refine xiload_n h0 2 dX6_edge_67 rfl rfl ?_
          refine xaload_n h0 1 dX6_edge_68 rfl rfl ?_
          refine xget (C := RX6) (T := TX6) (N := 52) (ci := 6) (v := .int (nI k)) h0 hiX6 0 rfl rfl 3 (by decide) (List.mem_of_getElem? (i := 2) rfl) rfl dX6_edge_69 ?_
          refine xiload_n h0 3 dX6_edge_72 rfl rfl ?_
          refine xcallV_v (nn := 3) (w2 := fun G_20 => (wM cI cC md T k tm dy P pk ptm pdy hpi tg tl R sg sl (upN u0.1 32 ((wkS T p k q).length), upA u0.2.1 31 G_20, u0.2.2))) (wr := []) (rest := []) h0 (c_X6_go (xL κ) D cI cC md T k tm dy P pk ptm pdy hpi tg tl R sg sl (upN u0.1 32 ((wkS T p k 8).length), upA u0.2.1 31 G_15, u0.2.2) p k q (nI q) hT (by omega) (by omega) (mx_q (by omega))) gX6_edge_X6_go (by decide +kernel) rfl rfl rfl ⟨Nat.le_of_ble_eq_true rfl, Nat.le_of_ble_eq_true rfl⟩ ⟨by decide, by decide⟩ (fun _ _ _ _ h => h) (fun _ _ _ _ _ _ _ => trivial) rfl (Nat.le_of_ble_eq_true rfl) (q0 := 0) rfl rfl rfl [0, 1, 2, 3, 4, 5, 6, 7, 8, 9, 10, 11, 12, 13, 14, 15, 16, 17, 18, 19, 20, 21] [] [0, 1, 2, 3, 4, 5, 6, 7, 8, 9, 10, 11, 12, 13, 14, 15, 16, 17, 18, 19, 20, 21] ⟨rfl, rfl, rfl, rfl, rfl⟩ (fun _ => ⟨rfl, rfl⟩) dX6_edge_73 (fun G_20 hG_21 => ?_)
          refine xiload_n h0 0 dX6_edge_76 rfl rfl ?_
          refine xaload_n h0 1 dX6_edge_77 rfl rfl ?_
          refine xcallV_i (nn := 0) (w2 := fun u_ => (wM cI cC md T k tm dy P pk ptm pdy hpi tg tl R sg sl (upN u0.1 32 ((wkS T p k q).length), upA u0.2.1 31 G_20, u0.2.2))) (wr := []) (rest := [.int (nI (tmS T (wkS T p k 8)))]) h0 (c_X6_time (xL κ) D cI cC md T k tm dy P pk ptm pdy hpi tg tl R sg sl (upN u0.1 32 ((wkS T p k q).length), upA u0.2.1 31 G_20, u0.2.2) (wkS T p k q) G_20 hT hG_21 (by exact wk_1 _ _ _ _) (by exact wk_8 hT hp) (by exact wk_n hT hp)) gX6_edge_X6_time (by decide +kernel) rfl rfl rfl ⟨Nat.le_of_ble_eq_true rfl, Nat.le_of_ble_eq_true rfl⟩ ⟨by decide, by decide⟩ (fun _ _ _ _ h => h) (fun _ _ _ _ _ _ _ => trivial) rfl (Nat.le_of_ble_eq_true rfl) (q0 := 0) rfl rfl rfl [0, 1, 2, 3, 4, 5, 6, 7, 8, 9, 10, 11, 12, 13, 14, 15, 16, 17, 18, 19, 20, 21] [] [0, 1, 2, 3, 4, 5, 6, 7, 8, 9, 10, 11, 12, 13, 14, 15, 16, 17, 18, 19, 20, 21] ⟨rfl, rfl, rfl, rfl, rfl⟩ (fun _ => ⟨rfl, rfl⟩) dX6_edge_78 (fun r_24 u_ hr_23 => ?_)
          subst hr_23
          refine xisub (v := ((nI (tmS T (wkS T p k 8))) - (nI (tmS T (wkS T p k q))))) h0 dX6_edge_81 rfl ?_
          exact xiret h0 dX6_edge_82 (upN u0.1 32 ((wkS T p k q).length), upA u0.2.1 31 G_20, u0.2.2) (by rw [hC, sel_0, xn_n (by omega)]; first | done | (rw [xn_n (by omega)]; unfold edS; rfl)) (by rw [hC]; first | done | rfl)
        · skip
          have hC : edC (T 5 0) k (nI p) (nI q) = 3 := by unfold edC; rw [if_neg hno, xn_n (by omega), if_pos c_14]
          refine xldc (v := (nI 1000000000)) h0 (List.mem_of_getElem? (i := 1) rfl) dX6_edge_41 ?_
          refine xaload_n h0 0 dX6_edge_43 rfl rfl ?_
          refine xbipush (v := (-3)) h0 dX6_edge_44 (by decide) ?_
          refine xcallV_i (nn := 1) (w2 := fun u_ => (wM cI cC md T k tm dy P pk ptm pdy hpi tg tl (upN R 3 (R 3 + 1)) sg sl u0)) (wr := []) (rest := [.int (nI 1000000000)]) h0 (c_X6_no (xL κ) D cI cC md T k tm dy P pk ptm pdy hpi tg tl R sg sl u0 3 (by omega)) gX6_edge_X6_no (by decide +kernel) rfl rfl rfl ⟨Nat.le_of_ble_eq_true rfl, Nat.le_of_ble_eq_true rfl⟩ ⟨by decide, by decide⟩ (fun _ _ _ _ h => h) (fun _ _ _ _ _ _ _ => trivial) rfl (Nat.le_of_ble_eq_true rfl) (q0 := 0) rfl rfl rfl [0, 1, 2, 3, 4, 5, 6, 7, 8, 9, 10, 11, 12, 13, 14, 15, 16, 17, 18, 19, 20, 21] [] [0, 1, 2, 3, 4, 5, 6, 7, 8, 9, 10, 11, 12, 13, 14, 15, 16, 17, 18, 19, 20, 21] ⟨rfl, rfl, rfl, rfl, rfl⟩ (fun _ => ⟨rfl, rfl⟩) dX6_edge_46 (fun r_26 u_ hr_25 => ?_)
          subst hr_25
          refine xisub (v := ((nI 1000000000) - (-(nI 3)))) h0 dX6_edge_49 rfl ?_
          exact xiret h0 dX6_edge_50 u0 (by rw [hC, sel_n (by decide)]) (by rw [hC]; first | done | rfl)
      · skip
        have hC : edC (T 5 0) k (nI p) (nI q) = 1 := if_pos (Or.inr (Or.inr (congrArg nI (by omega : p = q))))
        refine xldc (v := (nI 1000000000)) h0 (List.mem_of_getElem? (i := 1) rfl) dX6_edge_21 ?_
        refine xaload_n h0 0 dX6_edge_23 rfl rfl ?_
        refine xiconst (v := (-1)) h0 dX6_edge_24 (by decide) ?_
        refine xcallV_i (nn := 1) (w2 := fun u_ => (wM cI cC md T k tm dy P pk ptm pdy hpi tg tl (upN R 1 (R 1 + 1)) sg sl u0)) (wr := []) (rest := [.int (nI 1000000000)]) h0 (c_X6_no (xL κ) D cI cC md T k tm dy P pk ptm pdy hpi tg tl R sg sl u0 1 (by omega)) gX6_edge_X6_no (by decide +kernel) rfl rfl rfl ⟨Nat.le_of_ble_eq_true rfl, Nat.le_of_ble_eq_true rfl⟩ ⟨by decide, by decide⟩ (fun _ _ _ _ h => h) (fun _ _ _ _ _ _ _ => trivial) rfl (Nat.le_of_ble_eq_true rfl) (q0 := 0) rfl rfl rfl [0, 1, 2, 3, 4, 5, 6, 7, 8, 9, 10, 11, 12, 13, 14, 15, 16, 17, 18, 19, 20, 21] [] [0, 1, 2, 3, 4, 5, 6, 7, 8, 9, 10, 11, 12, 13, 14, 15, 16, 17, 18, 19, 20, 21] ⟨rfl, rfl, rfl, rfl, rfl⟩ (fun _ => ⟨rfl, rfl⟩) dX6_edge_25 (fun r_28 u_ hr_27 => ?_)
        subst hr_27
        refine xisub (v := ((nI 1000000000) - (-(nI 1)))) h0 dX6_edge_28 rfl ?_
        exact xiret h0 dX6_edge_29 u0 (by rw [hC, sel_n (by decide)]) (by rw [hC]; first | done | rfl)
set_option maxHeartbeats 4000000 in
set_option maxRecDepth 100000 in
theorem c_X6_both (l : Launch) (D : va_G) (cI cC : ClassId) (md : Nat → Nat) (T : TT) (k tm dy : Nat) (P : TT) (pk ptm pdy hpi : Nat) (tg : Nat → Nat) (tl : Nat) (R : Nat → Nat) (sg : Nat → Nat) (sl : Nat) (u0 : ScmT) (p q : Nat) (hT : TOK T) (hk : k < 256) (hp : p < T 5 0) (hq : q < T 5 0) : XMi l yX6_both wsX6_both ({ frames := 5, cells := 0, slots := 0, locals := 130 } : Room) D (xT cI cC) xE0 (wM cI cC md T k tm dy P pk ptm pdy hpi tg tl R sg sl u0) [.ref (md 1), .int (nI p), .int (nI q)] (S := ScmT) (fun r _ => r = nI (boS T k p q)) (fun u => wM cI cC md T k tm dy P pk ptm pdy hpi tg tl R sg sl u) 0 0 := by
  refine xMet_i (cc := cX6_both) (nL := 5) (ret := some .int) (by decide +kernel) rfl (Nat.le_of_ble_eq_true rfl) (fun κ A h0 hn0 hE => ?_)
  have hiX6 : ∀ w ∈ u_ws RX6 TX6 52, w ∈ wsX6_both := by decide +kernel
  refine xlv (lv' := [(0, .ref (md 1)), (1, .int (nI p)), (2, .int (nI q))]) [0, 1, 2] rfl ?_
  have hn := hT.1
  have hB : k ||| mskL (wkS T p k 8) < 256 := or_lt256 hk (wk_256 hT hp)
  refine xaload_n h0 0 dX6_both_0 rfl rfl ?_
  refine xiload_n h0 1 dX6_both_1 rfl rfl ?_
  refine xaload_n h0 0 dX6_both_2 rfl rfl ?_
  refine xget (C := RX6) (T := TX6) (N := 52) (ci := 6) (v := .int (nI k)) h0 hiX6 0 rfl rfl 3 (by decide) (List.mem_of_getElem? (i := 1) rfl) rfl dX6_both_3 ?_
  refine xiconst (v := (-1)) h0 dX6_both_6 (by decide) ?_
  refine xcallV_v (nn := 3) (w2 := fun G_1 => (wM cI cC md T k tm dy P pk ptm pdy hpi tg tl R sg sl (upN u0.1 32 ((wkS T p k 8).length), upA u0.2.1 31 G_1, u0.2.2))) (wr := []) (rest := []) h0 (c_X6_go (xL κ) D cI cC md T k tm dy P pk ptm pdy hpi tg tl R sg sl u0 p k 8 (-1) hT (by omega) (by omega) mx_8) gX6_both_X6_go (by decide +kernel) rfl rfl rfl ⟨Nat.le_of_ble_eq_true rfl, Nat.le_of_ble_eq_true rfl⟩ ⟨by decide, by decide⟩ (fun _ _ _ _ h => h) (fun _ _ _ _ _ _ _ => trivial) rfl (Nat.le_of_ble_eq_true rfl) (q0 := 0) rfl rfl rfl [0, 1, 2, 3, 4, 5, 6, 7, 8, 9, 10, 11, 12, 13, 14, 15, 16, 17, 18, 19, 20, 21] [] [0, 1, 2, 3, 4, 5, 6, 7, 8, 9, 10, 11, 12, 13, 14, 15, 16, 17, 18, 19, 20, 21] ⟨rfl, rfl, rfl, rfl, rfl⟩ (fun _ => ⟨rfl, rfl⟩) dX6_both_7 (fun G_1 hG_2 => ?_)
  refine xaload_n h0 0 dX6_both_10 rfl rfl ?_
  refine xcallV_i (nn := 0) (w2 := fun u_ => (wM cI cC md T k tm dy P pk ptm pdy hpi tg tl R sg sl (upN u0.1 32 ((wkS T p k 8).length), upA u0.2.1 31 G_1, u0.2.2))) (wr := []) (rest := []) h0 (c_X6_right (xL κ) D cI cC md T k tm dy P pk ptm pdy hpi tg tl R sg sl (upN u0.1 32 ((wkS T p k 8).length), upA u0.2.1 31 G_1, u0.2.2) (wkS T p k 8) G_1 hT hG_2 (by exact wk_1 _ _ _ _) (by first | exact wk_8 hT hp | exact wk_8 hT hq) (by first | exact wk_n hT hp | exact wk_n hT hq)) gX6_both_X6_right (by decide +kernel) rfl rfl rfl ⟨Nat.le_of_ble_eq_true rfl, Nat.le_of_ble_eq_true rfl⟩ ⟨by decide, by decide⟩ (fun _ _ _ _ h => h) (fun _ _ _ _ _ _ _ => trivial) rfl (Nat.le_of_ble_eq_true rfl) (q0 := 0) rfl rfl rfl [0, 1, 2, 3, 4, 5, 6, 7, 8, 9, 10, 11, 12, 13, 14, 15, 16, 17, 18, 19, 20, 21] [] [0, 1, 2, 3, 4, 5, 6, 7, 8, 9, 10, 11, 12, 13, 14, 15, 16, 17, 18, 19, 20, 21] ⟨rfl, rfl, rfl, rfl, rfl⟩ (fun _ => ⟨rfl, rfl⟩) dX6_both_11 (fun r_5 u_ hr_4 => ?_)
  subst hr_4
  refine xistore_n (lv' := [(3, .int (nI (rgS T (wkS T p k 8)))), (0, .ref (md 1)), (1, .int (nI p)), (2, .int (nI q))]) h0 dX6_both_14 rfl (by decide) rfl ?_
  refine xaload_n h0 1 dX6_both_15 rfl rfl ?_
  refine xget (C := RX6) (T := TX6) (N := 52) (ci := 6) (v := .int (nI k)) h0 hiX6 0 rfl rfl 3 (by decide) (List.mem_of_getElem? (i := 1) rfl) rfl dX6_both_16 ?_
  refine xaload_n h0 1 dX6_both_19 rfl rfl ?_
  refine xcallV_i (nn := 0) (w2 := fun u_ => (wM cI cC md T k tm dy P pk ptm pdy hpi tg tl R sg sl (upN u0.1 32 ((wkS T p k 8).length), upA u0.2.1 31 G_1, u0.2.2))) (wr := []) (rest := [.int (nI k)]) h0 (c_X6_onWay (xL κ) D cI cC md T k tm dy P pk ptm pdy hpi tg tl R sg sl (upN u0.1 32 ((wkS T p k 8).length), upA u0.2.1 31 G_1, u0.2.2) (wkS T p k 8) G_1 hT hG_2 (by exact wk_1 _ _ _ _) (by first | exact wk_8 hT hp | exact wk_8 hT hq) (by first | exact wk_n hT hp | exact wk_n hT hq)) gX6_both_X6_onWay (by decide +kernel) rfl rfl rfl ⟨Nat.le_of_ble_eq_true rfl, Nat.le_of_ble_eq_true rfl⟩ ⟨by decide, by decide⟩ (fun _ _ _ _ h => h) (fun _ _ _ _ _ _ _ => trivial) rfl (Nat.le_of_ble_eq_true rfl) (q0 := 0) rfl rfl rfl [0, 1, 2, 3, 4, 5, 6, 7, 8, 9, 10, 11, 12, 13, 14, 15, 16, 17, 18, 19, 20, 21] [] [0, 1, 2, 3, 4, 5, 6, 7, 8, 9, 10, 11, 12, 13, 14, 15, 16, 17, 18, 19, 20, 21] ⟨rfl, rfl, rfl, rfl, rfl⟩ (fun _ => ⟨rfl, rfl⟩) dX6_both_20 (fun r_7 u_ hr_6 => ?_)
  subst hr_6
  refine xior (v := (nI (k ||| (mskL (wkS T p k 8))))) h0 dX6_both_23 (nx_or _ _) ?_
  refine xistore (lv' := [(4, .int (nI (k ||| (mskL (wkS T p k 8))))), (3, .int (nI (rgS T (wkS T p k 8)))), (0, .ref (md 1)), (1, .int (nI p)), (2, .int (nI q))]) h0 dX6_both_24 (by decide) rfl ?_
  refine xiload h0 0 dX6_both_26 rfl ?_
  refine xiload_n h0 4 dX6_both_28 rfl rfl ?_
  refine xcallS_i (nn := 2) (w2 := fun u_ => (wM cI cC md T k tm dy P pk ptm pdy hpi tg tl R sg sl (upN u0.1 32 ((wkS T p k 8).length), upA u0.2.1 31 G_1, u0.2.2))) (wr := [(md 1, .inr (6, [.ref (md 0), .int (nI (T 5 0)), .int (nI (T 5 1)), .int (nI k), .int (nI tm), .int (nI dy), .ref (md 6), .ref (md 7), .ref (md 8), .ref (md 9), .ref (md 10), .int (nI hpi), .int (nI (P 5 0)), .int (nI (P 5 1)), .int (nI pk), .int (nI ptm), .int (nI pdy), .ref (md 17), .ref (md 18), .ref (md 19), .ref (md 20), .ref (md 21), .ref (md 22), .int (nI sl), .int (nI (u0.1 24)), .int (nI (u0.1 25)), .ref (md 26), .ref (md 27), .ref (md 28), .int (nI (u0.1 29)), .ref (md 30), .ref (md 31), .int (nI ((wkS T p k 8).length)), .int (nI (u0.1 33)), .int (nI (u0.1 34)), .int (oI u0.2.2), .int (nI (u0.1 36)), .int (nI (u0.1 37)), .int (nI (u0.1 38)), .int (nI (u0.1 39)), .ref (md 40), .int (nI (u0.1 41)), .int (nI (u0.1 42)), .int (nI (u0.1 43)), .ref (md 44), .int (nI (u0.1 45)), .int (nI (u0.1 46)), .ref (md 47), .int (nI (u0.1 48)), .int (nI (u0.1 49)), .ref (md 50), .int (nI tl)])), (md 0, .inl (cI, 7, .inl (fun i_ => nI (R i_)))), (md 6, .inl (cI, 8, .inl (fun i_ => nI (T 0 i_)))), (md 7, .inl (cI, 8, .inl (fun i_ => nI (T 1 i_)))), (md 8, .inl (cI, 8, .inl (fun i_ => nI (T 2 i_)))), (md 9, .inl (cI, 8, .inl (fun i_ => nI (T 3 i_)))), (md 10, .inl (cI, 64, .inl (fun i_ => nI (T 4 i_)))), (md 17, .inl (cI, 8, .inl (fun i_ => nI (P 0 i_)))), (md 18, .inl (cI, 8, .inl (fun i_ => nI (P 1 i_)))), (md 19, .inl (cI, 8, .inl (fun i_ => nI (P 2 i_)))), (md 20, .inl (cI, 8, .inl (fun i_ => nI (P 3 i_)))), (md 21, .inl (cI, 64, .inl (fun i_ => nI (P 4 i_)))), (md 22, .inl (cI, 64, .inl (fun i_ => nI (sg i_)))), (md 26, .inl (cC, 4, .inl (fun i_ => nI (sortsN i_)))), (md 27, .inl (cC, 5, .inl (fun i_ => nI (askersN i_)))), (md 28, .inl (cC, 5, .inl (fun i_ => nI (sayersN i_)))), (md 30, .inl (cI, 4, .inl (fun i_ => nI ((u0.2.1 30) i_)))), (md 31, .inl (cI, 8, .inl (fun i_ => nI (G_1 i_)))), (md 40, .inl (cI, 8, .inl (fun i_ => nI ((u0.2.1 40) i_)))), (md 44, .inl (cI, 8, .inl (fun i_ => nI ((u0.2.1 44) i_)))), (md 47, .inl (cI, 8, .inl (fun i_ => nI ((u0.2.1 47) i_)))), (md 50, .inl (cI, 8, .inl (fun i_ => nI (tg i_))))]) (rest := []) h0 (c_X6_isIn (xL κ) D cI cC (k ||| (mskL (wkS T p k 8))) q (by omega) (by omega)) gX6_both_X6_isIn (by decide +kernel) rfl rfl rfl ⟨Nat.le_of_ble_eq_true rfl, Nat.le_of_ble_eq_true rfl⟩ ⟨by decide, by decide⟩ (fun _ _ _ _ h => h) (fun _ _ _ _ _ _ _ => trivial) rfl (Nat.le_of_ble_eq_true rfl) rfl [] [0, 1, 2, 3, 4, 5, 6, 7, 8, 9, 10, 11, 12, 13, 14, 15, 16, 17, 18, 19, 20, 21] [0, 1, 2, 3, 4, 5, 6, 7, 8, 9, 10, 11, 12, 13, 14, 15, 16, 17, 18, 19, 20, 21] ⟨rfl, rfl, rfl, rfl, rfl⟩ (fun _ => ⟨rfl, rfl⟩) dX6_both_29 (fun r_9 u_ hr_8 => ?_)
  subst hr_8
  refine xbif_ne (tgt := 50) h0 dX6_both_32 (by decide)  (fun c_10 => ?_) (fun c_10 => ?_)
  · skip
    refine xiload_n h0 1 dX6_both_50 rfl rfl ?_
    exact xiret h0 dX6_both_51 (upN u0.1 32 ((wkS T p k 8).length), upA u0.2.1 31 G_1, u0.2.2) (by first | (rw [boS, if_pos (by assumption), Nat.add_zero]; done) | (rw [boS, if_neg (by assumption)]; done)) rfl
  · skip
    refine xaload_n h0 2 dX6_both_35 rfl rfl ?_
    refine xiload_n h0 4 dX6_both_36 rfl rfl ?_
    refine xiload h0 0 dX6_both_37 rfl ?_
    refine xiconst (v := (-1)) h0 dX6_both_39 (by decide) ?_
    refine xcallV_v (nn := 3) (w2 := fun G_11 => (wM cI cC md T k tm dy P pk ptm pdy hpi tg tl R sg sl (upN u0.1 32 ((wkS T q (k ||| (mskL (wkS T p k 8))) 8).length), upA u0.2.1 31 G_11, u0.2.2))) (wr := []) (rest := []) h0 (c_X6_go (xL κ) D cI cC md T k tm dy P pk ptm pdy hpi tg tl R sg sl (upN u0.1 32 ((wkS T p k 8).length), upA u0.2.1 31 G_1, u0.2.2) q (k ||| (mskL (wkS T p k 8))) 8 (-1) hT (by exact hq) (by exact hB) mx_8) gX6_both_X6_go (by decide +kernel) rfl rfl rfl ⟨Nat.le_of_ble_eq_true rfl, Nat.le_of_ble_eq_true rfl⟩ ⟨by decide, by decide⟩ (fun _ _ _ _ h => h) (fun _ _ _ _ _ _ _ => trivial) rfl (Nat.le_of_ble_eq_true rfl) (q0 := 0) rfl rfl rfl [0, 1, 2, 3, 4, 5, 6, 7, 8, 9, 10, 11, 12, 13, 14, 15, 16, 17, 18, 19, 20, 21] [] [0, 1, 2, 3, 4, 5, 6, 7, 8, 9, 10, 11, 12, 13, 14, 15, 16, 17, 18, 19, 20, 21] ⟨rfl, rfl, rfl, rfl, rfl⟩ (fun _ => ⟨rfl, rfl⟩) dX6_both_40 (fun G_11 hG_12 => ?_)
    refine xiload_n h0 1 dX6_both_43 rfl rfl ?_
    refine xaload_n h0 2 dX6_both_44 rfl rfl ?_
    refine xcallV_i (nn := 0) (w2 := fun u_ => (wM cI cC md T k tm dy P pk ptm pdy hpi tg tl R sg sl (upN u0.1 32 ((wkS T q (k ||| (mskL (wkS T p k 8))) 8).length), upA u0.2.1 31 G_11, u0.2.2))) (wr := []) (rest := [.int (nI (rgS T (wkS T p k 8)))]) h0 (c_X6_right (xL κ) D cI cC md T k tm dy P pk ptm pdy hpi tg tl R sg sl (upN u0.1 32 ((wkS T q (k ||| (mskL (wkS T p k 8))) 8).length), upA u0.2.1 31 G_11, u0.2.2) (wkS T q (k ||| (mskL (wkS T p k 8))) 8) G_11 hT hG_12 (by exact wk_1 _ _ _ _) (by first | exact wk_8 hT hp | exact wk_8 hT hq) (by first | exact wk_n hT hp | exact wk_n hT hq)) gX6_both_X6_right (by decide +kernel) rfl rfl rfl ⟨Nat.le_of_ble_eq_true rfl, Nat.le_of_ble_eq_true rfl⟩ ⟨by decide, by decide⟩ (fun _ _ _ _ h => h) (fun _ _ _ _ _ _ _ => trivial) rfl (Nat.le_of_ble_eq_true rfl) (q0 := 0) rfl rfl rfl [0, 1, 2, 3, 4, 5, 6, 7, 8, 9, 10, 11, 12, 13, 14, 15, 16, 17, 18, 19, 20, 21] [] [0, 1, 2, 3, 4, 5, 6, 7, 8, 9, 10, 11, 12, 13, 14, 15, 16, 17, 18, 19, 20, 21] ⟨rfl, rfl, rfl, rfl, rfl⟩ (fun _ => ⟨rfl, rfl⟩) dX6_both_45 (fun r_15 u_ hr_14 => ?_)
    subst hr_14
    refine xiadd (v := (nI ((rgS T (wkS T p k 8)) + (rgS T (wkS T q (k ||| (mskL (wkS T p k 8))) 8))))) h0 dX6_both_48 (nI_add _ _) ?_
    refine xistore_n (lv' := [(3, .int (nI ((rgS T (wkS T p k 8)) + (rgS T (wkS T q (k ||| (mskL (wkS T p k 8))) 8))))), (4, .int (nI (k ||| (mskL (wkS T p k 8))))), (0, .ref (md 1)), (1, .int (nI p)), (2, .int (nI q))]) h0 dX6_both_49 rfl (by decide) rfl ?_
    refine xiload_n h0 0 dX6_both_50 rfl rfl ?_
    exact xiret h0 dX6_both_51 (upN u0.1 32 ((wkS T q (k ||| (mskL (wkS T p k 8))) 8).length), upA u0.2.1 31 G_11, u0.2.2) (by first | (rw [boS, if_pos (by assumption), Nat.add_zero]; done) | (rw [boS, if_neg (by assumption)]; done)) rfl
set_option maxHeartbeats 4000000 in
set_option maxRecDepth 100000 in
theorem c_X6_two (l : Launch) (D : va_G) (cI cC : ClassId) (md : Nat → Nat) (T : TT) (k tm dy : Nat) (P : TT) (pk ptm pdy hpi : Nat) (tg : Nat → Nat) (tl : Nat) (R : Nat → Nat) (sg : Nat → Nat) (sl : Nat) (u0 : ScmT) (x y v : Int32) (hT : TOK T) (hk : k < 256) (hP : TOK P) (hpk : pk < 256) (htl : tl ≤ 8) (hsl : sl ≤ 64) (hhp : hpi < 2) (htg : ∀ i, tg i ≤ 9) : XMi l yX6_two wsX6_two ({ frames := 6, cells := 0, slots := 0, locals := 154 } : Room) D (xT cI cC) xE0 (wM cI cC md T k tm dy P pk ptm pdy hpi tg tl R sg sl u0) [.ref (md 1), .int x, .int y, .int v] (S := ScmT) (fun r _ => r = sel (twC (T 5 0) k x y v) (twS T k (xn x) (xn y) v) (-(nI (twC (T 5 0) k x y v)))) (fun u => wM cI cC md T k tm dy P pk ptm pdy hpi tg tl (bmp R (twC (T 5 0) k x y v)) sg sl u) 0 0 := by
  refine xMet_i (cc := cX6_two) (nL := 6) (ret := some .int) (by decide +kernel) rfl (Nat.le_of_ble_eq_true rfl) (fun κ A h0 hn0 hE => ?_)
  have hiX6 : ∀ w ∈ u_ws RX6 TX6 52, w ∈ wsX6_two := by decide +kernel
  refine xlv (lv' := [(0, .ref (md 1)), (1, .int x), (2, .int y), (3, .int v)]) [0, 1, 2, 3] rfl ?_
  have hn := hT.1
  refine xaload_n h0 0 dX6_two_0 rfl rfl ?_
  refine xiload_n h0 1 dX6_two_1 rfl rfl ?_
  refine xcallV_i (nn := 1) (w2 := fun u_ => (wM cI cC md T k tm dy P pk ptm pdy hpi tg tl R sg sl u0)) (wr := []) (rest := []) h0 (c_X6_isNobody (xL κ) D cI cC md T k tm dy P pk ptm pdy hpi tg tl R sg sl u0 x (by omega)) gX6_two_X6_isNobody (by decide +kernel) rfl rfl rfl ⟨Nat.le_of_ble_eq_true rfl, Nat.le_of_ble_eq_true rfl⟩ ⟨by decide, by decide⟩ (fun _ _ _ _ h => h) (fun _ _ _ _ _ _ _ => trivial) rfl (Nat.le_of_ble_eq_true rfl) (q0 := 0) rfl rfl rfl [0, 1, 2, 3, 4, 5, 6, 7, 8, 9, 10, 11, 12, 13, 14, 15, 16, 17, 18, 19, 20, 21] [] [0, 1, 2, 3, 4, 5, 6, 7, 8, 9, 10, 11, 12, 13, 14, 15, 16, 17, 18, 19, 20, 21] ⟨rfl, rfl, rfl, rfl, rfl⟩ (fun _ => ⟨rfl, rfl⟩) dX6_two_2 (fun r_2 u_ hr_1 => ?_)
  subst hr_1
  refine xbif_ne (tgt := 21) h0 dX6_two_5 (by decide)  (fun c_3 => ?_) (fun c_3 => ?_)
  · skip
    have hC : twC (T 5 0) k x y v = 1 := if_pos (Or.inl c_3)
    refine xaload_n h0 0 dX6_two_21 rfl rfl ?_
    refine xiconst (v := (-1)) h0 dX6_two_22 (by decide) ?_
    refine xcallV_i (nn := 1) (w2 := fun u_ => (wM cI cC md T k tm dy P pk ptm pdy hpi tg tl (upN R 1 (R 1 + 1)) sg sl u0)) (wr := []) (rest := []) h0 (c_X6_no (xL κ) D cI cC md T k tm dy P pk ptm pdy hpi tg tl R sg sl u0 1 (by omega)) gX6_two_X6_no (by decide +kernel) rfl rfl rfl ⟨Nat.le_of_ble_eq_true rfl, Nat.le_of_ble_eq_true rfl⟩ ⟨by decide, by decide⟩ (fun _ _ _ _ h => h) (fun _ _ _ _ _ _ _ => trivial) rfl (Nat.le_of_ble_eq_true rfl) (q0 := 0) rfl rfl rfl [0, 1, 2, 3, 4, 5, 6, 7, 8, 9, 10, 11, 12, 13, 14, 15, 16, 17, 18, 19, 20, 21] [] [0, 1, 2, 3, 4, 5, 6, 7, 8, 9, 10, 11, 12, 13, 14, 15, 16, 17, 18, 19, 20, 21] ⟨rfl, rfl, rfl, rfl, rfl⟩ (fun _ => ⟨rfl, rfl⟩) dX6_two_23 (fun r_5 u_ hr_4 => ?_)
    subst hr_4
    exact xiret h0 dX6_two_26 u0 (by rw [hC, sel_n (by decide)]) (by rw [hC]; first | done | rfl)
  · skip
    obtain ⟨p, hp, hxp⟩ := okN_of hn (Decidable.of_not_not c_3)
    subst hxp
    have hp8 : p < 8 := by omega
    have hok : okN (T 5 0) (nI p) := (okN_n hn (by omega)).mpr hp
    refine xaload_n h0 0 dX6_two_8 rfl rfl ?_
    refine xiload_n h0 2 dX6_two_9 rfl rfl ?_
    refine xcallV_i (nn := 1) (w2 := fun u_ => (wM cI cC md T k tm dy P pk ptm pdy hpi tg tl R sg sl u0)) (wr := []) (rest := []) h0 (c_X6_isNobody (xL κ) D cI cC md T k tm dy P pk ptm pdy hpi tg tl R sg sl u0 y (by omega)) gX6_two_X6_isNobody (by decide +kernel) rfl rfl rfl ⟨Nat.le_of_ble_eq_true rfl, Nat.le_of_ble_eq_true rfl⟩ ⟨by decide, by decide⟩ (fun _ _ _ _ h => h) (fun _ _ _ _ _ _ _ => trivial) rfl (Nat.le_of_ble_eq_true rfl) (q0 := 0) rfl rfl rfl [0, 1, 2, 3, 4, 5, 6, 7, 8, 9, 10, 11, 12, 13, 14, 15, 16, 17, 18, 19, 20, 21] [] [0, 1, 2, 3, 4, 5, 6, 7, 8, 9, 10, 11, 12, 13, 14, 15, 16, 17, 18, 19, 20, 21] ⟨rfl, rfl, rfl, rfl, rfl⟩ (fun _ => ⟨rfl, rfl⟩) dX6_two_10 (fun r_7 u_ hr_6 => ?_)
    subst hr_6
    refine xbif_ne (tgt := 21) h0 dX6_two_13 (by decide)  (fun c_8 => ?_) (fun c_8 => ?_)
    · skip
      have hC : twC (T 5 0) k (nI p) y v = 1 := if_pos (Or.inr (Or.inl c_8))
      refine xaload_n h0 0 dX6_two_21 rfl rfl ?_
      refine xiconst (v := (-1)) h0 dX6_two_22 (by decide) ?_
      refine xcallV_i (nn := 1) (w2 := fun u_ => (wM cI cC md T k tm dy P pk ptm pdy hpi tg tl (upN R 1 (R 1 + 1)) sg sl u0)) (wr := []) (rest := []) h0 (c_X6_no (xL κ) D cI cC md T k tm dy P pk ptm pdy hpi tg tl R sg sl u0 1 (by omega)) gX6_two_X6_no (by decide +kernel) rfl rfl rfl ⟨Nat.le_of_ble_eq_true rfl, Nat.le_of_ble_eq_true rfl⟩ ⟨by decide, by decide⟩ (fun _ _ _ _ h => h) (fun _ _ _ _ _ _ _ => trivial) rfl (Nat.le_of_ble_eq_true rfl) (q0 := 0) rfl rfl rfl [0, 1, 2, 3, 4, 5, 6, 7, 8, 9, 10, 11, 12, 13, 14, 15, 16, 17, 18, 19, 20, 21] [] [0, 1, 2, 3, 4, 5, 6, 7, 8, 9, 10, 11, 12, 13, 14, 15, 16, 17, 18, 19, 20, 21] ⟨rfl, rfl, rfl, rfl, rfl⟩ (fun _ => ⟨rfl, rfl⟩) dX6_two_23 (fun r_10 u_ hr_9 => ?_)
      subst hr_9
      exact xiret h0 dX6_two_26 u0 (by rw [hC, sel_n (by decide)]) (by rw [hC]; first | done | rfl)
    · skip
      obtain ⟨q, hq, hxq⟩ := okN_of hn (Decidable.of_not_not c_8)
      subst hxq
      have hq8 : q < 8 := by omega
      have hokq : okN (T 5 0) (nI q) := (okN_n hn (by omega)).mpr hq
      refine xiload_n h0 1 dX6_two_16 rfl rfl ?_
      refine xiload_n h0 2 dX6_two_17 rfl rfl ?_
      refine xncmp_ne (tgt := 27) h0 dX6_two_18 (by decide) (by omega) (by omega) (fun c_11 => ?_) (fun c_11 => ?_)
      · skip
        have hno := ed_no hok hokq (fun z => absurd ((nI_eq (by omega) (by omega)).mp z) (by omega : ¬ p = q))
        refine xiload_n h0 3 dX6_two_27 rfl rfl ?_
        refine xif_lt (tgt := 36) h0 dX6_two_28 (by decide)  (fun c_12 => ?_) (fun c_12 => ?_)
        · skip
          have hC : twC (T 5 0) k (nI p) (nI q) v = 2 := by unfold twC; rw [if_neg hno, if_pos (wh1_0 (Or.inl c_12))]
          refine xaload_n h0 0 dX6_two_36 rfl rfl ?_
          refine xbipush (v := (-2)) h0 dX6_two_37 (by decide) ?_
          refine xcallV_i (nn := 1) (w2 := fun u_ => (wM cI cC md T k tm dy P pk ptm pdy hpi tg tl (upN R 2 (R 2 + 1)) sg sl u0)) (wr := []) (rest := []) h0 (c_X6_no (xL κ) D cI cC md T k tm dy P pk ptm pdy hpi tg tl R sg sl u0 2 (by omega)) gX6_two_X6_no (by decide +kernel) rfl rfl rfl ⟨Nat.le_of_ble_eq_true rfl, Nat.le_of_ble_eq_true rfl⟩ ⟨by decide, by decide⟩ (fun _ _ _ _ h => h) (fun _ _ _ _ _ _ _ => trivial) rfl (Nat.le_of_ble_eq_true rfl) (q0 := 0) rfl rfl rfl [0, 1, 2, 3, 4, 5, 6, 7, 8, 9, 10, 11, 12, 13, 14, 15, 16, 17, 18, 19, 20, 21] [] [0, 1, 2, 3, 4, 5, 6, 7, 8, 9, 10, 11, 12, 13, 14, 15, 16, 17, 18, 19, 20, 21] ⟨rfl, rfl, rfl, rfl, rfl⟩ (fun _ => ⟨rfl, rfl⟩) dX6_two_39 (fun r_14 u_ hr_13 => ?_)
          subst hr_13
          exact xiret h0 dX6_two_42 u0 (by rw [hC, sel_n (by decide)]) (by rw [hC]; first | done | rfl)
        · skip
          refine xiload_n h0 3 dX6_two_31 rfl rfl ?_
          refine xiconst (v := (nI 1)) h0 dX6_two_32 (by decide) ?_
          refine xicmp_le (tgt := 43) h0 dX6_two_33 (by decide)  (fun c_15 => ?_) (fun c_15 => ?_)
          · skip
            have hgd := wh1_1 (by assumption) c_15
            have hv01 := i32_01 (by assumption) c_15
            refine xaload_n h0 0 dX6_two_43 rfl rfl ?_
            refine xget (C := RX6) (T := TX6) (N := 52) (ci := 6) (v := .int (nI k)) h0 hiX6 0 rfl rfl 3 (by decide) (List.mem_of_getElem? (i := 1) rfl) rfl dX6_two_44 ?_
            refine xiload_n h0 1 dX6_two_47 rfl rfl ?_
            refine xcallS_i (nn := 2) (w2 := fun u_ => (wM cI cC md T k tm dy P pk ptm pdy hpi tg tl R sg sl u0)) (wr := [(md 1, .inr (6, [.ref (md 0), .int (nI (T 5 0)), .int (nI (T 5 1)), .int (nI k), .int (nI tm), .int (nI dy), .ref (md 6), .ref (md 7), .ref (md 8), .ref (md 9), .ref (md 10), .int (nI hpi), .int (nI (P 5 0)), .int (nI (P 5 1)), .int (nI pk), .int (nI ptm), .int (nI pdy), .ref (md 17), .ref (md 18), .ref (md 19), .ref (md 20), .ref (md 21), .ref (md 22), .int (nI sl), .int (nI (u0.1 24)), .int (nI (u0.1 25)), .ref (md 26), .ref (md 27), .ref (md 28), .int (nI (u0.1 29)), .ref (md 30), .ref (md 31), .int (nI (u0.1 32)), .int (nI (u0.1 33)), .int (nI (u0.1 34)), .int (oI u0.2.2), .int (nI (u0.1 36)), .int (nI (u0.1 37)), .int (nI (u0.1 38)), .int (nI (u0.1 39)), .ref (md 40), .int (nI (u0.1 41)), .int (nI (u0.1 42)), .int (nI (u0.1 43)), .ref (md 44), .int (nI (u0.1 45)), .int (nI (u0.1 46)), .ref (md 47), .int (nI (u0.1 48)), .int (nI (u0.1 49)), .ref (md 50), .int (nI tl)])), (md 0, .inl (cI, 7, .inl (fun i_ => nI (R i_)))), (md 6, .inl (cI, 8, .inl (fun i_ => nI (T 0 i_)))), (md 7, .inl (cI, 8, .inl (fun i_ => nI (T 1 i_)))), (md 8, .inl (cI, 8, .inl (fun i_ => nI (T 2 i_)))), (md 9, .inl (cI, 8, .inl (fun i_ => nI (T 3 i_)))), (md 10, .inl (cI, 64, .inl (fun i_ => nI (T 4 i_)))), (md 17, .inl (cI, 8, .inl (fun i_ => nI (P 0 i_)))), (md 18, .inl (cI, 8, .inl (fun i_ => nI (P 1 i_)))), (md 19, .inl (cI, 8, .inl (fun i_ => nI (P 2 i_)))), (md 20, .inl (cI, 8, .inl (fun i_ => nI (P 3 i_)))), (md 21, .inl (cI, 64, .inl (fun i_ => nI (P 4 i_)))), (md 22, .inl (cI, 64, .inl (fun i_ => nI (sg i_)))), (md 26, .inl (cC, 4, .inl (fun i_ => nI (sortsN i_)))), (md 27, .inl (cC, 5, .inl (fun i_ => nI (askersN i_)))), (md 28, .inl (cC, 5, .inl (fun i_ => nI (sayersN i_)))), (md 30, .inl (cI, 4, .inl (fun i_ => nI ((u0.2.1 30) i_)))), (md 31, .inl (cI, 8, .inl (fun i_ => nI ((u0.2.1 31) i_)))), (md 40, .inl (cI, 8, .inl (fun i_ => nI ((u0.2.1 40) i_)))), (md 44, .inl (cI, 8, .inl (fun i_ => nI ((u0.2.1 44) i_)))), (md 47, .inl (cI, 8, .inl (fun i_ => nI ((u0.2.1 47) i_)))), (md 50, .inl (cI, 8, .inl (fun i_ => nI (tg i_))))]) (rest := []) h0 (c_X6_isIn (xL κ) D cI cC k p (by omega) (by omega)) gX6_two_X6_isIn (by decide +kernel) rfl rfl rfl ⟨Nat.le_of_ble_eq_true rfl, Nat.le_of_ble_eq_true rfl⟩ ⟨by decide, by decide⟩ (fun _ _ _ _ h => h) (fun _ _ _ _ _ _ _ => trivial) rfl (Nat.le_of_ble_eq_true rfl) rfl [] [0, 1, 2, 3, 4, 5, 6, 7, 8, 9, 10, 11, 12, 13, 14, 15, 16, 17, 18, 19, 20, 21] [0, 1, 2, 3, 4, 5, 6, 7, 8, 9, 10, 11, 12, 13, 14, 15, 16, 17, 18, 19, 20, 21] ⟨rfl, rfl, rfl, rfl, rfl⟩ (fun _ => ⟨rfl, rfl⟩) dX6_two_48 (fun r_17 u_ hr_16 => ?_)
            subst hr_16
            refine xbif_ne (tgt := 65) h0 dX6_two_51 (by decide)  (fun c_18 => ?_) (fun c_18 => ?_)
            · skip
              have hC : twC (T 5 0) k (nI p) (nI q) v = 3 := by unfold twC; rw [if_neg hno, if_neg (by omega), if_pos (Or.inl (by rw [xn_n (by omega)]; exact c_18))]
              refine xaload_n h0 0 dX6_two_65 rfl rfl ?_
              refine xbipush (v := (-3)) h0 dX6_two_66 (by decide) ?_
              refine xcallV_i (nn := 1) (w2 := fun u_ => (wM cI cC md T k tm dy P pk ptm pdy hpi tg tl (upN R 3 (R 3 + 1)) sg sl u0)) (wr := []) (rest := []) h0 (c_X6_no (xL κ) D cI cC md T k tm dy P pk ptm pdy hpi tg tl R sg sl u0 3 (by omega)) gX6_two_X6_no (by decide +kernel) rfl rfl rfl ⟨Nat.le_of_ble_eq_true rfl, Nat.le_of_ble_eq_true rfl⟩ ⟨by decide, by decide⟩ (fun _ _ _ _ h => h) (fun _ _ _ _ _ _ _ => trivial) rfl (Nat.le_of_ble_eq_true rfl) (q0 := 0) rfl rfl rfl [0, 1, 2, 3, 4, 5, 6, 7, 8, 9, 10, 11, 12, 13, 14, 15, 16, 17, 18, 19, 20, 21] [] [0, 1, 2, 3, 4, 5, 6, 7, 8, 9, 10, 11, 12, 13, 14, 15, 16, 17, 18, 19, 20, 21] ⟨rfl, rfl, rfl, rfl, rfl⟩ (fun _ => ⟨rfl, rfl⟩) dX6_two_68 (fun r_20 u_ hr_19 => ?_)
              subst hr_19
              exact xiret h0 dX6_two_71 u0 (by rw [hC, sel_n (by decide)]) (by rw [hC]; first | done | rfl)
            · skip
              have hk1 := c_18
              refine xaload_n h0 0 dX6_two_54 rfl rfl ?_
              refine xget (C := RX6) (T := TX6) (N := 52) (ci := 6) (v := .int (nI k)) h0 hiX6 0 rfl rfl 3 (by decide) (List.mem_of_getElem? (i := 1) rfl) rfl dX6_two_55 ?_
              refine xiload_n h0 2 dX6_two_58 rfl rfl ?_
              refine xcallS_i (nn := 2) (w2 := fun u_ => (wM cI cC md T k tm dy P pk ptm pdy hpi tg tl R sg sl u0)) (wr := [(md 1, .inr (6, [.ref (md 0), .int (nI (T 5 0)), .int (nI (T 5 1)), .int (nI k), .int (nI tm), .int (nI dy), .ref (md 6), .ref (md 7), .ref (md 8), .ref (md 9), .ref (md 10), .int (nI hpi), .int (nI (P 5 0)), .int (nI (P 5 1)), .int (nI pk), .int (nI ptm), .int (nI pdy), .ref (md 17), .ref (md 18), .ref (md 19), .ref (md 20), .ref (md 21), .ref (md 22), .int (nI sl), .int (nI (u0.1 24)), .int (nI (u0.1 25)), .ref (md 26), .ref (md 27), .ref (md 28), .int (nI (u0.1 29)), .ref (md 30), .ref (md 31), .int (nI (u0.1 32)), .int (nI (u0.1 33)), .int (nI (u0.1 34)), .int (oI u0.2.2), .int (nI (u0.1 36)), .int (nI (u0.1 37)), .int (nI (u0.1 38)), .int (nI (u0.1 39)), .ref (md 40), .int (nI (u0.1 41)), .int (nI (u0.1 42)), .int (nI (u0.1 43)), .ref (md 44), .int (nI (u0.1 45)), .int (nI (u0.1 46)), .ref (md 47), .int (nI (u0.1 48)), .int (nI (u0.1 49)), .ref (md 50), .int (nI tl)])), (md 0, .inl (cI, 7, .inl (fun i_ => nI (R i_)))), (md 6, .inl (cI, 8, .inl (fun i_ => nI (T 0 i_)))), (md 7, .inl (cI, 8, .inl (fun i_ => nI (T 1 i_)))), (md 8, .inl (cI, 8, .inl (fun i_ => nI (T 2 i_)))), (md 9, .inl (cI, 8, .inl (fun i_ => nI (T 3 i_)))), (md 10, .inl (cI, 64, .inl (fun i_ => nI (T 4 i_)))), (md 17, .inl (cI, 8, .inl (fun i_ => nI (P 0 i_)))), (md 18, .inl (cI, 8, .inl (fun i_ => nI (P 1 i_)))), (md 19, .inl (cI, 8, .inl (fun i_ => nI (P 2 i_)))), (md 20, .inl (cI, 8, .inl (fun i_ => nI (P 3 i_)))), (md 21, .inl (cI, 64, .inl (fun i_ => nI (P 4 i_)))), (md 22, .inl (cI, 64, .inl (fun i_ => nI (sg i_)))), (md 26, .inl (cC, 4, .inl (fun i_ => nI (sortsN i_)))), (md 27, .inl (cC, 5, .inl (fun i_ => nI (askersN i_)))), (md 28, .inl (cC, 5, .inl (fun i_ => nI (sayersN i_)))), (md 30, .inl (cI, 4, .inl (fun i_ => nI ((u0.2.1 30) i_)))), (md 31, .inl (cI, 8, .inl (fun i_ => nI ((u0.2.1 31) i_)))), (md 40, .inl (cI, 8, .inl (fun i_ => nI ((u0.2.1 40) i_)))), (md 44, .inl (cI, 8, .inl (fun i_ => nI ((u0.2.1 44) i_)))), (md 47, .inl (cI, 8, .inl (fun i_ => nI ((u0.2.1 47) i_)))), (md 50, .inl (cI, 8, .inl (fun i_ => nI (tg i_))))]) (rest := []) h0 (c_X6_isIn (xL κ) D cI cC k q (by omega) (by omega)) gX6_two_X6_isIn (by decide +kernel) rfl rfl rfl ⟨Nat.le_of_ble_eq_true rfl, Nat.le_of_ble_eq_true rfl⟩ ⟨by decide, by decide⟩ (fun _ _ _ _ h => h) (fun _ _ _ _ _ _ _ => trivial) rfl (Nat.le_of_ble_eq_true rfl) rfl [] [0, 1, 2, 3, 4, 5, 6, 7, 8, 9, 10, 11, 12, 13, 14, 15, 16, 17, 18, 19, 20, 21] [0, 1, 2, 3, 4, 5, 6, 7, 8, 9, 10, 11, 12, 13, 14, 15, 16, 17, 18, 19, 20, 21] ⟨rfl, rfl, rfl, rfl, rfl⟩ (fun _ => ⟨rfl, rfl⟩) dX6_two_59 (fun r_22 u_ hr_21 => ?_)
              subst hr_21
              refine xbif_eq (tgt := 72) h0 dX6_two_62 (by decide)  (fun c_23 => ?_) (fun c_23 => ?_)
              · skip
                have hC : twC (T 5 0) k (nI p) (nI q) v = 0 := by unfold twC; rw [if_neg hno, if_neg (by omega), xn_n (by omega), xn_n (by omega), if_neg (fun z => z.elim (fun y => hk1 y) (fun y => c_23 y))]
                have hb1 := boS_le hT k p q; have hb2 := boS_le hT k q p
                refine xaload_n h0 0 dX6_two_72 rfl rfl ?_
                refine xiload_n h0 1 dX6_two_73 rfl rfl ?_
                refine xiload_n h0 2 dX6_two_74 rfl rfl ?_
                refine xcallV_i (nn := 2) (w2 := fun u_24 => (wM cI cC md T k tm dy P pk ptm pdy hpi tg tl R sg sl u_24)) (wr := []) (rest := []) h0 (c_X6_both (xL κ) D cI cC md T k tm dy P pk ptm pdy hpi tg tl R sg sl u0 p q hT hk (by omega) (by omega)) gX6_two_X6_both (by decide +kernel) rfl rfl rfl ⟨Nat.le_of_ble_eq_true rfl, Nat.le_of_ble_eq_true rfl⟩ ⟨by decide, by decide⟩ (fun _ _ _ _ h => h) (fun _ _ _ _ _ _ _ => trivial) rfl (Nat.le_of_ble_eq_true rfl) (q0 := 0) rfl rfl rfl [0, 1, 2, 3, 4, 5, 6, 7, 8, 9, 10, 11, 12, 13, 14, 15, 16, 17, 18, 19, 20, 21] [] [0, 1, 2, 3, 4, 5, 6, 7, 8, 9, 10, 11, 12, 13, 14, 15, 16, 17, 18, 19, 20, 21] ⟨rfl, rfl, rfl, rfl, rfl⟩ (fun _ => ⟨rfl, rfl⟩) dX6_two_75 (fun r_26 u_24 hr_25 => ?_)
                subst hr_25
                refine xistore (lv' := [(4, .int (nI (boS T k p q))), (0, .ref (md 1)), (1, .int (nI p)), (2, .int (nI q)), (3, .int v)]) h0 dX6_two_78 (by decide) rfl ?_
                refine xaload_n h0 1 dX6_two_80 rfl rfl ?_
                refine xiload_n h0 3 dX6_two_81 rfl rfl ?_
                refine xiload_n h0 2 dX6_two_82 rfl rfl ?_
                refine xcallV_i (nn := 2) (w2 := fun u_27 => (wM cI cC md T k tm dy P pk ptm pdy hpi tg tl R sg sl u_27)) (wr := []) (rest := []) h0 (c_X6_both (xL κ) D cI cC md T k tm dy P pk ptm pdy hpi tg tl R sg sl u_24 q p hT hk (by omega) (by omega)) gX6_two_X6_both (by decide +kernel) rfl rfl rfl ⟨Nat.le_of_ble_eq_true rfl, Nat.le_of_ble_eq_true rfl⟩ ⟨by decide, by decide⟩ (fun _ _ _ _ h => h) (fun _ _ _ _ _ _ _ => trivial) rfl (Nat.le_of_ble_eq_true rfl) (q0 := 0) rfl rfl rfl [0, 1, 2, 3, 4, 5, 6, 7, 8, 9, 10, 11, 12, 13, 14, 15, 16, 17, 18, 19, 20, 21] [] [0, 1, 2, 3, 4, 5, 6, 7, 8, 9, 10, 11, 12, 13, 14, 15, 16, 17, 18, 19, 20, 21] ⟨rfl, rfl, rfl, rfl, rfl⟩ (fun _ => ⟨rfl, rfl⟩) dX6_two_83 (fun r_29 u_27 hr_28 => ?_)
                subst hr_28
                refine xistore (lv' := [(5, .int (nI (boS T k q p))), (4, .int (nI (boS T k p q))), (0, .ref (md 1)), (1, .int (nI p)), (2, .int (nI q)), (3, .int v)]) h0 dX6_two_86 (by decide) rfl ?_
                refine xiload_n h0 5 dX6_two_88 rfl rfl ?_
                refine xif_ne (tgt := 102) h0 dX6_two_89 (by decide)  (fun c_30 => ?_) (fun c_30 => ?_)
                · skip
                  refine xiload h0 0 dX6_two_102 rfl ?_
                  refine xiload h0 1 dX6_two_104 rfl ?_
                  refine xncmp_le (tgt := 113) h0 dX6_two_106 (by decide) (by omega) (by omega) (fun c_31 => ?_) (fun c_31 => ?_)
                  · skip
                    refine xiconst (v := (nI 0)) h0 dX6_two_113 (by decide) ?_
                    exact xiret h0 dX6_two_114 u_27 (by rw [hC, sel_0, xn_n (by omega)]; first | done | (rw [xn_n (by omega)]; unfold twS; first | (rw [if_pos (by assumption)]; done) | (rw [if_neg (by assumption)]; first | exact (bI_t (by assumption)).symm | exact (bI_f (by omega)).symm))) (by rw [hC]; first | done | rfl)
                  · skip
                    refine xiconst (v := (nI 1)) h0 dX6_two_109 (by decide) ?_
                    refine xgoto (tgt := 114) h0 dX6_two_110 (by decide) ?_
                    exact xiret h0 dX6_two_114 u_27 (by rw [hC, sel_0, xn_n (by omega)]; first | done | (rw [xn_n (by omega)]; unfold twS; first | (rw [if_pos (by assumption)]; done) | (rw [if_neg (by assumption)]; first | exact (bI_t (by assumption)).symm | exact (bI_f (by omega)).symm))) (by rw [hC]; first | done | rfl)
                · skip
                  refine xiload h0 1 dX6_two_92 rfl ?_
                  refine xiload h0 0 dX6_two_94 rfl ?_
                  refine xmax (v := (nI (Nat.max (boS T k p q) (boS T k q p)))) h0 (List.mem_of_getElem? (i := 2) rfl) (List.mem_of_getElem? (i := 3) rfl) (List.mem_of_getElem? (i := 4) rfl) (List.mem_of_getElem? (i := 5) rfl) ⟨by decide, by decide, by decide, by decide⟩ dX6_two_96 (nI_max (by omega) (by omega)) ?_
                  refine xgoto (tgt := 114) h0 dX6_two_99 (by decide) ?_
                  exact xiret h0 dX6_two_114 u_27 (by rw [hC, sel_0, xn_n (by omega)]; first | done | (rw [xn_n (by omega)]; unfold twS; first | (rw [if_pos (by assumption)]; done) | (rw [if_neg (by assumption)]; first | exact (bI_t (by assumption)).symm | exact (bI_f (by omega)).symm))) (by rw [hC]; first | done | rfl)
              · skip
                have hC : twC (T 5 0) k (nI p) (nI q) v = 3 := by unfold twC; rw [if_neg hno, if_neg (by omega), if_pos (Or.inr (by rw [xn_n (by omega)]; exact c_23))]
                refine xaload_n h0 0 dX6_two_65 rfl rfl ?_
                refine xbipush (v := (-3)) h0 dX6_two_66 (by decide) ?_
                refine xcallV_i (nn := 1) (w2 := fun u_ => (wM cI cC md T k tm dy P pk ptm pdy hpi tg tl (upN R 3 (R 3 + 1)) sg sl u0)) (wr := []) (rest := []) h0 (c_X6_no (xL κ) D cI cC md T k tm dy P pk ptm pdy hpi tg tl R sg sl u0 3 (by omega)) gX6_two_X6_no (by decide +kernel) rfl rfl rfl ⟨Nat.le_of_ble_eq_true rfl, Nat.le_of_ble_eq_true rfl⟩ ⟨by decide, by decide⟩ (fun _ _ _ _ h => h) (fun _ _ _ _ _ _ _ => trivial) rfl (Nat.le_of_ble_eq_true rfl) (q0 := 0) rfl rfl rfl [0, 1, 2, 3, 4, 5, 6, 7, 8, 9, 10, 11, 12, 13, 14, 15, 16, 17, 18, 19, 20, 21] [] [0, 1, 2, 3, 4, 5, 6, 7, 8, 9, 10, 11, 12, 13, 14, 15, 16, 17, 18, 19, 20, 21] ⟨rfl, rfl, rfl, rfl, rfl⟩ (fun _ => ⟨rfl, rfl⟩) dX6_two_68 (fun r_33 u_ hr_32 => ?_)
                subst hr_32
                exact xiret h0 dX6_two_71 u0 (by rw [hC, sel_n (by decide)]) (by rw [hC]; first | done | rfl)
          · skip
            have hC : twC (T 5 0) k (nI p) (nI q) v = 2 := by unfold twC; rw [if_neg hno, if_pos (wh1_0 (Or.inr (Int32.not_le.mp c_15)))]
            refine xaload_n h0 0 dX6_two_36 rfl rfl ?_
            refine xbipush (v := (-2)) h0 dX6_two_37 (by decide) ?_
            refine xcallV_i (nn := 1) (w2 := fun u_ => (wM cI cC md T k tm dy P pk ptm pdy hpi tg tl (upN R 2 (R 2 + 1)) sg sl u0)) (wr := []) (rest := []) h0 (c_X6_no (xL κ) D cI cC md T k tm dy P pk ptm pdy hpi tg tl R sg sl u0 2 (by omega)) gX6_two_X6_no (by decide +kernel) rfl rfl rfl ⟨Nat.le_of_ble_eq_true rfl, Nat.le_of_ble_eq_true rfl⟩ ⟨by decide, by decide⟩ (fun _ _ _ _ h => h) (fun _ _ _ _ _ _ _ => trivial) rfl (Nat.le_of_ble_eq_true rfl) (q0 := 0) rfl rfl rfl [0, 1, 2, 3, 4, 5, 6, 7, 8, 9, 10, 11, 12, 13, 14, 15, 16, 17, 18, 19, 20, 21] [] [0, 1, 2, 3, 4, 5, 6, 7, 8, 9, 10, 11, 12, 13, 14, 15, 16, 17, 18, 19, 20, 21] ⟨rfl, rfl, rfl, rfl, rfl⟩ (fun _ => ⟨rfl, rfl⟩) dX6_two_39 (fun r_35 u_ hr_34 => ?_)
            subst hr_34
            exact xiret h0 dX6_two_42 u0 (by rw [hC, sel_n (by decide)]) (by rw [hC]; first | done | rfl)
      · skip
        have hC : twC (T 5 0) k (nI p) (nI q) v = 1 := if_pos (Or.inr (Or.inr (congrArg nI (by omega : p = q))))
        refine xaload_n h0 0 dX6_two_21 rfl rfl ?_
        refine xiconst (v := (-1)) h0 dX6_two_22 (by decide) ?_
        refine xcallV_i (nn := 1) (w2 := fun u_ => (wM cI cC md T k tm dy P pk ptm pdy hpi tg tl (upN R 1 (R 1 + 1)) sg sl u0)) (wr := []) (rest := []) h0 (c_X6_no (xL κ) D cI cC md T k tm dy P pk ptm pdy hpi tg tl R sg sl u0 1 (by omega)) gX6_two_X6_no (by decide +kernel) rfl rfl rfl ⟨Nat.le_of_ble_eq_true rfl, Nat.le_of_ble_eq_true rfl⟩ ⟨by decide, by decide⟩ (fun _ _ _ _ h => h) (fun _ _ _ _ _ _ _ => trivial) rfl (Nat.le_of_ble_eq_true rfl) (q0 := 0) rfl rfl rfl [0, 1, 2, 3, 4, 5, 6, 7, 8, 9, 10, 11, 12, 13, 14, 15, 16, 17, 18, 19, 20, 21] [] [0, 1, 2, 3, 4, 5, 6, 7, 8, 9, 10, 11, 12, 13, 14, 15, 16, 17, 18, 19, 20, 21] ⟨rfl, rfl, rfl, rfl, rfl⟩ (fun _ => ⟨rfl, rfl⟩) dX6_two_23 (fun r_37 u_ hr_36 => ?_)
        subst hr_36
        exact xiret h0 dX6_two_26 u0 (by rw [hC, sel_n (by decide)]) (by rw [hC]; first | done | rfl)
