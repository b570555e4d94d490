/-! THE REFERENCE: the tree, days, the row that is judged -/
theorem dy_s (T : TT) (z : Int32) (i : Nat) : dyK T z i + rgS T (wkS T (drS z (T 5 0) i) 0 8) = dyK T z (i + 1) := by rw [dyK]
theorem sd_s (z : Int32) (i : Nat) : sdN z i * nI 1664525 + nI 1013904223 = sdN z (i + 1) := by rw [sdN]

set_option maxHeartbeats 4000000 in
set_option maxRecDepth 100000 in
theorem c_X6_days (l : Launch) (D : va_G) (cI cC : ClassId) (md : Nat → Nat) (T : TT) (k tm dy : Nat) (P : TT) (pk ptm pdy hpi : Nat) (tg : Nat → Nat) (tl : Nat) (R : Nat → Nat) (sg : Nat → Nat) (sl : Nat) (u0 : ScmT) (x z : Int32) (hT : TOK T) (hk : k < 256) (hP : TOK P) (hpk : pk < 256) (htl : tl ≤ 8) (hsl : sl ≤ 64) (hhp : hpi < 2) (htg : ∀ i, tg i ≤ 9) : XMi l yX6_days wsX6_days ({ frames := 5, cells := 0, slots := 0, locals := 130 } : Room) D (xT cI cC) xE0 (wM cI cC md T k tm dy P pk ptm pdy hpi tg tl R sg sl u0) [.ref (md 1), .int x, .int z] (S := ScmT) (fun r _ => r = sel (dyC (T 5 0) x) (nI (dyK T z (xn x))) (-(nI (dyC (T 5 0) x)))) (fun u => wM cI cC md T k tm dy P pk ptm pdy hpi tg tl (bmp R (dyC (T 5 0) x)) sg sl u) 0 0 := by
  refine xMet_i (cc := cX6_days) (nL := 6) (ret := some .int) (by decide +kernel) rfl (Nat.le_of_ble_eq_true rfl) (fun κ A h0 hn0 hE => ?_)
  have hiX6 : ∀ w ∈ u_ws RX6 TX6 52, w ∈ wsX6_days := by decide +kernel
  refine xlv (lv' := [(0, .ref (md 1)), (1, .int x), (2, .int z)]) [0, 1, 2] rfl ?_
  have hn := hT.1
  refine xiload_n h0 1 dX6_days_0 rfl rfl ?_
  refine xiconst (v := (nI 1)) h0 dX6_days_1 (by decide) ?_
  refine xicmp_ge (tgt := 12) h0 dX6_days_2 (by decide)  (fun c_1 => ?_) (fun c_1 => ?_)
  · skip
    refine xiload_n h0 1 dX6_days_12 rfl rfl ?_
    refine xbipush (v := (nI 30)) h0 dX6_days_13 (by decide) ?_
    refine xicmp_le (tgt := 25) h0 dX6_days_15 (by decide)  (fun c_2 => ?_) (fun c_2 => ?_)
    · skip
      refine xaload_n h0 0 dX6_days_25 rfl rfl ?_
      refine xget (C := RX6) (T := TX6) (N := 52) (ci := 6) (v := .int (nI (T 5 0))) h0 hiX6 0 rfl rfl 1 (by decide) (List.mem_of_getElem? (i := 1) rfl) rfl dX6_days_26 ?_
      refine xnif_ne (tgt := 39) h0 dX6_days_29 (by decide) (by omega) (fun c_3 => ?_) (fun c_3 => ?_)
      · skip
        have hC : dyC (T 5 0) x = 0 := by unfold dyC; rw [if_neg (not_not_intro c_1), if_neg (not_not_intro c_2), if_neg (by omega)]
        obtain ⟨j, hj, rfl⟩ := nI_of (x := x) (Int32.not_lt.mpr (Int32.le_trans (by decide) c_1))
        have hj30 : j ≤ 30 := (nI_leI hj (by decide)).mp c_2
        refine xiconst (v := (nI 0)) h0 dX6_days_39 (by decide) ?_
        refine xistore_n (lv' := [(3, .int (nI 0)), (0, .ref (md 1)), (1, .int (nI j)), (2, .int z)]) h0 dX6_days_40 rfl (by decide) rfl ?_
        refine xiload_n h0 3 dX6_days_41 rfl rfl ?_
        refine xistore (lv' := [(4, .int z), (3, .int (nI 0)), (0, .ref (md 1)), (1, .int (nI j)), (2, .int z)]) h0 dX6_days_42 (by decide) rfl ?_
        refine xiconst (v := (nI 0)) h0 dX6_days_44 (by decide) ?_
        refine xistore (lv' := [(5, .int (nI 0)), (4, .int z), (3, .int (nI 0)), (0, .ref (md 1)), (1, .int (nI j)), (2, .int z)]) h0 dX6_days_45 (by decide) rfl ?_
        have lp : ∀ (d_ : Nat) (i z3 : Nat) (G : Nat → Nat), (31 - i ≤ d_) → (i ≤ j) → XG κ 6 D (xT cI cC) A (xQi (S := ScmT) κ D (xT cI cC) A (fun r _ => r = sel (dyC (T 5 0) (nI j)) (nI (dyK T z (xn (nI j)))) (-(nI (dyC (T 5 0) (nI j))))) (fun u => wM cI cC md T k tm dy P pk ptm pdy hpi tg tl (bmp R (dyC (T 5 0) (nI j))) sg sl u) 0 0) (wM cI cC md T k tm dy P pk ptm pdy hpi tg tl R sg sl (upN u0.1 32 z3, upA u0.2.1 31 G, u0.2.2)) 0 0 47 [(0, .ref (md 1)), (1, .int (nI j)), (3, .int (nI (dyK T z i))), (4, .int (sdN z i)), (5, .int (nI i))] [] := by
          intro d_
          induction d_ with
          | zero => intro i z3 G hm_ hi; exact absurd hm_ (by omega)
          | succ d_ ih_lp =>
            intro i z3 G hm_ hi
            refine xiload h0 4 dX6_days_47 rfl ?_
            refine xiload_n h0 1 dX6_days_49 rfl rfl ?_
            refine xncmp_ge (tgt := 99) h0 dX6_days_50 (by decide) (by omega) (by omega) (fun c_4 => ?_) (fun c_4 => ?_)
            · skip
              refine xiload_n h0 2 dX6_days_99 rfl rfl ?_
              exact xiret h0 dX6_days_100 (upN u0.1 32 z3, upA u0.2.1 31 G, u0.2.2) (by rw [hC, sel_0, xn_n (by omega)]; first | done | (rw [show j = i by omega])) (by rw [hC]; first | done | rfl)
            · skip
              refine xiload h0 3 dX6_days_53 rfl ?_
              refine xldcw (v := (nI 1664525)) h0 (List.mem_of_getElem? (i := 2) rfl) dX6_days_55 ?_
              refine ximul (v := ((sdN z i) * (nI 1664525))) h0 dX6_days_58 rfl ?_
              refine xldcw (v := (nI 1013904223)) h0 (List.mem_of_getElem? (i := 3) rfl) dX6_days_59 ?_
              refine xiadd (v := (sdN z (i + 1))) h0 dX6_days_62 (sd_s z i) ?_
              refine xistore (lv' := [(4, .int (sdN z (i + 1))), (0, .ref (md 1)), (1, .int (nI j)), (3, .int (nI (dyK T z i))), (5, .int (nI i))]) h0 dX6_days_63 (by decide) rfl ?_
              refine xaload_n h0 1 dX6_days_65 rfl rfl ?_
              refine xiload h0 0 dX6_days_66 rfl ?_
              refine xldcw (v := (nI 2147483647)) h0 (List.mem_of_getElem? (i := 4) rfl) dX6_days_68 ?_
              refine xiand (v := (nI ((sdN z (i + 1)).toBitVec.toNat % 2 ^ 31))) h0 dX6_days_71 (sd_and _) ?_
              refine xsipush (v := (nI 256)) h0 dX6_days_72 (by decide) ?_
              refine xidiv (v := (nI ((sdN z (i + 1)).toBitVec.toNat % 2 ^ 31 / 256))) h0 dX6_days_75 (by decide) (pk_div (Nat.mod_lt _ (by decide)) (by decide) (by decide)) ?_
              refine xaload_n h0 1 dX6_days_76 rfl rfl ?_
              refine xget (C := RX6) (T := TX6) (N := 52) (ci := 6) (v := .int (nI (T 5 0))) h0 hiX6 0 rfl rfl 1 (by decide) (List.mem_of_getElem? (i := 1) rfl) rfl dX6_days_77 ?_
              refine xirem (v := (nI (drS z (T 5 0) i))) h0 dX6_days_80 (nI_ne0 (by omega) (by omega)) (pk_rem (Nat.lt_of_le_of_lt (Nat.div_le_self _ _) (Nat.mod_lt _ (by decide))) (by omega) (by omega)) ?_
              refine xiconst (v := (nI 0)) h0 dX6_days_81 (by decide) ?_
              refine xiconst (v := (-1)) h0 dX6_days_82 (by decide) ?_
              refine xcallV_v (nn := 3) (w2 := fun G_5 => (wM cI cC md T k tm dy P pk ptm pdy hpi tg tl R sg sl (upN u0.1 32 ((wkS T (drS z (T 5 0) i) 0 8).length), upA u0.2.1 31 G_5, u0.2.2))) (wr := []) (rest := []) h0 (c_X6_go (xL κ) D cI cC md T k tm dy P pk ptm pdy hpi tg tl R sg sl (upN u0.1 32 z3, upA u0.2.1 31 G, u0.2.2) (drS z (T 5 0) i) 0 8 (-1) hT (by exact dr_lt (by omega)) (by decide) mx_8) gX6_days_X6_go (by decide +kernel) rfl rfl rfl ⟨Nat.le_of_ble_eq_true rfl, Nat.le_of_ble_eq_true rfl⟩ ⟨by decide, by decide⟩ (fun _ _ _ _ h => h) (fun _ _ _ _ _ _ _ => trivial) rfl (Nat.le_of_ble_eq_true rfl) (q0 := 0) rfl rfl rfl [0, 1, 2, 3, 4, 5, 6, 7, 8, 9, 10, 11, 12, 13, 14, 15, 16, 17, 18, 19, 20, 21] [] [0, 1, 2, 3, 4, 5, 6, 7, 8, 9, 10, 11, 12, 13, 14, 15, 16, 17, 18, 19, 20, 21] ⟨rfl, rfl, rfl, rfl, rfl⟩ (fun _ => ⟨rfl, rfl⟩) dX6_days_83 (fun G_5 hG_6 => ?_)
              sorry
        refine xlv [3, 4, 2, 1, 0] rfl ?_
        exact lp (31) 0 (u0.1 32) (u0.2.1 31) (by omega) (by omega)
      · skip
        have hC : dyC (T 5 0) x = 3 := by unfold dyC; rw [if_neg (not_not_intro c_1), if_neg (not_not_intro c_2), if_pos (by omega)]
        refine xaload_n h0 0 dX6_days_32 rfl rfl ?_
        refine xbipush (v := (-3)) h0 dX6_days_33 (by decide) ?_
        refine xcallV_i (nn := 1) (w2 := fun u_ => (wM cI cC md T k tm dy P pk ptm pdy hpi tg tl (upN R 3 (R 3 + 1)) sg sl u0)) (wr := []) (rest := []) h0 (c_X6_no (xL κ) D cI cC md T k tm dy P pk ptm pdy hpi tg tl R sg sl u0 3 (by omega)) gX6_days_X6_no (by decide +kernel) rfl rfl rfl ⟨Nat.le_of_ble_eq_true rfl, Nat.le_of_ble_eq_true rfl⟩ ⟨by decide, by decide⟩ (fun _ _ _ _ h => h) (fun _ _ _ _ _ _ _ => trivial) rfl (Nat.le_of_ble_eq_true rfl) (q0 := 0) rfl rfl rfl [0, 1, 2, 3, 4, 5, 6, 7, 8, 9, 10, 11, 12, 13, 14, 15, 16, 17, 18, 19, 20, 21] [] [0, 1, 2, 3, 4, 5, 6, 7, 8, 9, 10, 11, 12, 13, 14, 15, 16, 17, 18, 19, 20, 21] ⟨rfl, rfl, rfl, rfl, rfl⟩ (fun _ => ⟨rfl, rfl⟩) dX6_days_35 (fun r_9 u_ hr_8 => ?_)
        subst hr_8
        exact xiret h0 dX6_days_38 u0 (by rw [hC, sel_n (by decide)]) (by rw [hC]; first | done | rfl)
    · skip
      have hC : dyC (T 5 0) x = 6 := by unfold dyC; rw [if_neg (not_not_intro c_1), if_pos c_2]
      refine xaload_n h0 0 dX6_days_18 rfl rfl ?_
      refine xbipush (v := (-6)) h0 dX6_days_19 (by decide) ?_
      refine xcallV_i (nn := 1) (w2 := fun u_ => (wM cI cC md T k tm dy P pk ptm pdy hpi tg tl (upN R 6 (R 6 + 1)) sg sl u0)) (wr := []) (rest := []) h0 (c_X6_no (xL κ) D cI cC md T k tm dy P pk ptm pdy hpi tg tl R sg sl u0 6 (by omega)) gX6_days_X6_no (by decide +kernel) rfl rfl rfl ⟨Nat.le_of_ble_eq_true rfl, Nat.le_of_ble_eq_true rfl⟩ ⟨by decide, by decide⟩ (fun _ _ _ _ h => h) (fun _ _ _ _ _ _ _ => trivial) rfl (Nat.le_of_ble_eq_true rfl) (q0 := 0) rfl rfl rfl [0, 1, 2, 3, 4, 5, 6, 7, 8, 9, 10, 11, 12, 13, 14, 15, 16, 17, 18, 19, 20, 21] [] [0, 1, 2, 3, 4, 5, 6, 7, 8, 9, 10, 11, 12, 13, 14, 15, 16, 17, 18, 19, 20, 21] ⟨rfl, rfl, rfl, rfl, rfl⟩ (fun _ => ⟨rfl, rfl⟩) dX6_days_21 (fun r_11 u_ hr_10 => ?_)
      subst hr_10
      exact xiret h0 dX6_days_24 u0 (by rw [hC, sel_n (by decide)]) (by rw [hC]; first | done | rfl)
  · skip
    have hC : dyC (T 5 0) x = 4 := by unfold dyC; rw [if_pos c_1]
    refine xaload_n h0 0 dX6_days_5 rfl rfl ?_
    refine xbipush (v := (-4)) h0 dX6_days_6 (by decide) ?_
    refine xcallV_i (nn := 1) (w2 := fun u_ => (wM cI cC md T k tm dy P pk ptm pdy hpi tg tl (upN R 4 (R 4 + 1)) sg sl u0)) (wr := []) (rest := []) h0 (c_X6_no (xL κ) D cI cC md T k tm dy P pk ptm pdy hpi tg tl R sg sl u0 4 (by omega)) gX6_days_X6_no (by decide +kernel) rfl rfl rfl ⟨Nat.le_of_ble_eq_true rfl, Nat.le_of_ble_eq_true rfl⟩ ⟨by decide, by decide⟩ (fun _ _ _ _ h => h) (fun _ _ _ _ _ _ _ => trivial) rfl (Nat.le_of_ble_eq_true rfl) (q0 := 0) rfl rfl rfl [0, 1, 2, 3, 4, 5, 6, 7, 8, 9, 10, 11, 12, 13, 14, 15, 16, 17, 18, 19, 20, 21] [] [0, 1, 2, 3, 4, 5, 6, 7, 8, 9, 10, 11, 12, 13, 14, 15, 16, 17, 18, 19, 20, 21] ⟨rfl, rfl, rfl, rfl, rfl⟩ (fun _ => ⟨rfl, rfl⟩) dX6_days_8 (fun r_13 u_ hr_12 => ?_)
    subst hr_12
    exact xiret h0 dX6_days_11 u0 (by rw [hC, sel_n (by decide)]) (by rw [hC]; first | done | rfl)
