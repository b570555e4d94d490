/-! AllWays, explore, spreadFrom -/
theorem oI_t {b : Option Nat} {t : Nat} (h : b = some t) : oI b = nI t := by subst h; rfl

set_option maxHeartbeats 4000000 in
set_option maxRecDepth 100000 in
theorem c_X0_init (l : Launch) (D : va_G) (cI cC : ClassId) (a0 : Nat)  : XMv l yX0_init wsX0_init ({ frames := 2, cells := 4, slots := 22, locals := 32 } : Room) D (xT cI cC) xE0 [(a0, .inr (0, [.null, .null, .int (nI 0), .int (nI 0), .int (nI 0), .int (nI 0), .int (nI 0), .int (nI 0)]))] [.ref a0] (S := Nat × Nat × Nat × Nat) (fun _ => True) (fun u => [(a0, .inr (0, [.ref u.1, .ref u.2.2.1, .int (nI 0), .int (nI 0), .int (nI 0), .int (nI 0), .int (nI 0), .int (nI 0)]))] ++ (wWay cI u.1 u.2.1 [] (fun _ => 0) ++ wWay cI u.2.2.1 u.2.2.2 [] (fun _ => 0))) 4 22 := by
  refine xMet_v (cc := cX0_init) (nL := 1)  (by decide +kernel) rfl (Nat.le_of_ble_eq_true rfl) (fun κ A h0 hn0 hE => ?_)
  have hiX0 : ∀ w ∈ u_ws RX0 TX0 8, w ∈ wsX0_init := by decide +kernel
  have hiX4 : ∀ w ∈ u_ws RX4 TX4 3, w ∈ wsX0_init := by decide +kernel
  refine xlv (lv' := [(0, .ref a0)]) [0] rfl ?_
  refine xaload_n h0 0 dX0_init_0 rfl rfl ?_
  refine xobj h0 (List.mem_of_getElem? (i := 1) rfl) (List.mem_of_getElem? (i := 2) rfl) (List.mem_of_getElem? (i := 3) rfl) ⟨by decide, by decide⟩ dX0_init_1 ?_
  refine xaload_n h0 0 dX0_init_4 rfl rfl ?_
  refine xnew (C := RX4) (T := TX4) (N := 3) (ci := 4) (fs := [.null, .int (nI 0), .int (nI 0)]) h0 hiX4 tyX4 tyX4_ok (List.mem_of_getElem? (i := 4) rfl) (List.mem_of_getElem? (i := 5) rfl) (List.mem_of_getElem? (i := 6) rfl) rfl (fun j hj => by rcases (show j = 0 ∨ j = 1 ∨ j = 2 by omega) with rfl | rfl | rfl <;> rfl) ⟨by decide, by decide⟩ dX0_init_5 (fun q_1 => ?_)
  refine xeq (ws' := [(a0, .inr (0, [.null, .null, .int (nI 0), .int (nI 0), .int (nI 0), .int (nI 0), .int (nI 0), .int (nI 0)])), (q_1, .inr (4, [.null, .int (nI 0), .int (nI 0)]))]) rfl ?_
  refine xdup h0 dX0_init_8 rfl ?_
  refine xcallIN (nn := 0) (w2 := fun b_2 => ([(a0, .inr (0, [.null, .null, .int (nI 0), .int (nI 0), .int (nI 0), .int (nI 0), .int (nI 0), .int (nI 0)]))] ++ (wWay cI q_1 b_2 ([]) (fun _ => 0)))) (wr := [(a0, .inr (0, [.null, .null, .int (nI 0), .int (nI 0), .int (nI 0), .int (nI 0), .int (nI 0), .int (nI 0)]))]) (rest := [.ref q_1, .ref a0]) (host := "AskAnotherFirst") h0 (c_X4_init (xL κ) D cI cC q_1) gX0_init_X4_init_n11 (List.mem_of_getElem? (i := 3) rfl) (List.mem_of_getElem? (i := 6) rfl) (List.mem_of_getElem? (i := 9) rfl) rfl (by decide +kernel) rfl rfl rfl ⟨Nat.le_of_ble_eq_true rfl, Nat.le_of_ble_eq_true rfl⟩ ⟨by decide, by decide⟩ (fun _ _ _ _ h => h) (fun _ _ _ _ _ _ _ => trivial) rfl (Nat.le_of_ble_eq_true rfl) rfl [1] [0] [0, 1, 2] ⟨rfl, rfl, rfl, rfl, rfl⟩ (fun _ => ⟨rfl, rfl⟩) dX0_init_9 (fun b_2 _ => ?_)
  refine xputF (ws' := ([(a0, .inr (0, [.ref q_1, .null, .int (nI 0), .int (nI 0), .int (nI 0), .int (nI 0), .int (nI 0), .int (nI 0)]))] ++ (wWay cI q_1 b_2 ([]) (fun _ => 0)))) (C := RX0) (T := TX0) (N := 8) (ci := 0) (ty := tyX0 0) h0 hn0 hiX0 tyX0 tyX0_ok nmX0 0 rfl rfl 0 (by decide) (List.mem_of_getElem? (i := 7) rfl) rfl rfl (by decide +kernel) (rfl) (rfl) (Nat.le_of_ble_eq_true rfl) dX0_init_12 rfl ?_
  refine xaload_n h0 0 dX0_init_15 rfl rfl ?_
  refine xnew (C := RX4) (T := TX4) (N := 3) (ci := 4) (fs := [.null, .int (nI 0), .int (nI 0)]) h0 hiX4 tyX4 tyX4_ok (List.mem_of_getElem? (i := 4) rfl) (List.mem_of_getElem? (i := 5) rfl) (List.mem_of_getElem? (i := 6) rfl) rfl (fun j hj => by rcases (show j = 0 ∨ j = 1 ∨ j = 2 by omega) with rfl | rfl | rfl <;> rfl) ⟨by decide, by decide⟩ dX0_init_16 (fun q_4 => ?_)
  refine xeq (ws' := ([(a0, .inr (0, [.ref q_1, .null, .int (nI 0), .int (nI 0), .int (nI 0), .int (nI 0), .int (nI 0), .int (nI 0)]))] ++ ((wWay cI q_1 b_2 ([]) (fun _ => 0)) ++ [(q_4, .inr (4, [.null, .int (nI 0), .int (nI 0)]))]))) rfl ?_
  refine xdup h0 dX0_init_19 rfl ?_
  refine xcallIN (nn := 0) (w2 := fun b_5 => ([(a0, .inr (0, [.ref q_1, .null, .int (nI 0), .int (nI 0), .int (nI 0), .int (nI 0), .int (nI 0), .int (nI 0)]))] ++ ((wWay cI q_1 b_2 ([]) (fun _ => 0)) ++ (wWay cI q_4 b_5 ([]) (fun _ => 0))))) (wr := [(a0, .inr (0, [.ref q_1, .null, .int (nI 0), .int (nI 0), .int (nI 0), .int (nI 0), .int (nI 0), .int (nI 0)])), (q_1, .inr (4, [.ref b_2, .int (nI (([]).length)), .int (nI (mskL ([])))])), (b_2, .inl (cI, 8, .inl (fun i_ => nI ((fun _ => 0) i_))))]) (rest := [.ref q_4, .ref a0]) (host := "AskAnotherFirst") h0 (c_X4_init (xL κ) D cI cC q_4) gX0_init_X4_init_n11 (List.mem_of_getElem? (i := 3) rfl) (List.mem_of_getElem? (i := 6) rfl) (List.mem_of_getElem? (i := 9) rfl) rfl (by decide +kernel) rfl rfl rfl ⟨Nat.le_of_ble_eq_true rfl, Nat.le_of_ble_eq_true rfl⟩ ⟨by decide, by decide⟩ (fun _ _ _ _ h => h) (fun _ _ _ _ _ _ _ => trivial) rfl (Nat.le_of_ble_eq_true rfl) rfl [3] [0, 1, 2] [0, 1, 2, 3, 4] ⟨rfl, rfl, rfl, rfl, rfl⟩ (fun _ => ⟨rfl, rfl⟩) dX0_init_20 (fun b_5 _ => ?_)
  refine xputF (ws' := ([(a0, .inr (0, [.ref q_1, .ref q_4, .int (nI 0), .int (nI 0), .int (nI 0), .int (nI 0), .int (nI 0), .int (nI 0)]))] ++ ((wWay cI q_1 b_2 ([]) (fun _ => 0)) ++ (wWay cI q_4 b_5 ([]) (fun _ => 0))))) (C := RX0) (T := TX0) (N := 8) (ci := 0) (ty := tyX0 1) h0 hn0 hiX0 tyX0 tyX0_ok nmX0 0 rfl rfl 1 (by decide) (List.mem_of_getElem? (i := 8) rfl) rfl rfl (by decide +kernel) (rfl) (rfl) (Nat.le_of_ble_eq_true rfl) dX0_init_23 rfl ?_
  exact xvret h0 dX0_init_26 (q_1, b_2, q_4, b_5) (by trivial) rfl
set_option maxHeartbeats 4000000 in
set_option maxRecDepth 100000 in
theorem c_X0_begin (l : Launch) (D : va_G) (cI cC : ClassId) (a0 b0 b1 c0 c1 : Nat) (o : Nat) (xo : Option Nat) (many on bt br : Nat) (w : List Nat) (Gn : Nat → Nat) (v : List Nat) (Gb : Nat → Nat) (o2 : Nat) (xo2 : Option Nat)  : XMv l yX0_begin wsX0_begin ({ frames := 1, cells := 0, slots := 0, locals := 20 } : Room) D (xT cI cC) xE0 ([(a0, .inr (0, [.ref b0, .ref c0, .int (nI o), .int (oI xo), .int (nI many), .int (nI on), .int (nI bt), .int (nI br)]))] ++ ((wWay cI b0 b1 w Gn) ++ (wWay cI c0 c1 v Gb))) [.ref a0, .int (nI o2), .int (oI xo2)] (S := (Nat → Nat) × (Nat → Nat)) (fun u => okW [] u.1 ∧ okW [] u.2) (fun u => [(a0, .inr (0, [.ref b0, .ref c0, .int (nI o2), .int (oI xo2), .int (nI 0), .int (nI 0), .int (nI bt), .int (nI br)]))] ++ (wWay cI b0 b1 [] u.1 ++ wWay cI c0 c1 [] u.2)) 0 0 := by
  refine xMet_v (cc := cX0_begin) (nL := 3)  (by decide +kernel) rfl (Nat.le_of_ble_eq_true rfl) (fun κ A h0 hn0 hE => ?_)
  have hiX0 : ∀ w ∈ u_ws RX0 TX0 8, w ∈ wsX0_begin := by decide +kernel
  refine xlv (lv' := [(0, .ref a0), (1, .int (nI o2)), (2, .int (oI xo2))]) [0, 1, 2] rfl ?_
  refine xaload_n h0 0 dX0_begin_0 rfl rfl ?_
  refine xiload_n h0 1 dX0_begin_1 rfl rfl ?_
  refine xput (ws' := ([(a0, .inr (0, [.ref b0, .ref c0, .int (nI o2), .int (oI xo), .int (nI many), .int (nI on), .int (nI bt), .int (nI br)]))] ++ ((wWay cI b0 b1 w Gn) ++ (wWay cI c0 c1 v Gb)))) (C := RX0) (T := TX0) (N := 8) (ci := 0) (ty := tyX0 2) h0 hiX0 tyX0 tyX0_ok nmX0 0 rfl rfl 2 (by decide) (List.mem_of_getElem? (i := 1) rfl) rfl (by decide +kernel) (rfl) (rfl) (Nat.le_of_ble_eq_true rfl) dX0_begin_2 rfl ?_
  refine xaload_n h0 0 dX0_begin_5 rfl rfl ?_
  refine xiload_n h0 2 dX0_begin_6 rfl rfl ?_
  refine xput (ws' := ([(a0, .inr (0, [.ref b0, .ref c0, .int (nI o2), .int (oI xo2), .int (nI many), .int (nI on), .int (nI bt), .int (nI br)]))] ++ ((wWay cI b0 b1 w Gn) ++ (wWay cI c0 c1 v Gb)))) (C := RX0) (T := TX0) (N := 8) (ci := 0) (ty := tyX0 3) h0 hiX0 tyX0 tyX0_ok nmX0 0 rfl rfl 3 (by decide) (List.mem_of_getElem? (i := 2) rfl) rfl (by decide +kernel) (rfl) (rfl) (Nat.le_of_ble_eq_true rfl) dX0_begin_7 rfl ?_
  refine xaload_n h0 0 dX0_begin_10 rfl rfl ?_
  refine xiconst (v := (nI 0)) h0 dX0_begin_11 (by decide) ?_
  refine xput (ws' := ([(a0, .inr (0, [.ref b0, .ref c0, .int (nI o2), .int (oI xo2), .int (nI 0), .int (nI on), .int (nI bt), .int (nI br)]))] ++ ((wWay cI b0 b1 w Gn) ++ (wWay cI c0 c1 v Gb)))) (C := RX0) (T := TX0) (N := 8) (ci := 0) (ty := tyX0 4) h0 hiX0 tyX0 tyX0_ok nmX0 0 rfl rfl 4 (by decide) (List.mem_of_getElem? (i := 3) rfl) rfl (by decide +kernel) (rfl) (rfl) (Nat.le_of_ble_eq_true rfl) dX0_begin_12 rfl ?_
  refine xaload_n h0 0 dX0_begin_15 rfl rfl ?_
  refine xiconst (v := (nI 0)) h0 dX0_begin_16 (by decide) ?_
  refine xput (ws' := ([(a0, .inr (0, [.ref b0, .ref c0, .int (nI o2), .int (oI xo2), .int (nI 0), .int (nI 0), .int (nI bt), .int (nI br)]))] ++ ((wWay cI b0 b1 w Gn) ++ (wWay cI c0 c1 v Gb)))) (C := RX0) (T := TX0) (N := 8) (ci := 0) (ty := tyX0 5) h0 hiX0 tyX0 tyX0_ok nmX0 0 rfl rfl 5 (by decide) (List.mem_of_getElem? (i := 4) rfl) rfl (by decide +kernel) (rfl) (rfl) (Nat.le_of_ble_eq_true rfl) dX0_begin_17 rfl ?_
  refine xaload_n h0 0 dX0_begin_20 rfl rfl ?_
  refine xget (C := RX0) (T := TX0) (N := 8) (ci := 0) (v := .ref b0) h0 hiX0 0 rfl rfl 0 (by decide) (List.mem_of_getElem? (i := 5) rfl) rfl dX0_begin_21 ?_
  refine xcallV_v (nn := 0) (w2 := fun G_1 => ([(a0, .inr (0, [.ref b0, .ref c0, .int (nI o2), .int (oI xo2), .int (nI 0), .int (nI 0), .int (nI bt), .int (nI br)]))] ++ ((wWay cI b0 b1 ([]) G_1) ++ (wWay cI c0 c1 v Gb)))) (wr := [(a0, .inr (0, [.ref b0, .ref c0, .int (nI o2), .int (oI xo2), .int (nI 0), .int (nI 0), .int (nI bt), .int (nI br)])), (c0, .inr (4, [.ref c1, .int (nI ((v).length)), .int (nI (mskL (v)))])), (c1, .inl (cI, 8, .inl (fun i_ => nI (Gb i_))))]) (rest := []) h0 (c_X4_clear (xL κ) D cI cC b0 b1 w Gn ) gX0_begin_X4_clear (by decide +kernel) rfl rfl rfl ⟨Nat.le_of_ble_eq_true rfl, Nat.le_of_ble_eq_true rfl⟩ ⟨by decide, by decide⟩ (fun _ _ _ _ h => h) (fun _ _ _ _ _ _ _ => trivial) rfl (Nat.le_of_ble_eq_true rfl) (q0 := 0) rfl rfl rfl [1, 2] [0, 3, 4] [0, 3, 4, 1, 2] ⟨rfl, rfl, rfl, rfl, rfl⟩ (fun _ => ⟨rfl, rfl⟩) dX0_begin_24 (fun G_1 hG_2 => ?_)
  refine xaload_n h0 0 dX0_begin_27 rfl rfl ?_
  refine xget (C := RX0) (T := TX0) (N := 8) (ci := 0) (v := .ref c0) h0 hiX0 0 rfl rfl 1 (by decide) (List.mem_of_getElem? (i := 6) rfl) rfl dX0_begin_28 ?_
  refine xcallV_v (nn := 0) (w2 := fun G_4 => ([(a0, .inr (0, [.ref b0, .ref c0, .int (nI o2), .int (oI xo2), .int (nI 0), .int (nI 0), .int (nI bt), .int (nI br)]))] ++ ((wWay cI b0 b1 ([]) G_1) ++ (wWay cI c0 c1 ([]) G_4)))) (wr := [(a0, .inr (0, [.ref b0, .ref c0, .int (nI o2), .int (oI xo2), .int (nI 0), .int (nI 0), .int (nI bt), .int (nI br)])), (b0, .inr (4, [.ref b1, .int (nI (([]).length)), .int (nI (mskL ([])))])), (b1, .inl (cI, 8, .inl (fun i_ => nI (G_1 i_))))]) (rest := []) h0 (c_X4_clear (xL κ) D cI cC c0 c1 v Gb ) gX0_begin_X4_clear (by decide +kernel) rfl rfl rfl ⟨Nat.le_of_ble_eq_true rfl, Nat.le_of_ble_eq_true rfl⟩ ⟨by decide, by decide⟩ (fun _ _ _ _ h => h) (fun _ _ _ _ _ _ _ => trivial) rfl (Nat.le_of_ble_eq_true rfl) (q0 := 0) rfl rfl rfl [3, 4] [0, 1, 2] [0, 1, 2, 3, 4] ⟨rfl, rfl, rfl, rfl, rfl⟩ (fun _ => ⟨rfl, rfl⟩) dX0_begin_31 (fun G_4 hG_5 => ?_)
  exact xvret h0 dX0_begin_34 (G_1, G_4) (by exact ⟨hG_2, hG_5⟩) rfl
set_option maxHeartbeats 4000000 in
set_option maxRecDepth 100000 in
theorem c_X0_isBetter (l : Launch) (D : va_G) (cI cC : ClassId) (a0 b0 b1 c0 c1 : Nat) (o : Nat) (xo : Option Nat) (many on bt br : Nat) (w : List Nat) (Gn : Nat → Nat) (v : List Nat) (Gb : Nat → Nat) (t r : Nat) (ho : o < 2 ^ 31) (ht : t < 2 ^ 31) (hr : r < 2 ^ 31) (hbt : bt < 2 ^ 31) (hbr : br < 2 ^ 31) (hlw : w.length ≤ 8) (hlb : v.length ≤ 8) : XMi l yX0_isBetter wsX0_isBetter ({ frames := 0, cells := 0, slots := 0, locals := 0 } : Room) D (xT cI cC) xE0 ([(a0, .inr (0, [.ref b0, .ref c0, .int (nI o), .int (oI xo), .int (nI many), .int (nI on), .int (nI bt), .int (nI br)]))] ++ ((wWay cI b0 b1 w Gn) ++ (wWay cI c0 c1 v Gb))) [.ref a0, .int (nI t), .int (nI r)] (S := Unit) (fun r2 _ => r2 = bI (btR o t r bt br w.length v.length)) (fun _ => ([(a0, .inr (0, [.ref b0, .ref c0, .int (nI o), .int (oI xo), .int (nI many), .int (nI on), .int (nI bt), .int (nI br)]))] ++ ((wWay cI b0 b1 w Gn) ++ (wWay cI c0 c1 v Gb)))) 0 0 := by
  refine xMet_i (cc := cX0_isBetter) (nL := 3) (ret := some .boolean) (by decide +kernel) rfl (Nat.le_of_ble_eq_true rfl) (fun κ A h0 hn0 hE => ?_)
  have hiX0 : ∀ w ∈ u_ws RX0 TX0 8, w ∈ wsX0_isBetter := by decide +kernel
  have hiX4 : ∀ w ∈ u_ws RX4 TX4 3, w ∈ wsX0_isBetter := by decide +kernel
  refine xlv (lv' := [(0, .ref a0), (1, .int (nI t)), (2, .int (nI r))]) [0, 1, 2] rfl ?_
  refine xaload_n h0 0 dX0_isBetter_0 rfl rfl ?_
  refine xget (C := RX0) (T := TX0) (N := 8) (ci := 0) (v := .int (nI o)) h0 hiX0 0 rfl rfl 2 (by decide) (List.mem_of_getElem? (i := 1) rfl) rfl dX0_isBetter_1 ?_
  refine xnif_ne (tgt := 21) h0 dX0_isBetter_4 (by decide) (by omega) (fun c_1 => ?_) (fun c_1 => ?_)
  · skip
    refine xaload_n h0 0 dX0_isBetter_21 rfl rfl ?_
    refine xget (C := RX0) (T := TX0) (N := 8) (ci := 0) (v := .int (nI o)) h0 hiX0 0 rfl rfl 2 (by decide) (List.mem_of_getElem? (i := 1) rfl) rfl dX0_isBetter_22 ?_
    refine xiconst (v := (nI 1)) h0 dX0_isBetter_25 (by decide) ?_
    refine xncmp_ne (tgt := 59) h0 dX0_isBetter_26 (by decide) (by omega) (by omega) (fun c_2 => ?_) (fun c_2 => ?_)
    · skip
      refine xaload_n h0 0 dX0_isBetter_59 rfl rfl ?_
      refine xget (C := RX0) (T := TX0) (N := 8) (ci := 0) (v := .ref b0) h0 hiX0 0 rfl rfl 0 (by decide) (List.mem_of_getElem? (i := 4) rfl) rfl dX0_isBetter_60 ?_
      refine xgetN (C := RX4) (T := TX4) (N := 3) (ci := 4) (host := "AskAnotherFirst") (v := .int (nI ((w).length))) h0 hiX4 1 rfl rfl 1 (by decide) (List.mem_of_getElem? (i := 10) rfl) rfl dX0_isBetter_63 ?_
      refine xaload_n h0 0 dX0_isBetter_66 rfl rfl ?_
      refine xget (C := RX0) (T := TX0) (N := 8) (ci := 0) (v := .ref c0) h0 hiX0 0 rfl rfl 1 (by decide) (List.mem_of_getElem? (i := 5) rfl) rfl dX0_isBetter_67 ?_
      refine xgetN (C := RX4) (T := TX4) (N := 3) (ci := 4) (host := "AskAnotherFirst") (v := .int (nI ((v).length))) h0 hiX4 3 rfl rfl 1 (by decide) (List.mem_of_getElem? (i := 10) rfl) rfl dX0_isBetter_70 ?_
      refine xncmp_gt (tgt := 101) h0 dX0_isBetter_73 (by decide) (by omega) (by omega) (fun c_3 => ?_) (fun c_3 => ?_)
      · skip
        refine xiconst (v := (nI 1)) h0 dX0_isBetter_101 (by decide) ?_
        refine xgoto (tgt := 106) h0 dX0_isBetter_102 (by decide) ?_
        exact xzret h0 dX0_isBetter_106 nar_n1 () (by exact (bI_t (by first | omega | assumption | (simp_all; done))).symm) rfl
      · skip
        refine xaload_n h0 0 dX0_isBetter_76 rfl rfl ?_
        refine xget (C := RX0) (T := TX0) (N := 8) (ci := 0) (v := .ref b0) h0 hiX0 0 rfl rfl 0 (by decide) (List.mem_of_getElem? (i := 4) rfl) rfl dX0_isBetter_77 ?_
        refine xgetN (C := RX4) (T := TX4) (N := 3) (ci := 4) (host := "AskAnotherFirst") (v := .int (nI ((w).length))) h0 hiX4 1 rfl rfl 1 (by decide) (List.mem_of_getElem? (i := 10) rfl) rfl dX0_isBetter_80 ?_
        refine xaload_n h0 0 dX0_isBetter_83 rfl rfl ?_
        refine xget (C := RX0) (T := TX0) (N := 8) (ci := 0) (v := .ref c0) h0 hiX0 0 rfl rfl 1 (by decide) (List.mem_of_getElem? (i := 5) rfl) rfl dX0_isBetter_84 ?_
        refine xgetN (C := RX4) (T := TX4) (N := 3) (ci := 4) (host := "AskAnotherFirst") (v := .int (nI ((v).length))) h0 hiX4 3 rfl rfl 1 (by decide) (List.mem_of_getElem? (i := 10) rfl) rfl dX0_isBetter_87 ?_
        refine xncmp_ne (tgt := 105) h0 dX0_isBetter_90 (by decide) (by omega) (by omega) (fun c_4 => ?_) (fun c_4 => ?_)
        · skip
          refine xiconst (v := (nI 0)) h0 dX0_isBetter_105 (by decide) ?_
          exact xzret h0 dX0_isBetter_106 nar_n0 () (by exact (bI_f (by first | omega | assumption | (simp_all; done))).symm) rfl
        · skip
          refine xiload_n h0 1 dX0_isBetter_93 rfl rfl ?_
          refine xaload_n h0 0 dX0_isBetter_94 rfl rfl ?_
          refine xget (C := RX0) (T := TX0) (N := 8) (ci := 0) (v := .int (nI bt)) h0 hiX0 0 rfl rfl 6 (by decide) (List.mem_of_getElem? (i := 2) rfl) rfl dX0_isBetter_95 ?_
          refine xncmp_le (tgt := 105) h0 dX0_isBetter_98 (by decide) (by omega) (by omega) (fun c_5 => ?_) (fun c_5 => ?_)
          · skip
            refine xiconst (v := (nI 0)) h0 dX0_isBetter_105 (by decide) ?_
            exact xzret h0 dX0_isBetter_106 nar_n0 () (by exact (bI_f (by first | omega | assumption | (simp_all; done))).symm) rfl
          · skip
            refine xiconst (v := (nI 1)) h0 dX0_isBetter_101 (by decide) ?_
            refine xgoto (tgt := 106) h0 dX0_isBetter_102 (by decide) ?_
            exact xzret h0 dX0_isBetter_106 nar_n1 () (by exact (bI_t (by first | omega | assumption | (simp_all; done))).symm) rfl
    · skip
      refine xiload_n h0 2 dX0_isBetter_29 rfl rfl ?_
      refine xaload_n h0 0 dX0_isBetter_30 rfl rfl ?_
      refine xget (C := RX0) (T := TX0) (N := 8) (ci := 0) (v := .int (nI br)) h0 hiX0 0 rfl rfl 7 (by decide) (List.mem_of_getElem? (i := 3) rfl) rfl dX0_isBetter_31 ?_
      refine xncmp_gt (tgt := 53) h0 dX0_isBetter_34 (by decide) (by omega) (by omega) (fun c_6 => ?_) (fun c_6 => ?_)
      · skip
        refine xiconst (v := (nI 1)) h0 dX0_isBetter_53 (by decide) ?_
        refine xgoto (tgt := 58) h0 dX0_isBetter_54 (by decide) ?_
        exact xzret h0 dX0_isBetter_58 nar_n1 () (by exact (bI_t (by first | omega | assumption | (simp_all; done))).symm) rfl
      · skip
        refine xiload_n h0 2 dX0_isBetter_37 rfl rfl ?_
        refine xaload_n h0 0 dX0_isBetter_38 rfl rfl ?_
        refine xget (C := RX0) (T := TX0) (N := 8) (ci := 0) (v := .int (nI br)) h0 hiX0 0 rfl rfl 7 (by decide) (List.mem_of_getElem? (i := 3) rfl) rfl dX0_isBetter_39 ?_
        refine xncmp_ne (tgt := 57) h0 dX0_isBetter_42 (by decide) (by omega) (by omega) (fun c_7 => ?_) (fun c_7 => ?_)
        · skip
          refine xiconst (v := (nI 0)) h0 dX0_isBetter_57 (by decide) ?_
          exact xzret h0 dX0_isBetter_58 nar_n0 () (by exact (bI_f (by first | omega | assumption | (simp_all; done))).symm) rfl
        · skip
          refine xiload_n h0 1 dX0_isBetter_45 rfl rfl ?_
          refine xaload_n h0 0 dX0_isBetter_46 rfl rfl ?_
          refine xget (C := RX0) (T := TX0) (N := 8) (ci := 0) (v := .int (nI bt)) h0 hiX0 0 rfl rfl 6 (by decide) (List.mem_of_getElem? (i := 2) rfl) rfl dX0_isBetter_47 ?_
          refine xncmp_ge (tgt := 57) h0 dX0_isBetter_50 (by decide) (by omega) (by omega) (fun c_8 => ?_) (fun c_8 => ?_)
          · skip
            refine xiconst (v := (nI 0)) h0 dX0_isBetter_57 (by decide) ?_
            exact xzret h0 dX0_isBetter_58 nar_n0 () (by exact (bI_f (by first | omega | assumption | (simp_all; done))).symm) rfl
          · skip
            refine xiconst (v := (nI 1)) h0 dX0_isBetter_53 (by decide) ?_
            refine xgoto (tgt := 58) h0 dX0_isBetter_54 (by decide) ?_
            exact xzret h0 dX0_isBetter_58 nar_n1 () (by exact (bI_t (by first | omega | assumption | (simp_all; done))).symm) rfl
  · skip
    refine xiload_n h0 1 dX0_isBetter_7 rfl rfl ?_
    refine xaload_n h0 0 dX0_isBetter_8 rfl rfl ?_
    refine xget (C := RX0) (T := TX0) (N := 8) (ci := 0) (v := .int (nI bt)) h0 hiX0 0 rfl rfl 6 (by decide) (List.mem_of_getElem? (i := 2) rfl) rfl dX0_isBetter_9 ?_
    refine xncmp_ge (tgt := 19) h0 dX0_isBetter_12 (by decide) (by omega) (by omega) (fun c_9 => ?_) (fun c_9 => ?_)
    · skip
      refine xiconst (v := (nI 0)) h0 dX0_isBetter_19 (by decide) ?_
      exact xzret h0 dX0_isBetter_20 nar_n0 () (by exact (bI_f (by first | omega | assumption | (simp_all; done))).symm) rfl
    · skip
      refine xiconst (v := (nI 1)) h0 dX0_isBetter_15 (by decide) ?_
      refine xgoto (tgt := 20) h0 dX0_isBetter_16 (by decide) ?_
      exact xzret h0 dX0_isBetter_20 nar_n1 () (by exact (bI_t (by first | omega | assumption | (simp_all; done))).symm) rfl
set_option maxHeartbeats 4000000 in
set_option maxRecDepth 100000 in
theorem c_X0_take (l : Launch) (D : va_G) (cI cC : ClassId) (a : Nat → Nat) (T : TT) (k mu tm dy : Nat) (a0 b0 b1 c0 c1 : Nat) (o : Nat) (xo : Option Nat) (Ls : List (List Nat)) (w : List Nat) (Gn Gb : Nat → Nat) (bt br : Nat) (hT : TOK T) (hGn : okW w Gn) (h1 : 1 ≤ w.length) (h8 : w.length ≤ 8) (hwn : ∀ q ∈ w, q < T 5 0) (hb : okB T o (flS T xo Ls) Gb bt br) (hx : ∀ t, xo = some t → t < 2 ^ 31) (hL : lenOK Ls) (hlen : Ls.length < 2 ^ 30) (ho : o < 2 ^ 31) : XMv l yX0_take wsX0_take ({ frames := 3, cells := 0, slots := 0, locals := 121 } : Room) D (xT cI cC) xE0 ((wTown cI a T k mu tm dy) ++ ([(a0, .inr (0, [.ref b0, .ref c0, .int (nI o), .int (oI xo), .int (nI ((flS T xo Ls).length)), .int (nI (onS (flS T xo Ls))), .int (nI bt), .int (nI br)]))] ++ ((wWay cI b0 b1 w Gn) ++ (wWay cI c0 c1 (bestS T o (flS T xo Ls)) Gb)))) [.ref a0, .ref (a 0)] (S := (Nat → Nat) × Nat × Nat) (fun u => okB T o (flS T xo (Ls ++ [w])) u.1 u.2.1 u.2.2) (fun u => wTown cI a T k mu tm dy ++ ([(a0, .inr (0, [.ref b0, .ref c0, .int (nI o), .int (oI xo), .int (nI (flS T xo (Ls ++ [w])).length), .int (nI (onS (flS T xo (Ls ++ [w])))), .int (nI u.2.1), .int (nI u.2.2)]))] ++ (wWay cI b0 b1 w Gn ++ wWay cI c0 c1 (bestS T o (flS T xo (Ls ++ [w]))) u.1))) 0 0 := by
  refine xMet_v (cc := cX0_take) (nL := 4)  (by decide +kernel) rfl (Nat.le_of_ble_eq_true rfl) (fun κ A h0 hn0 hE => ?_)
  have hiX0 : ∀ w ∈ u_ws RX0 TX0 8, w ∈ wsX0_take := by decide +kernel
  have hiX4 : ∀ w ∈ u_ws RX4 TX4 3, w ∈ wsX0_take := by decide +kernel
  refine xlv (lv' := [(0, .ref a0), (1, .ref (a 0))]) [0, 1] rfl ?_
  have hn := hT.1
  have hlw := hT.2.1
  have hl2 : (flS T xo Ls).length < 2 ^ 30 := Nat.lt_of_le_of_lt (flS_len T xo Ls) hlen
  have hFL := lenOK_fl (T := T) (xo := xo) hL
  have hw256 : mskL w < 256 := mskL_lt w (fun q hq => by have := hwn q hq; omega)
  have htm := tmS_le hT h8
  have hrg := rgS_le hT w
  have hbl := bestS_len (T := T) (o := o) hFL
  have hGb := hb
  refine xaload_n h0 1 dX0_take_0 rfl rfl ?_
  refine xaload_n h0 0 dX0_take_1 rfl rfl ?_
  refine xget (C := RX0) (T := TX0) (N := 8) (ci := 0) (v := .ref b0) h0 hiX0 9 rfl rfl 0 (by decide) (List.mem_of_getElem? (i := 1) rfl) rfl dX0_take_2 ?_
  refine xcallV_i (nn := 1) (w2 := fun u_ => ((wTown cI a T k mu tm dy) ++ ([(a0, .inr (0, [.ref b0, .ref c0, .int (nI o), .int (oI xo), .int (nI ((flS T xo Ls).length)), .int (nI (onS (flS T xo Ls))), .int (nI bt), .int (nI br)]))] ++ ((wWay cI b0 b1 w Gn) ++ (wWay cI c0 c1 (bestS T o (flS T xo Ls)) Gb))))) (wr := [(a0, .inr (0, [.ref b0, .ref c0, .int (nI o), .int (oI xo), .int (nI ((flS T xo Ls).length)), .int (nI (onS (flS T xo Ls))), .int (nI bt), .int (nI br)])), (c0, .inr (4, [.ref c1, .int (nI ((bestS T o (flS T xo Ls)).length)), .int (nI (mskL (bestS T o (flS T xo Ls))))])), (c1, .inl (cI, 8, .inl (fun i_ => nI (Gb i_))))]) (rest := []) h0 (c_X3_timeOf (xL κ) D cI cC a T k mu tm dy b0 b1 w Gn hT hGn (by first | assumption | omega) (by first | assumption | omega) (by assumption)) gX0_take_X3_timeOf (by decide +kernel) rfl rfl rfl ⟨Nat.le_of_ble_eq_true rfl, Nat.le_of_ble_eq_true rfl⟩ ⟨by decide, by decide⟩ (fun _ _ _ _ h => h) (fun _ _ _ _ _ _ _ => trivial) rfl (Nat.le_of_ble_eq_true rfl) (q0 := 0) rfl rfl rfl [0, 1, 2, 3, 4, 5, 6, 7, 8, 10, 11] [9, 12, 13] [3, 4, 5, 6, 7, 8, 9, 10, 11, 0, 12, 13, 1, 2] ⟨rfl, rfl, rfl, rfl, rfl⟩ (fun _ => ⟨rfl, rfl⟩) dX0_take_5 (fun r_2 u_ hr_1 => ?_)
  subst hr_1
  refine xistore_n (lv' := [(2, .int (nI (tmS T w))), (0, .ref a0), (1, .ref (a 0))]) h0 dX0_take_8 rfl (by decide) rfl ?_
  refine xaload_n h0 1 dX0_take_9 rfl rfl ?_
  refine xget (C := RX0) (T := TX0) (N := 8) (ci := 0) (v := .int (oI xo)) h0 hiX0 9 rfl rfl 3 (by decide) (List.mem_of_getElem? (i := 2) rfl) rfl dX0_take_10 ?_
  refine xiconst (v := (-1)) h0 dX0_take_13 (by decide) ?_
  refine xicmp_eq (tgt := 26) h0 dX0_take_14 (by decide)  (fun c_3 => ?_) (fun c_3 => ?_)
  · skip
    have hxn : xo = none := oI_m hx c_3
    have hfb : fbS T xo w = true := by rw [hxn]; rfl
    have hF : flS T xo (Ls ++ [w]) = flS T xo Ls ++ [w] := flS_y Ls hfb
    refine xaload_n h0 2 dX0_take_26 rfl rfl ?_
    refine xaload_n h0 1 dX0_take_27 rfl rfl ?_
    refine xget (C := RX0) (T := TX0) (N := 8) (ci := 0) (v := .ref b0) h0 hiX0 9 rfl rfl 0 (by decide) (List.mem_of_getElem? (i := 1) rfl) rfl dX0_take_28 ?_
    refine xcallV_i (nn := 1) (w2 := fun u_ => ((wTown cI a T k mu tm dy) ++ ([(a0, .inr (0, [.ref b0, .ref c0, .int (nI o), .int (oI xo), .int (nI ((flS T xo Ls).length)), .int (nI (onS (flS T xo Ls))), .int (nI bt), .int (nI br)]))] ++ ((wWay cI b0 b1 w Gn) ++ (wWay cI c0 c1 (bestS T o (flS T xo Ls)) Gb))))) (wr := [(a0, .inr (0, [.ref b0, .ref c0, .int (nI o), .int (oI xo), .int (nI ((flS T xo Ls).length)), .int (nI (onS (flS T xo Ls))), .int (nI bt), .int (nI br)])), (c0, .inr (4, [.ref c1, .int (nI ((bestS T o (flS T xo Ls)).length)), .int (nI (mskL (bestS T o (flS T xo Ls))))])), (c1, .inl (cI, 8, .inl (fun i_ => nI (Gb i_))))]) (rest := []) h0 (c_X3_rightOf (xL κ) D cI cC a T k mu tm dy b0 b1 w Gn hT hGn (by first | assumption | omega) (by first | assumption | omega) (by assumption)) gX0_take_X3_rightOf (by decide +kernel) rfl rfl rfl ⟨Nat.le_of_ble_eq_true rfl, Nat.le_of_ble_eq_true rfl⟩ ⟨by decide, by decide⟩ (fun _ _ _ _ h => h) (fun _ _ _ _ _ _ _ => trivial) rfl (Nat.le_of_ble_eq_true rfl) (q0 := 0) rfl rfl rfl [0, 1, 2, 3, 4, 5, 6, 7, 8, 10, 11] [9, 12, 13] [3, 4, 5, 6, 7, 8, 9, 10, 11, 0, 12, 13, 1, 2] ⟨rfl, rfl, rfl, rfl, rfl⟩ (fun _ => ⟨rfl, rfl⟩) dX0_take_31 (fun r_5 u_ hr_4 => ?_)
    subst hr_4
    refine xistore_n (lv' := [(3, .int (nI (rgS T w))), (2, .int (nI (tmS T w))), (0, .ref a0), (1, .ref (a 0))]) h0 dX0_take_34 rfl (by decide) rfl ?_
    refine xaload_n h0 2 dX0_take_35 rfl rfl ?_
    refine xaload_n h0 2 dX0_take_36 rfl rfl ?_
    refine xget (C := RX0) (T := TX0) (N := 8) (ci := 0) (v := .int (nI ((flS T xo Ls).length))) h0 hiX0 9 rfl rfl 4 (by decide) (List.mem_of_getElem? (i := 3) rfl) rfl dX0_take_37 ?_
    have jn : ∀ (von : Nat), (von = onS (flS T xo Ls ++ [w])) → XG κ 4 D (xT cI cC) A (xQv (S := (Nat → Nat) × Nat × Nat) κ D (xT cI cC) A (fun u => okB T o (flS T xo (Ls ++ [w])) u.1 u.2.1 u.2.2) (fun u => wTown cI a T k mu tm dy ++ ([(a0, .inr (0, [.ref b0, .ref c0, .int (nI o), .int (oI xo), .int (nI (flS T xo (Ls ++ [w])).length), .int (nI (onS (flS T xo (Ls ++ [w])))), .int (nI u.2.1), .int (nI u.2.2)]))] ++ (wWay cI b0 b1 w Gn ++ wWay cI c0 c1 (bestS T o (flS T xo (Ls ++ [w]))) u.1))) 0 0) ((wTown cI a T k mu tm dy) ++ ([(a0, .inr (0, [.ref b0, .ref c0, .int (nI o), .int (oI xo), .int (nI ((flS T xo Ls).length)), .int (nI (onS (flS T xo Ls))), .int (nI bt), .int (nI br)]))] ++ ((wWay cI b0 b1 w Gn) ++ (wWay cI c0 c1 (bestS T o (flS T xo Ls)) Gb)))) 0 0 65 [(0, .ref a0), (1, .ref (a 0)), (2, .int (nI (tmS T w))), (3, .int (nI (rgS T w)))] [.int (nI von), .ref a0] := by
      intro von hv
      refine xput (ws' := ((wTown cI a T k mu tm dy) ++ ([(a0, .inr (0, [.ref b0, .ref c0, .int (nI o), .int (oI xo), .int (nI ((flS T xo Ls).length)), .int (nI von), .int (nI bt), .int (nI br)]))] ++ ((wWay cI b0 b1 w Gn) ++ (wWay cI c0 c1 (bestS T o (flS T xo Ls)) Gb))))) (C := RX0) (T := TX0) (N := 8) (ci := 0) (ty := tyX0 5) h0 hiX0 tyX0 tyX0_ok nmX0 9 rfl rfl 5 (by decide) (List.mem_of_getElem? (i := 4) rfl) rfl (by decide +kernel) (rfl) (rfl) (Nat.le_of_ble_eq_true rfl) dX0_take_65 rfl ?_
      refine xaload_n h0 0 dX0_take_68 rfl rfl ?_
      refine xget (C := RX0) (T := TX0) (N := 8) (ci := 0) (v := .int (nI ((flS T xo Ls).length))) h0 hiX0 9 rfl rfl 4 (by decide) (List.mem_of_getElem? (i := 3) rfl) rfl dX0_take_69 ?_
      refine xnif_eq (tgt := 84) h0 dX0_take_72 (by decide) (by omega) (fun c_6 => ?_) (fun c_6 => ?_)
      · skip
        have hbest : bestS T o (flS T xo Ls ++ [w]) = w := bestS_y (Or.inl ((bestS_0 hFL).mpr (List.length_eq_zero_iff.mp c_6)))
        refine xaload_n h0 0 dX0_take_84 rfl rfl ?_
        refine xget (C := RX0) (T := TX0) (N := 8) (ci := 0) (v := .ref c0) h0 hiX0 9 rfl rfl 1 (by decide) (List.mem_of_getElem? (i := 5) rfl) rfl dX0_take_85 ?_
        refine xaload_n h0 0 dX0_take_88 rfl rfl ?_
        refine xget (C := RX0) (T := TX0) (N := 8) (ci := 0) (v := .ref b0) h0 hiX0 9 rfl rfl 0 (by decide) (List.mem_of_getElem? (i := 1) rfl) rfl dX0_take_89 ?_
        refine xcallV_v (nn := 1) (w2 := fun G_7 => ((wTown cI a T k mu tm dy) ++ ([(a0, .inr (0, [.ref b0, .ref c0, .int (nI o), .int (oI xo), .int (nI ((flS T xo Ls).length)), .int (nI von), .int (nI bt), .int (nI br)]))] ++ ((wWay cI b0 b1 w Gn) ++ (wWay cI c0 c1 w G_7))))) (wr := [(a 0, .inr (3, [.ref (a 1), .ref (a 2), .ref (a 3), .ref (a 4), .ref (a 5), .ref (a 6), .ref (a 7), .ref (a 8), .int (nI (T 5 0)), .int (nI (T 5 1)), .int (nI k), .int (nI tm), .int (nI dy)])), (a 1, .inl (cI, 8, .inl (fun i_ => nI (T 0 i_)))), (a 2, .inl (cI, 8, .inl (fun i_ => nI (T 1 i_)))), (a 3, .inl (cI, 8, .inl (fun i_ => nI (T 2 i_)))), (a 4, .inl (cI, 8, .inl (fun i_ => nI (T 3 i_)))), (a 5, .inl (cI, 8, .inl (fun i_ => nI (mtS T i_)))), (a 6, .inl (cI, 8, .inl (fun i_ => nI (rcS T mu i_)))), (a 7, .inl (cI, 8, .inl (fun i_ => nI (bkS T i_)))), (a 8, .inl (cI, 64, .inl (fun i_ => nI (T 4 i_)))), (a0, .inr (0, [.ref b0, .ref c0, .int (nI o), .int (oI xo), .int (nI ((flS T xo Ls).length)), .int (nI von), .int (nI bt), .int (nI br)]))]) (rest := []) h0 (c_X4_become (xL κ) D cI cC c0 c1 b0 b1 (bestS T o (flS T xo Ls)) w Gb Gn hGn) gX0_take_X4_become (by decide +kernel) rfl rfl rfl ⟨Nat.le_of_ble_eq_true rfl, Nat.le_of_ble_eq_true rfl⟩ ⟨by decide, by decide⟩ (fun _ _ _ _ h => h) (fun _ _ _ _ _ _ _ => trivial) rfl (Nat.le_of_ble_eq_true rfl) (q0 := 0) rfl rfl rfl [12, 13, 10, 11] [0, 1, 2, 3, 4, 5, 6, 7, 8, 9] [0, 1, 2, 3, 4, 5, 6, 7, 8, 9, 12, 13, 10, 11] ⟨rfl, rfl, rfl, rfl, rfl⟩ (fun _ => ⟨rfl, rfl⟩) dX0_take_92 (fun G_7 hG_8 => ?_)
        refine xaload_n h0 0 dX0_take_95 rfl rfl ?_
        refine xiload_n h0 2 dX0_take_96 rfl rfl ?_
        refine xput (ws' := ((wTown cI a T k mu tm dy) ++ ([(a0, .inr (0, [.ref b0, .ref c0, .int (nI o), .int (oI xo), .int (nI ((flS T xo Ls).length)), .int (nI von), .int (nI (tmS T w)), .int (nI br)]))] ++ ((wWay cI b0 b1 w Gn) ++ (wWay cI c0 c1 w G_7))))) (C := RX0) (T := TX0) (N := 8) (ci := 0) (ty := tyX0 6) h0 hiX0 tyX0 tyX0_ok nmX0 9 rfl rfl 6 (by decide) (List.mem_of_getElem? (i := 6) rfl) rfl (by decide +kernel) (rfl) (rfl) (Nat.le_of_ble_eq_true rfl) dX0_take_97 rfl ?_
        refine xaload_n h0 0 dX0_take_100 rfl rfl ?_
        refine xiload_n h0 3 dX0_take_101 rfl rfl ?_
        refine xput (ws' := ((wTown cI a T k mu tm dy) ++ ([(a0, .inr (0, [.ref b0, .ref c0, .int (nI o), .int (oI xo), .int (nI ((flS T xo Ls).length)), .int (nI von), .int (nI (tmS T w)), .int (nI (rgS T w))]))] ++ ((wWay cI b0 b1 w Gn) ++ (wWay cI c0 c1 w G_7))))) (C := RX0) (T := TX0) (N := 8) (ci := 0) (ty := tyX0 7) h0 hiX0 tyX0 tyX0_ok nmX0 9 rfl rfl 7 (by decide) (List.mem_of_getElem? (i := 7) rfl) rfl (by decide +kernel) (rfl) (rfl) (Nat.le_of_ble_eq_true rfl) dX0_take_102 rfl ?_
        refine xaload_n h0 0 dX0_take_105 rfl rfl ?_
        refine xdup h0 dX0_take_106 rfl ?_
        refine xget (C := RX0) (T := TX0) (N := 8) (ci := 0) (v := .int (nI ((flS T xo Ls).length))) h0 hiX0 9 rfl rfl 4 (by decide) (List.mem_of_getElem? (i := 3) rfl) rfl dX0_take_107 ?_
        refine xiconst (v := (nI 1)) h0 dX0_take_110 (by decide) ?_
        refine xiadd (v := (nI (((flS T xo Ls).length) + 1))) h0 dX0_take_111 (nI_add _ _) ?_
        refine xput (ws' := ((wTown cI a T k mu tm dy) ++ ([(a0, .inr (0, [.ref b0, .ref c0, .int (nI o), .int (oI xo), .int (nI (((flS T xo Ls).length) + 1)), .int (nI von), .int (nI (tmS T w)), .int (nI (rgS T w))]))] ++ ((wWay cI b0 b1 w Gn) ++ (wWay cI c0 c1 w G_7))))) (C := RX0) (T := TX0) (N := 8) (ci := 0) (ty := tyX0 4) h0 hiX0 tyX0 tyX0_ok nmX0 9 rfl rfl 4 (by decide) (List.mem_of_getElem? (i := 3) rfl) rfl (by decide +kernel) (rfl) (rfl) (Nat.le_of_ble_eq_true rfl) dX0_take_112 rfl ?_
        exact xvret h0 dX0_take_115 (G_7, tmS T w, rgS T w) (by rw [hF]; exact ⟨by rw [hbest]; exact hG_8, fun _ => by rw [hbest]; exact ⟨rfl, rfl⟩⟩) (by first | (rw [hF]; done) | (rw [hF, hbest, List.length_append, List.length_singleton, ← hv]))
      · skip
        have hne : flS T xo Ls ≠ [] := fun z => by rw [z] at c_6; exact absurd c_6 (by decide)
        have hbb := hb.2 hne
        refine xaload_n h0 0 dX0_take_75 rfl rfl ?_
        refine xiload_n h0 2 dX0_take_76 rfl rfl ?_
        refine xiload_n h0 3 dX0_take_77 rfl rfl ?_
        refine xcallV_i (nn := 2) (w2 := fun u_ => ((wTown cI a T k mu tm dy) ++ ([(a0, .inr (0, [.ref b0, .ref c0, .int (nI o), .int (oI xo), .int (nI ((flS T xo Ls).length)), .int (nI von), .int (nI bt), .int (nI br)]))] ++ ((wWay cI b0 b1 w Gn) ++ (wWay cI c0 c1 (bestS T o (flS T xo Ls)) Gb))))) (wr := [(a 0, .inr (3, [.ref (a 1), .ref (a 2), .ref (a 3), .ref (a 4), .ref (a 5), .ref (a 6), .ref (a 7), .ref (a 8), .int (nI (T 5 0)), .int (nI (T 5 1)), .int (nI k), .int (nI tm), .int (nI dy)])), (a 1, .inl (cI, 8, .inl (fun i_ => nI (T 0 i_)))), (a 2, .inl (cI, 8, .inl (fun i_ => nI (T 1 i_)))), (a 3, .inl (cI, 8, .inl (fun i_ => nI (T 2 i_)))), (a 4, .inl (cI, 8, .inl (fun i_ => nI (T 3 i_)))), (a 5, .inl (cI, 8, .inl (fun i_ => nI (mtS T i_)))), (a 6, .inl (cI, 8, .inl (fun i_ => nI (rcS T mu i_)))), (a 7, .inl (cI, 8, .inl (fun i_ => nI (bkS T i_)))), (a 8, .inl (cI, 64, .inl (fun i_ => nI (T 4 i_))))]) (rest := []) h0 (c_X0_isBetter (xL κ) D cI cC a0 b0 b1 c0 c1 o xo ((flS T xo Ls).length) von bt br w Gn (bestS T o (flS T xo Ls)) Gb (tmS T w) (rgS T w) (by omega) (by omega) (by omega) (by rw [hbb.1]; exact Nat.lt_of_le_of_lt (tmS_le hT hbl) (by decide)) (by rw [hbb.2]; exact Nat.lt_of_le_of_lt (rgS_le hT _) (by decide)) (by exact h8) (by exact hbl)) gX0_take_X0_isBetter (by decide +kernel) rfl rfl rfl ⟨Nat.le_of_ble_eq_true rfl, Nat.le_of_ble_eq_true rfl⟩ ⟨by decide, by decide⟩ (fun _ _ _ _ h => h) (fun _ _ _ _ _ _ _ => trivial) rfl (Nat.le_of_ble_eq_true rfl) (q0 := 0) rfl rfl rfl [9, 10, 11, 12, 13] [0, 1, 2, 3, 4, 5, 6, 7, 8] [0, 1, 2, 3, 4, 5, 6, 7, 8, 9, 10, 11, 12, 13] ⟨rfl, rfl, rfl, rfl, rfl⟩ (fun _ => ⟨rfl, rfl⟩) dX0_take_78 (fun r_11 u_ hr_10 => ?_)
        subst hr_10
        refine xbif_eq (tgt := 105) h0 dX0_take_81 (by decide)  (fun c_12 => ?_) (fun c_12 => ?_)
        · skip
          have hbest : bestS T o (flS T xo Ls ++ [w]) = bestS T o (flS T xo Ls) := bestS_n (fun z => z.elim (fun y => hne ((bestS_0 hFL).mp y)) (fun y => c_12 (by rw [hbb.1, hbb.2]; exact y)))
          refine xaload_n h0 0 dX0_take_105 rfl rfl ?_
          refine xdup h0 dX0_take_106 rfl ?_
          refine xget (C := RX0) (T := TX0) (N := 8) (ci := 0) (v := .int (nI ((flS T xo Ls).length))) h0 hiX0 9 rfl rfl 4 (by decide) (List.mem_of_getElem? (i := 3) rfl) rfl dX0_take_107 ?_
          refine xiconst (v := (nI 1)) h0 dX0_take_110 (by decide) ?_
          refine xiadd (v := (nI (((flS T xo Ls).length) + 1))) h0 dX0_take_111 (nI_add _ _) ?_
          refine xput (ws' := ((wTown cI a T k mu tm dy) ++ ([(a0, .inr (0, [.ref b0, .ref c0, .int (nI o), .int (oI xo), .int (nI (((flS T xo Ls).length) + 1)), .int (nI von), .int (nI bt), .int (nI br)]))] ++ ((wWay cI b0 b1 w Gn) ++ (wWay cI c0 c1 (bestS T o (flS T xo Ls)) Gb))))) (C := RX0) (T := TX0) (N := 8) (ci := 0) (ty := tyX0 4) h0 hiX0 tyX0 tyX0_ok nmX0 9 rfl rfl 4 (by decide) (List.mem_of_getElem? (i := 3) rfl) rfl (by decide +kernel) (rfl) (rfl) (Nat.le_of_ble_eq_true rfl) dX0_take_112 rfl ?_
          exact xvret h0 dX0_take_115 (Gb, bt, br) (by rw [hF]; exact ⟨by rw [hbest]; exact hb.1, fun _ => by rw [hbest]; exact hbb⟩) (by first | (rw [hF]; done) | (rw [hF, hbest, List.length_append, List.length_singleton, ← hv]))
        · skip
          have hbest : bestS T o (flS T xo Ls ++ [w]) = w := bestS_y (Or.inr (by rw [hbb.1, hbb.2] at c_12; exact c_12))
          refine xaload_n h0 0 dX0_take_84 rfl rfl ?_
          refine xget (C := RX0) (T := TX0) (N := 8) (ci := 0) (v := .ref c0) h0 hiX0 9 rfl rfl 1 (by decide) (List.mem_of_getElem? (i := 5) rfl) rfl dX0_take_85 ?_
          refine xaload_n h0 0 dX0_take_88 rfl rfl ?_
          refine xget (C := RX0) (T := TX0) (N := 8) (ci := 0) (v := .ref b0) h0 hiX0 9 rfl rfl 0 (by decide) (List.mem_of_getElem? (i := 1) rfl) rfl dX0_take_89 ?_
          refine xcallV_v (nn := 1) (w2 := fun G_13 => ((wTown cI a T k mu tm dy) ++ ([(a0, .inr (0, [.ref b0, .ref c0, .int (nI o), .int (oI xo), .int (nI ((flS T xo Ls).length)), .int (nI von), .int (nI bt), .int (nI br)]))] ++ ((wWay cI b0 b1 w Gn) ++ (wWay cI c0 c1 w G_13))))) (wr := [(a 0, .inr (3, [.ref (a 1), .ref (a 2), .ref (a 3), .ref (a 4), .ref (a 5), .ref (a 6), .ref (a 7), .ref (a 8), .int (nI (T 5 0)), .int (nI (T 5 1)), .int (nI k), .int (nI tm), .int (nI dy)])), (a 1, .inl (cI, 8, .inl (fun i_ => nI (T 0 i_)))), (a 2, .inl (cI, 8, .inl (fun i_ => nI (T 1 i_)))), (a 3, .inl (cI, 8, .inl (fun i_ => nI (T 2 i_)))), (a 4, .inl (cI, 8, .inl (fun i_ => nI (T 3 i_)))), (a 5, .inl (cI, 8, .inl (fun i_ => nI (mtS T i_)))), (a 6, .inl (cI, 8, .inl (fun i_ => nI (rcS T mu i_)))), (a 7, .inl (cI, 8, .inl (fun i_ => nI (bkS T i_)))), (a 8, .inl (cI, 64, .inl (fun i_ => nI (T 4 i_)))), (a0, .inr (0, [.ref b0, .ref c0, .int (nI o), .int (oI xo), .int (nI ((flS T xo Ls).length)), .int (nI von), .int (nI bt), .int (nI br)]))]) (rest := []) h0 (c_X4_become (xL κ) D cI cC c0 c1 b0 b1 (bestS T o (flS T xo Ls)) w Gb Gn hGn) gX0_take_X4_become (by decide +kernel) rfl rfl rfl ⟨Nat.le_of_ble_eq_true rfl, Nat.le_of_ble_eq_true rfl⟩ ⟨by decide, by decide⟩ (fun _ _ _ _ h => h) (fun _ _ _ _ _ _ _ => trivial) rfl (Nat.le_of_ble_eq_true rfl) (q0 := 0) rfl rfl rfl [12, 13, 10, 11] [0, 1, 2, 3, 4, 5, 6, 7, 8, 9] [0, 1, 2, 3, 4, 5, 6, 7, 8, 9, 12, 13, 10, 11] ⟨rfl, rfl, rfl, rfl, rfl⟩ (fun _ => ⟨rfl, rfl⟩) dX0_take_92 (fun G_13 hG_14 => ?_)
          refine xaload_n h0 0 dX0_take_95 rfl rfl ?_
          refine xiload_n h0 2 dX0_take_96 rfl rfl ?_
          refine xput (ws' := ((wTown cI a T k mu tm dy) ++ ([(a0, .inr (0, [.ref b0, .ref c0, .int (nI o), .int (oI xo), .int (nI ((flS T xo Ls).length)), .int (nI von), .int (nI (tmS T w)), .int (nI br)]))] ++ ((wWay cI b0 b1 w Gn) ++ (wWay cI c0 c1 w G_13))))) (C := RX0) (T := TX0) (N := 8) (ci := 0) (ty := tyX0 6) h0 hiX0 tyX0 tyX0_ok nmX0 9 rfl rfl 6 (by decide) (List.mem_of_getElem? (i := 6) rfl) rfl (by decide +kernel) (rfl) (rfl) (Nat.le_of_ble_eq_true rfl) dX0_take_97 rfl ?_
          refine xaload_n h0 0 dX0_take_100 rfl rfl ?_
          refine xiload_n h0 3 dX0_take_101 rfl rfl ?_
          refine xput (ws' := ((wTown cI a T k mu tm dy) ++ ([(a0, .inr (0, [.ref b0, .ref c0, .int (nI o), .int (oI xo), .int (nI ((flS T xo Ls).length)), .int (nI von), .int (nI (tmS T w)), .int (nI (rgS T w))]))] ++ ((wWay cI b0 b1 w Gn) ++ (wWay cI c0 c1 w G_13))))) (C := RX0) (T := TX0) (N := 8) (ci := 0) (ty := tyX0 7) h0 hiX0 tyX0 tyX0_ok nmX0 9 rfl rfl 7 (by decide) (List.mem_of_getElem? (i := 7) rfl) rfl (by decide +kernel) (rfl) (rfl) (Nat.le_of_ble_eq_true rfl) dX0_take_102 rfl ?_
          refine xaload_n h0 0 dX0_take_105 rfl rfl ?_
          refine xdup h0 dX0_take_106 rfl ?_
          refine xget (C := RX0) (T := TX0) (N := 8) (ci := 0) (v := .int (nI ((flS T xo Ls).length))) h0 hiX0 9 rfl rfl 4 (by decide) (List.mem_of_getElem? (i := 3) rfl) rfl dX0_take_107 ?_
          refine xiconst (v := (nI 1)) h0 dX0_take_110 (by decide) ?_
          refine xiadd (v := (nI (((flS T xo Ls).length) + 1))) h0 dX0_take_111 (nI_add _ _) ?_
          refine xput (ws' := ((wTown cI a T k mu tm dy) ++ ([(a0, .inr (0, [.ref b0, .ref c0, .int (nI o), .int (oI xo), .int (nI (((flS T xo Ls).length) + 1)), .int (nI von), .int (nI (tmS T w)), .int (nI (rgS T w))]))] ++ ((wWay cI b0 b1 w Gn) ++ (wWay cI c0 c1 w G_13))))) (C := RX0) (T := TX0) (N := 8) (ci := 0) (ty := tyX0 4) h0 hiX0 tyX0 tyX0_ok nmX0 9 rfl rfl 4 (by decide) (List.mem_of_getElem? (i := 3) rfl) rfl (by decide +kernel) (rfl) (rfl) (Nat.le_of_ble_eq_true rfl) dX0_take_112 rfl ?_
          exact xvret h0 dX0_take_115 (G_13, tmS T w, rgS T w) (by rw [hF]; exact ⟨by rw [hbest]; exact hG_14, fun _ => by rw [hbest]; exact ⟨rfl, rfl⟩⟩) (by first | (rw [hF]; done) | (rw [hF, hbest, List.length_append, List.length_singleton, ← hv]))
    refine xnif_ne (tgt := 53) h0 dX0_take_40 (by decide) (by omega) (fun c_16 => ?_) (fun c_16 => ?_)
    · skip
      refine xaload_n h0 2 dX0_take_53 rfl rfl ?_
      refine xget (C := RX0) (T := TX0) (N := 8) (ci := 0) (v := .int (nI (onS (flS T xo Ls)))) h0 hiX0 9 rfl rfl 5 (by decide) (List.mem_of_getElem? (i := 4) rfl) rfl dX0_take_54 ?_
      refine xaload_n h0 2 dX0_take_57 rfl rfl ?_
      refine xget (C := RX0) (T := TX0) (N := 8) (ci := 0) (v := .ref b0) h0 hiX0 9 rfl rfl 0 (by decide) (List.mem_of_getElem? (i := 1) rfl) rfl dX0_take_58 ?_
      refine xgetN (C := RX4) (T := TX4) (N := 3) (ci := 4) (host := "AskAnotherFirst") (v := .int (nI (mskL (w)))) h0 hiX4 10 rfl rfl 2 (by decide) (List.mem_of_getElem? (i := 13) rfl) rfl dX0_take_61 ?_
      refine xiand (v := (nI ((onS (flS T xo Ls)) &&& (mskL (w))))) h0 dX0_take_64 (nx_and _ _) ?_
      refine xlv [2, 3, 1, 0] rfl ?_
      exact jn ((onS (flS T xo Ls)) &&& (mskL (w))) (by first | exact (onS_1 (by assumption) hw256).symm | exact (onS_2 w (by assumption)).symm)
    · skip
      refine xaload_n h0 2 dX0_take_43 rfl rfl ?_
      refine xget (C := RX0) (T := TX0) (N := 8) (ci := 0) (v := .ref b0) h0 hiX0 9 rfl rfl 0 (by decide) (List.mem_of_getElem? (i := 1) rfl) rfl dX0_take_44 ?_
      refine xgetN (C := RX4) (T := TX4) (N := 3) (ci := 4) (host := "AskAnotherFirst") (v := .int (nI (mskL (w)))) h0 hiX4 10 rfl rfl 2 (by decide) (List.mem_of_getElem? (i := 13) rfl) rfl dX0_take_47 ?_
      refine xgoto (tgt := 65) h0 dX0_take_50 (by decide) ?_
      refine xlv [2, 3, 1, 0] rfl ?_
      exact jn (mskL (w)) (by first | exact (onS_1 (by assumption) hw256).symm | exact (onS_2 w (by assumption)).symm)
  · skip
    obtain ⟨t0, ht0⟩ := oI_s c_3
    have ht1 := hx t0 ht0
    refine xiload_n h0 0 dX0_take_17 rfl rfl ?_
    refine xaload_n h0 1 dX0_take_18 rfl rfl ?_
    refine xget (C := RX0) (T := TX0) (N := 8) (ci := 0) (v := .int (oI xo)) h0 hiX0 9 rfl rfl 3 (by decide) (List.mem_of_getElem? (i := 2) rfl) rfl dX0_take_19 ?_
    refine xtop (v' := nI t0) (oI_t ht0) ?_
    refine xncmp_eq (tgt := 26) h0 dX0_take_22 (by decide) (by omega) (by omega) (fun c_17 => ?_) (fun c_17 => ?_)
    · skip
      have hfb : fbS T xo w = true := by rw [ht0]; exact beqT c_17
      have hF : flS T xo (Ls ++ [w]) = flS T xo Ls ++ [w] := flS_y Ls hfb
      refine xaload_n h0 2 dX0_take_26 rfl rfl ?_
      refine xaload_n h0 1 dX0_take_27 rfl rfl ?_
      refine xget (C := RX0) (T := TX0) (N := 8) (ci := 0) (v := .ref b0) h0 hiX0 9 rfl rfl 0 (by decide) (List.mem_of_getElem? (i := 1) rfl) rfl dX0_take_28 ?_
      refine xcallV_i (nn := 1) (w2 := fun u_ => ((wTown cI a T k mu tm dy) ++ ([(a0, .inr (0, [.ref b0, .ref c0, .int (nI o), .int (oI xo), .int (nI ((flS T xo Ls).length)), .int (nI (onS (flS T xo Ls))), .int (nI bt), .int (nI br)]))] ++ ((wWay cI b0 b1 w Gn) ++ (wWay cI c0 c1 (bestS T o (flS T xo Ls)) Gb))))) (wr := [(a0, .inr (0, [.ref b0, .ref c0, .int (nI o), .int (oI xo), .int (nI ((flS T xo Ls).length)), .int (nI (onS (flS T xo Ls))), .int (nI bt), .int (nI br)])), (c0, .inr (4, [.ref c1, .int (nI ((bestS T o (flS T xo Ls)).length)), .int (nI (mskL (bestS T o (flS T xo Ls))))])), (c1, .inl (cI, 8, .inl (fun i_ => nI (Gb i_))))]) (rest := []) h0 (c_X3_rightOf (xL κ) D cI cC a T k mu tm dy b0 b1 w Gn hT hGn (by first | assumption | omega) (by first | assumption | omega) (by assumption)) gX0_take_X3_rightOf (by decide +kernel) rfl rfl rfl ⟨Nat.le_of_ble_eq_true rfl, Nat.le_of_ble_eq_true rfl⟩ ⟨by decide, by decide⟩ (fun _ _ _ _ h => h) (fun _ _ _ _ _ _ _ => trivial) rfl (Nat.le_of_ble_eq_true rfl) (q0 := 0) rfl rfl rfl [0, 1, 2, 3, 4, 5, 6, 7, 8, 10, 11] [9, 12, 13] [3, 4, 5, 6, 7, 8, 9, 10, 11, 0, 12, 13, 1, 2] ⟨rfl, rfl, rfl, rfl, rfl⟩ (fun _ => ⟨rfl, rfl⟩) dX0_take_31 (fun r_19 u_ hr_18 => ?_)
      subst hr_18
      refine xistore_n (lv' := [(3, .int (nI (rgS T w))), (2, .int (nI (tmS T w))), (0, .ref a0), (1, .ref (a 0))]) h0 dX0_take_34 rfl (by decide) rfl ?_
      refine xaload_n h0 2 dX0_take_35 rfl rfl ?_
      refine xaload_n h0 2 dX0_take_36 rfl rfl ?_
      refine xget (C := RX0) (T := TX0) (N := 8) (ci := 0) (v := .int (nI ((flS T xo Ls).length))) h0 hiX0 9 rfl rfl 4 (by decide) (List.mem_of_getElem? (i := 3) rfl) rfl dX0_take_37 ?_
      have jn : ∀ (von : Nat), (von = onS (flS T xo Ls ++ [w])) → XG κ 4 D (xT cI cC) A (xQv (S := (Nat → Nat) × Nat × Nat) κ D (xT cI cC) A (fun u => okB T o (flS T xo (Ls ++ [w])) u.1 u.2.1 u.2.2) (fun u => wTown cI a T k mu tm dy ++ ([(a0, .inr (0, [.ref b0, .ref c0, .int (nI o), .int (oI xo), .int (nI (flS T xo (Ls ++ [w])).length), .int (nI (onS (flS T xo (Ls ++ [w])))), .int (nI u.2.1), .int (nI u.2.2)]))] ++ (wWay cI b0 b1 w Gn ++ wWay cI c0 c1 (bestS T o (flS T xo (Ls ++ [w]))) u.1))) 0 0) ((wTown cI a T k mu tm dy) ++ ([(a0, .inr (0, [.ref b0, .ref c0, .int (nI o), .int (oI xo), .int (nI ((flS T xo Ls).length)), .int (nI (onS (flS T xo Ls))), .int (nI bt), .int (nI br)]))] ++ ((wWay cI b0 b1 w Gn) ++ (wWay cI c0 c1 (bestS T o (flS T xo Ls)) Gb)))) 0 0 65 [(0, .ref a0), (1, .ref (a 0)), (2, .int (nI (tmS T w))), (3, .int (nI (rgS T w)))] [.int (nI von), .ref a0] := by
        intro von hv
        refine xput (ws' := ((wTown cI a T k mu tm dy) ++ ([(a0, .inr (0, [.ref b0, .ref c0, .int (nI o), .int (oI xo), .int (nI ((flS T xo Ls).length)), .int (nI von), .int (nI bt), .int (nI br)]))] ++ ((wWay cI b0 b1 w Gn) ++ (wWay cI c0 c1 (bestS T o (flS T xo Ls)) Gb))))) (C := RX0) (T := TX0) (N := 8) (ci := 0) (ty := tyX0 5) h0 hiX0 tyX0 tyX0_ok nmX0 9 rfl rfl 5 (by decide) (List.mem_of_getElem? (i := 4) rfl) rfl (by decide +kernel) (rfl) (rfl) (Nat.le_of_ble_eq_true rfl) dX0_take_65 rfl ?_
        refine xaload_n h0 0 dX0_take_68 rfl rfl ?_
        refine xget (C := RX0) (T := TX0) (N := 8) (ci := 0) (v := .int (nI ((flS T xo Ls).length))) h0 hiX0 9 rfl rfl 4 (by decide) (List.mem_of_getElem? (i := 3) rfl) rfl dX0_take_69 ?_
        refine xnif_eq (tgt := 84) h0 dX0_take_72 (by decide) (by omega) (fun c_20 => ?_) (fun c_20 => ?_)
        · skip
          have hbest : bestS T o (flS T xo Ls ++ [w]) = w := bestS_y (Or.inl ((bestS_0 hFL).mpr (List.length_eq_zero_iff.mp c_20)))
          refine xaload_n h0 0 dX0_take_84 rfl rfl ?_
          refine xget (C := RX0) (T := TX0) (N := 8) (ci := 0) (v := .ref c0) h0 hiX0 9 rfl rfl 1 (by decide) (List.mem_of_getElem? (i := 5) rfl) rfl dX0_take_85 ?_
          refine xaload_n h0 0 dX0_take_88 rfl rfl ?_
          refine xget (C := RX0) (T := TX0) (N := 8) (ci := 0) (v := .ref b0) h0 hiX0 9 rfl rfl 0 (by decide) (List.mem_of_getElem? (i := 1) rfl) rfl dX0_take_89 ?_
          refine xcallV_v (nn := 1) (w2 := fun G_21 => ((wTown cI a T k mu tm dy) ++ ([(a0, .inr (0, [.ref b0, .ref c0, .int (nI o), .int (oI xo), .int (nI ((flS T xo Ls).length)), .int (nI von), .int (nI bt), .int (nI br)]))] ++ ((wWay cI b0 b1 w Gn) ++ (wWay cI c0 c1 w G_21))))) (wr := [(a 0, .inr (3, [.ref (a 1), .ref (a 2), .ref (a 3), .ref (a 4), .ref (a 5), .ref (a 6), .ref (a 7), .ref (a 8), .int (nI (T 5 0)), .int (nI (T 5 1)), .int (nI k), .int (nI tm), .int (nI dy)])), (a 1, .inl (cI, 8, .inl (fun i_ => nI (T 0 i_)))), (a 2, .inl (cI, 8, .inl (fun i_ => nI (T 1 i_)))), (a 3, .inl (cI, 8, .inl (fun i_ => nI (T 2 i_)))), (a 4, .inl (cI, 8, .inl (fun i_ => nI (T 3 i_)))), (a 5, .inl (cI, 8, .inl (fun i_ => nI (mtS T i_)))), (a 6, .inl (cI, 8, .inl (fun i_ => nI (rcS T mu i_)))), (a 7, .inl (cI, 8, .inl (fun i_ => nI (bkS T i_)))), (a 8, .inl (cI, 64, .inl (fun i_ => nI (T 4 i_)))), (a0, .inr (0, [.ref b0, .ref c0, .int (nI o), .int (oI xo), .int (nI ((flS T xo Ls).length)), .int (nI von), .int (nI bt), .int (nI br)]))]) (rest := []) h0 (c_X4_become (xL κ) D cI cC c0 c1 b0 b1 (bestS T o (flS T xo Ls)) w Gb Gn hGn) gX0_take_X4_become (by decide +kernel) rfl rfl rfl ⟨Nat.le_of_ble_eq_true rfl, Nat.le_of_ble_eq_true rfl⟩ ⟨by decide, by decide⟩ (fun _ _ _ _ h => h) (fun _ _ _ _ _ _ _ => trivial) rfl (Nat.le_of_ble_eq_true rfl) (q0 := 0) rfl rfl rfl [12, 13, 10, 11] [0, 1, 2, 3, 4, 5, 6, 7, 8, 9] [0, 1, 2, 3, 4, 5, 6, 7, 8, 9, 12, 13, 10, 11] ⟨rfl, rfl, rfl, rfl, rfl⟩ (fun _ => ⟨rfl, rfl⟩) dX0_take_92 (fun G_21 hG_22 => ?_)
          refine xaload_n h0 0 dX0_take_95 rfl rfl ?_
          refine xiload_n h0 2 dX0_take_96 rfl rfl ?_
          refine xput (ws' := ((wTown cI a T k mu tm dy) ++ ([(a0, .inr (0, [.ref b0, .ref c0, .int (nI o), .int (oI xo), .int (nI ((flS T xo Ls).length)), .int (nI von), .int (nI (tmS T w)), .int (nI br)]))] ++ ((wWay cI b0 b1 w Gn) ++ (wWay cI c0 c1 w G_21))))) (C := RX0) (T := TX0) (N := 8) (ci := 0) (ty := tyX0 6) h0 hiX0 tyX0 tyX0_ok nmX0 9 rfl rfl 6 (by decide) (List.mem_of_getElem? (i := 6) rfl) rfl (by decide +kernel) (rfl) (rfl) (Nat.le_of_ble_eq_true rfl) dX0_take_97 rfl ?_
          refine xaload_n h0 0 dX0_take_100 rfl rfl ?_
          refine xiload_n h0 3 dX0_take_101 rfl rfl ?_
          refine xput (ws' := ((wTown cI a T k mu tm dy) ++ ([(a0, .inr (0, [.ref b0, .ref c0, .int (nI o), .int (oI xo), .int (nI ((flS T xo Ls).length)), .int (nI von), .int (nI (tmS T w)), .int (nI (rgS T w))]))] ++ ((wWay cI b0 b1 w Gn) ++ (wWay cI c0 c1 w G_21))))) (C := RX0) (T := TX0) (N := 8) (ci := 0) (ty := tyX0 7) h0 hiX0 tyX0 tyX0_ok nmX0 9 rfl rfl 7 (by decide) (List.mem_of_getElem? (i := 7) rfl) rfl (by decide +kernel) (rfl) (rfl) (Nat.le_of_ble_eq_true rfl) dX0_take_102 rfl ?_
          refine xaload_n h0 0 dX0_take_105 rfl rfl ?_
          refine xdup h0 dX0_take_106 rfl ?_
          refine xget (C := RX0) (T := TX0) (N := 8) (ci := 0) (v := .int (nI ((flS T xo Ls).length))) h0 hiX0 9 rfl rfl 4 (by decide) (List.mem_of_getElem? (i := 3) rfl) rfl dX0_take_107 ?_
          refine xiconst (v := (nI 1)) h0 dX0_take_110 (by decide) ?_
          refine xiadd (v := (nI (((flS T xo Ls).length) + 1))) h0 dX0_take_111 (nI_add _ _) ?_
          refine xput (ws' := ((wTown cI a T k mu tm dy) ++ ([(a0, .inr (0, [.ref b0, .ref c0, .int (nI o), .int (oI xo), .int (nI (((flS T xo Ls).length) + 1)), .int (nI von), .int (nI (tmS T w)), .int (nI (rgS T w))]))] ++ ((wWay cI b0 b1 w Gn) ++ (wWay cI c0 c1 w G_21))))) (C := RX0) (T := TX0) (N := 8) (ci := 0) (ty := tyX0 4) h0 hiX0 tyX0 tyX0_ok nmX0 9 rfl rfl 4 (by decide) (List.mem_of_getElem? (i := 3) rfl) rfl (by decide +kernel) (rfl) (rfl) (Nat.le_of_ble_eq_true rfl) dX0_take_112 rfl ?_
          exact xvret h0 dX0_take_115 (G_21, tmS T w, rgS T w) (by rw [hF]; exact ⟨by rw [hbest]; exact hG_22, fun _ => by rw [hbest]; exact ⟨rfl, rfl⟩⟩) (by first | (rw [hF]; done) | (rw [hF, hbest, List.length_append, List.length_singleton, ← hv]))
        · skip
          have hne : flS T xo Ls ≠ [] := fun z => by rw [z] at c_20; exact absurd c_20 (by decide)
          have hbb := hb.2 hne
          refine xaload_n h0 0 dX0_take_75 rfl rfl ?_
          refine xiload_n h0 2 dX0_take_76 rfl rfl ?_
          refine xiload_n h0 3 dX0_take_77 rfl rfl ?_
          refine xcallV_i (nn := 2) (w2 := fun u_ => ((wTown cI a T k mu tm dy) ++ ([(a0, .inr (0, [.ref b0, .ref c0, .int (nI o), .int (oI xo), .int (nI ((flS T xo Ls).length)), .int (nI von), .int (nI bt), .int (nI br)]))] ++ ((wWay cI b0 b1 w Gn) ++ (wWay cI c0 c1 (bestS T o (flS T xo Ls)) Gb))))) (wr := [(a 0, .inr (3, [.ref (a 1), .ref (a 2), .ref (a 3), .ref (a 4), .ref (a 5), .ref (a 6), .ref (a 7), .ref (a 8), .int (nI (T 5 0)), .int (nI (T 5 1)), .int (nI k), .int (nI tm), .int (nI dy)])), (a 1, .inl (cI, 8, .inl (fun i_ => nI (T 0 i_)))), (a 2, .inl (cI, 8, .inl (fun i_ => nI (T 1 i_)))), (a 3, .inl (cI, 8, .inl (fun i_ => nI (T 2 i_)))), (a 4, .inl (cI, 8, .inl (fun i_ => nI (T 3 i_)))), (a 5, .inl (cI, 8, .inl (fun i_ => nI (mtS T i_)))), (a 6, .inl (cI, 8, .inl (fun i_ => nI (rcS T mu i_)))), (a 7, .inl (cI, 8, .inl (fun i_ => nI (bkS T i_)))), (a 8, .inl (cI, 64, .inl (fun i_ => nI (T 4 i_))))]) (rest := []) h0 (c_X0_isBetter (xL κ) D cI cC a0 b0 b1 c0 c1 o xo ((flS T xo Ls).length) von bt br w Gn (bestS T o (flS T xo Ls)) Gb (tmS T w) (rgS T w) (by omega) (by omega) (by omega) (by rw [hbb.1]; exact Nat.lt_of_le_of_lt (tmS_le hT hbl) (by decide)) (by rw [hbb.2]; exact Nat.lt_of_le_of_lt (rgS_le hT _) (by decide)) (by exact h8) (by exact hbl)) gX0_take_X0_isBetter (by decide +kernel) rfl rfl rfl ⟨Nat.le_of_ble_eq_true rfl, Nat.le_of_ble_eq_true rfl⟩ ⟨by decide, by decide⟩ (fun _ _ _ _ h => h) (fun _ _ _ _ _ _ _ => trivial) rfl (Nat.le_of_ble_eq_true rfl) (q0 := 0) rfl rfl rfl [9, 10, 11, 12, 13] [0, 1, 2, 3, 4, 5, 6, 7, 8] [0, 1, 2, 3, 4, 5, 6, 7, 8, 9, 10, 11, 12, 13] ⟨rfl, rfl, rfl, rfl, rfl⟩ (fun _ => ⟨rfl, rfl⟩) dX0_take_78 (fun r_25 u_ hr_24 => ?_)
          subst hr_24
          refine xbif_eq (tgt := 105) h0 dX0_take_81 (by decide)  (fun c_26 => ?_) (fun c_26 => ?_)
          · skip
            have hbest : bestS T o (flS T xo Ls ++ [w]) = bestS T o (flS T xo Ls) := bestS_n (fun z => z.elim (fun y => hne ((bestS_0 hFL).mp y)) (fun y => c_26 (by rw [hbb.1, hbb.2]; exact y)))
            refine xaload_n h0 0 dX0_take_105 rfl rfl ?_
            refine xdup h0 dX0_take_106 rfl ?_
            refine xget (C := RX0) (T := TX0) (N := 8) (ci := 0) (v := .int (nI ((flS T xo Ls).length))) h0 hiX0 9 rfl rfl 4 (by decide) (List.mem_of_getElem? (i := 3) rfl) rfl dX0_take_107 ?_
            refine xiconst (v := (nI 1)) h0 dX0_take_110 (by decide) ?_
            refine xiadd (v := (nI (((flS T xo Ls).length) + 1))) h0 dX0_take_111 (nI_add _ _) ?_
            refine xput (ws' := ((wTown cI a T k mu tm dy) ++ ([(a0, .inr (0, [.ref b0, .ref c0, .int (nI o), .int (oI xo), .int (nI (((flS T xo Ls).length) + 1)), .int (nI von), .int (nI bt), .int (nI br)]))] ++ ((wWay cI b0 b1 w Gn) ++ (wWay cI c0 c1 (bestS T o (flS T xo Ls)) Gb))))) (C := RX0) (T := TX0) (N := 8) (ci := 0) (ty := tyX0 4) h0 hiX0 tyX0 tyX0_ok nmX0 9 rfl rfl 4 (by decide) (List.mem_of_getElem? (i := 3) rfl) rfl (by decide +kernel) (rfl) (rfl) (Nat.le_of_ble_eq_true rfl) dX0_take_112 rfl ?_
            exact xvret h0 dX0_take_115 (Gb, bt, br) (by rw [hF]; exact ⟨by rw [hbest]; exact hb.1, fun _ => by rw [hbest]; exact hbb⟩) (by first | (rw [hF]; done) | (rw [hF, hbest, List.length_append, List.length_singleton, ← hv]))
          · skip
            have hbest : bestS T o (flS T xo Ls ++ [w]) = w := bestS_y (Or.inr (by rw [hbb.1, hbb.2] at c_26; exact c_26))
            refine xaload_n h0 0 dX0_take_84 rfl rfl ?_
            refine xget (C := RX0) (T := TX0) (N := 8) (ci := 0) (v := .ref c0) h0 hiX0 9 rfl rfl 1 (by decide) (List.mem_of_getElem? (i := 5) rfl) rfl dX0_take_85 ?_
            refine xaload_n h0 0 dX0_take_88 rfl rfl ?_
            refine xget (C := RX0) (T := TX0) (N := 8) (ci := 0) (v := .ref b0) h0 hiX0 9 rfl rfl 0 (by decide) (List.mem_of_getElem? (i := 1) rfl) rfl dX0_take_89 ?_
            refine xcallV_v (nn := 1) (w2 := fun G_27 => ((wTown cI a T k mu tm dy) ++ ([(a0, .inr (0, [.ref b0, .ref c0, .int (nI o), .int (oI xo), .int (nI ((flS T xo Ls).length)), .int (nI von), .int (nI bt), .int (nI br)]))] ++ ((wWay cI b0 b1 w Gn) ++ (wWay cI c0 c1 w G_27))))) (wr := [(a 0, .inr (3, [.ref (a 1), .ref (a 2), .ref (a 3), .ref (a 4), .ref (a 5), .ref (a 6), .ref (a 7), .ref (a 8), .int (nI (T 5 0)), .int (nI (T 5 1)), .int (nI k), .int (nI tm), .int (nI dy)])), (a 1, .inl (cI, 8, .inl (fun i_ => nI (T 0 i_)))), (a 2, .inl (cI, 8, .inl (fun i_ => nI (T 1 i_)))), (a 3, .inl (cI, 8, .inl (fun i_ => nI (T 2 i_)))), (a 4, .inl (cI, 8, .inl (fun i_ => nI (T 3 i_)))), (a 5, .inl (cI, 8, .inl (fun i_ => nI (mtS T i_)))), (a 6, .inl (cI, 8, .inl (fun i_ => nI (rcS T mu i_)))), (a 7, .inl (cI, 8, .inl (fun i_ => nI (bkS T i_)))), (a 8, .inl (cI, 64, .inl (fun i_ => nI (T 4 i_)))), (a0, .inr (0, [.ref b0, .ref c0, .int (nI o), .int (oI xo), .int (nI ((flS T xo Ls).length)), .int (nI von), .int (nI bt), .int (nI br)]))]) (rest := []) h0 (c_X4_become (xL κ) D cI cC c0 c1 b0 b1 (bestS T o (flS T xo Ls)) w Gb Gn hGn) gX0_take_X4_become (by decide +kernel) rfl rfl rfl ⟨Nat.le_of_ble_eq_true rfl, Nat.le_of_ble_eq_true rfl⟩ ⟨by decide, by decide⟩ (fun _ _ _ _ h => h) (fun _ _ _ _ _ _ _ => trivial) rfl (Nat.le_of_ble_eq_true rfl) (q0 := 0) rfl rfl rfl [12, 13, 10, 11] [0, 1, 2, 3, 4, 5, 6, 7, 8, 9] [0, 1, 2, 3, 4, 5, 6, 7, 8, 9, 12, 13, 10, 11] ⟨rfl, rfl, rfl, rfl, rfl⟩ (fun _ => ⟨rfl, rfl⟩) dX0_take_92 (fun G_27 hG_28 => ?_)
            refine xaload_n h0 0 dX0_take_95 rfl rfl ?_
            refine xiload_n h0 2 dX0_take_96 rfl rfl ?_
            refine xput (ws' := ((wTown cI a T k mu tm dy) ++ ([(a0, .inr (0, [.ref b0, .ref c0, .int (nI o), .int (oI xo), .int (nI ((flS T xo Ls).length)), .int (nI von), .int (nI (tmS T w)), .int (nI br)]))] ++ ((wWay cI b0 b1 w Gn) ++ (wWay cI c0 c1 w G_27))))) (C := RX0) (T := TX0) (N := 8) (ci := 0) (ty := tyX0 6) h0 hiX0 tyX0 tyX0_ok nmX0 9 rfl rfl 6 (by decide) (List.mem_of_getElem? (i := 6) rfl) rfl (by decide +kernel) (rfl) (rfl) (Nat.le_of_ble_eq_true rfl) dX0_take_97 rfl ?_
            refine xaload_n h0 0 dX0_take_100 rfl rfl ?_
            refine xiload_n h0 3 dX0_take_101 rfl rfl ?_
            refine xput (ws' := ((wTown cI a T k mu tm dy) ++ ([(a0, .inr (0, [.ref b0, .ref c0, .int (nI o), .int (oI xo), .int (nI ((flS T xo Ls).length)), .int (nI von), .int (nI (tmS T w)), .int (nI (rgS T w))]))] ++ ((wWay cI b0 b1 w Gn) ++ (wWay cI c0 c1 w G_27))))) (C := RX0) (T := TX0) (N := 8) (ci := 0) (ty := tyX0 7) h0 hiX0 tyX0 tyX0_ok nmX0 9 rfl rfl 7 (by decide) (List.mem_of_getElem? (i := 7) rfl) rfl (by decide +kernel) (rfl) (rfl) (Nat.le_of_ble_eq_true rfl) dX0_take_102 rfl ?_
            refine xaload_n h0 0 dX0_take_105 rfl rfl ?_
            refine xdup h0 dX0_take_106 rfl ?_
            refine xget (C := RX0) (T := TX0) (N := 8) (ci := 0) (v := .int (nI ((flS T xo Ls).length))) h0 hiX0 9 rfl rfl 4 (by decide) (List.mem_of_getElem? (i := 3) rfl) rfl dX0_take_107 ?_
            refine xiconst (v := (nI 1)) h0 dX0_take_110 (by decide) ?_
            refine xiadd (v := (nI (((flS T xo Ls).length) + 1))) h0 dX0_take_111 (nI_add _ _) ?_
            refine xput (ws' := ((wTown cI a T k mu tm dy) ++ ([(a0, .inr (0, [.ref b0, .ref c0, .int (nI o), .int (oI xo), .int (nI (((flS T xo Ls).length) + 1)), .int (nI von), .int (nI (tmS T w)), .int (nI (rgS T w))]))] ++ ((wWay cI b0 b1 w Gn) ++ (wWay cI c0 c1 w G_27))))) (C := RX0) (T := TX0) (N := 8) (ci := 0) (ty := tyX0 4) h0 hiX0 tyX0 tyX0_ok nmX0 9 rfl rfl 4 (by decide) (List.mem_of_getElem? (i := 3) rfl) rfl (by decide +kernel) (rfl) (rfl) (Nat.le_of_ble_eq_true rfl) dX0_take_112 rfl ?_
            exact xvret h0 dX0_take_115 (G_27, tmS T w, rgS T w) (by rw [hF]; exact ⟨by rw [hbest]; exact hG_28, fun _ => by rw [hbest]; exact ⟨rfl, rfl⟩⟩) (by first | (rw [hF]; done) | (rw [hF, hbest, List.length_append, List.length_singleton, ← hv]))
      refine xnif_ne (tgt := 53) h0 dX0_take_40 (by decide) (by omega) (fun c_30 => ?_) (fun c_30 => ?_)
      · skip
        refine xaload_n h0 2 dX0_take_53 rfl rfl ?_
        refine xget (C := RX0) (T := TX0) (N := 8) (ci := 0) (v := .int (nI (onS (flS T xo Ls)))) h0 hiX0 9 rfl rfl 5 (by decide) (List.mem_of_getElem? (i := 4) rfl) rfl dX0_take_54 ?_
        refine xaload_n h0 2 dX0_take_57 rfl rfl ?_
        refine xget (C := RX0) (T := TX0) (N := 8) (ci := 0) (v := .ref b0) h0 hiX0 9 rfl rfl 0 (by decide) (List.mem_of_getElem? (i := 1) rfl) rfl dX0_take_58 ?_
        refine xgetN (C := RX4) (T := TX4) (N := 3) (ci := 4) (host := "AskAnotherFirst") (v := .int (nI (mskL (w)))) h0 hiX4 10 rfl rfl 2 (by decide) (List.mem_of_getElem? (i := 13) rfl) rfl dX0_take_61 ?_
        refine xiand (v := (nI ((onS (flS T xo Ls)) &&& (mskL (w))))) h0 dX0_take_64 (nx_and _ _) ?_
        refine xlv [2, 3, 1, 0] rfl ?_
        exact jn ((onS (flS T xo Ls)) &&& (mskL (w))) (by first | exact (onS_1 (by assumption) hw256).symm | exact (onS_2 w (by assumption)).symm)
      · skip
        refine xaload_n h0 2 dX0_take_43 rfl rfl ?_
        refine xget (C := RX0) (T := TX0) (N := 8) (ci := 0) (v := .ref b0) h0 hiX0 9 rfl rfl 0 (by decide) (List.mem_of_getElem? (i := 1) rfl) rfl dX0_take_44 ?_
        refine xgetN (C := RX4) (T := TX4) (N := 3) (ci := 4) (host := "AskAnotherFirst") (v := .int (nI (mskL (w)))) h0 hiX4 10 rfl rfl 2 (by decide) (List.mem_of_getElem? (i := 13) rfl) rfl dX0_take_47 ?_
        refine xgoto (tgt := 65) h0 dX0_take_50 (by decide) ?_
        refine xlv [2, 3, 1, 0] rfl ?_
        exact jn (mskL (w)) (by first | exact (onS_1 (by assumption) hw256).symm | exact (onS_2 w (by assumption)).symm)
    · skip
      have hfb : fbS T xo w = false := by rw [ht0]; exact beqF c_17
      have hF : flS T xo (Ls ++ [w]) = flS T xo Ls := flS_n Ls hfb
      exact xvret h0 dX0_take_25 (Gb, bt, br) (by rw [hF]; exact hb) (by first | (rw [hF]; done) | (rw [hF, hbest, List.length_append, List.length_singleton, ← hv]))
