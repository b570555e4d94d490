/-! THE REFERENCE: the tree, days, the row that is judged -/
theorem dy_s (T : TT) (z : Int32) (i : Nat) : dyK T z i + rgS T (wkS T (drS z (T 5 0) i) 0 8) = dyK T z (i + 1) := by rw [dyK]
theorem sd_s (z : Int32) (i : Nat) : sdN z i * nI 1664525 + nI 1013904223 = sdN z (i + 1) := by rw [sdN]

set_option maxHeartbeats 4000000 in
set_option maxRecDepth 100000 in
theorem r_X6_grow (D : va_G) (cI cC : ClassId) : ∀ (f : Nat) (l : Launch) (md : Nat → Nat) (T : TT) (k tm dy : Nat) (P : TT) (pk ptm pdy hpi : Nat) (tg : Nat → Nat) (tl : Nat) (R : Nat → Nat) (sg : Nat → Nat) (sl : Nat) (u0 : ScmT) (has mi : Nat) (p : Nat), (TOK T) → (k < 256) → (p < T 5 0) → (has < 256) → (has.testBit p = false) → (8 ≤ cdS has + f) → XMi l yX6_grow wsX6_grow (exR f) D (xT cI cC) xE0 (wM cI cC md T k tm dy P pk ptm pdy hpi tg tl R sg sl (upN (upN u0.1 48 has) 49 mi, u0.2.1, u0.2.2)) [.ref (md 1), .int (nI p)] (S := Unit) (fun r _ => r = nI (grS T k 8 f has p).2.2) (fun _ => wM cI cC md T k tm dy P pk ptm pdy hpi tg tl R sg sl (upN (upN u0.1 48 ((grS T k 8 f has p).1)) 49 (mi + 2 * (grS T k 8 f has p).2.1), u0.2.1, u0.2.2)) 0 0 := by
  intro f
  induction f with
  | zero => intro l md T k tm dy P pk ptm pdy hpi tg tl R sg sl u0 has mi p hT hk hp hh hbt hd; exact absurd trivial (by have h1 := hT.1; have h2 := cdS_add has hh p (by omega) hbt; have h3 := cdS_le (has ||| 2 ^ p); omega)
  | succ f ih =>
    intro l md T k tm dy P pk ptm pdy hpi tg tl R sg sl u0 has mi p hT hk hp hh hbt hd
    refine xMet_i (cc := cX6_grow) (nL := 7) (ret := some .int) (by decide +kernel) rfl (Nat.le_of_ble_eq_true rfl) (fun κ A h0 hn0 hE => ?_)
    have hiX6 : ∀ w ∈ u_ws RX6 TX6 52, w ∈ wsX6_grow := by decide +kernel
    refine xlv (lv' := [(0, .ref (md 1)), (1, .int (nI p))]) [0, 1] rfl ?_
    have hn := hT.1
    have hp8 : p < 8 := by omega
    have hH1 : has ||| 2 ^ p < 256 := or_lt256 hh (pw_lt256 hp8)
    have hc1 := cdS_add has hh p hp8 hbt
    have hc8 := cdS_le (has ||| 2 ^ p)
    refine xaload_n h0 0 dX6_grow_0 rfl rfl ?_
    refine xdup h0 dX6_grow_1 rfl ?_
    refine xget (C := RX6) (T := TX6) (N := 52) (ci := 6) (v := .int (nI has)) h0 hiX6 0 rfl rfl 48 (by decide) (List.mem_of_getElem? (i := 1) rfl) rfl dX6_grow_2 ?_
    refine xiconst (v := (nI 1)) h0 dX6_grow_5 (by decide) ?_
    refine xiload_n h0 1 dX6_grow_6 rfl rfl ?_
    refine xishl (v := (nI (2 ^ p))) h0 dX6_grow_7 (nI_shl1 p (by omega)) ?_
    refine xior (v := (nI (has ||| (2 ^ p)))) h0 dX6_grow_8 (nx_or _ _) ?_
    refine xput (ws' := (wM cI cC md T k tm dy P pk ptm pdy hpi tg tl R sg sl (upN (upN u0.1 48 (has ||| (2 ^ p))) 49 mi, u0.2.1, u0.2.2))) (C := RX6) (T := TX6) (N := 52) (ci := 6) (ty := tyX6 48) h0 hiX6 tyX6 tyX6_ok nmX6 0 rfl rfl 48 (by decide) (List.mem_of_getElem? (i := 1) rfl) rfl (by decide +kernel) (rfl) (rfl) (Nat.le_of_ble_eq_true rfl) dX6_grow_9 rfl ?_
    refine xiconst (v := (nI 0)) h0 dX6_grow_12 (by decide) ?_
    refine xistore_n (lv' := [(2, .int (nI 0)), (0, .ref (md 1)), (1, .int (nI p))]) h0 dX6_grow_13 rfl (by decide) rfl ?_
    refine xiconst (v := (nI 0)) h0 dX6_grow_14 (by decide) ?_
    refine xistore_n (lv' := [(3, .int (nI 0)), (2, .int (nI 0)), (0, .ref (md 1)), (1, .int (nI p))]) h0 dX6_grow_15 rfl (by decide) rfl ?_
    refine xiconst (v := (nI 0)) h0 dX6_grow_16 (by decide) ?_
    refine xistore (lv' := [(4, .int (nI 0)), (3, .int (nI 0)), (2, .int (nI 0)), (0, .ref (md 1)), (1, .int (nI p))]) h0 dX6_grow_17 (by decide) rfl ?_
    refine xiload h0 0 dX6_grow_19 rfl ?_
    refine xiconst (v := (nI 2)) h0 dX6_grow_21 (by decide) ?_
    refine xncmp_ge (tgt := 102) h0 dX6_grow_22 (by decide) (by omega) (by omega) (fun c_1 => ?_) (fun c_1 => ?_)
    · exact absurd c_1 (by omega)
    · skip
      refine xaload_n h0 3 dX6_grow_25 rfl rfl ?_
      refine xiload_n h0 4 dX6_grow_26 rfl rfl ?_
      refine xaload_n h0 3 dX6_grow_27 rfl rfl ?_
      refine xget (C := RX6) (T := TX6) (N := 52) (ci := 6) (v := .int (nI (has ||| (2 ^ p)))) h0 hiX6 0 rfl rfl 48 (by decide) (List.mem_of_getElem? (i := 1) rfl) rfl dX6_grow_28 ?_
      refine xaload_n h0 3 dX6_grow_31 rfl rfl ?_
      refine xget (C := RX6) (T := TX6) (N := 52) (ci := 6) (v := .int (nI k)) h0 hiX6 0 rfl rfl 3 (by decide) (List.mem_of_getElem? (i := 2) rfl) rfl dX6_grow_32 ?_
      refine xiconst (v := (-1)) h0 dX6_grow_35 (by decide) ?_
      refine xcallV_i (nn := 4) (w2 := fun u_ => (wM cI cC md T k tm dy P pk ptm pdy hpi tg tl R sg sl (upN (upN u0.1 48 (has ||| (2 ^ p))) 49 mi, u0.2.1, u0.2.2))) (wr := []) (rest := []) h0 (c_X6_next (xL κ) D cI cC md T k tm dy P pk ptm pdy hpi tg tl R sg sl (upN (upN u0.1 48 (has ||| (2 ^ p))) 49 mi, u0.2.1, u0.2.2) p (has ||| (2 ^ p)) k 8 (-1) hT (by exact hp) (by first | exact hH1 | exact hgA.1) (by first | omega | (have := hgA.2.1; omega)) (by exact hk) mx_8) gX6_grow_X6_next (by decide +kernel) rfl rfl rfl ⟨by dsimp only [exR]; omega, by dsimp only [exR]; omega⟩ ⟨Nat.zero_le _, Nat.zero_le _⟩ (fun _ _ _ _ h => h) (fun _ _ _ _ _ _ _ => trivial) rfl (Nat.le_of_ble_eq_true rfl) (q0 := 0) rfl rfl rfl [0, 1, 2, 3, 4, 5, 6, 7, 8, 9, 10, 11, 12, 13, 14, 15, 16, 17, 18, 19, 20, 21] [] [0, 1, 2, 3, 4, 5, 6, 7, 8, 9, 10, 11, 12, 13, 14, 15, 16, 17, 18, 19, 20, 21] ⟨rfl, rfl, rfl, rfl, rfl⟩ (fun _ => ⟨rfl, rfl⟩) dX6_grow_36 (fun r_3 u_ hr_2 => ?_)
      subst hr_2
      refine xistore (lv' := [(5, .int (oI (nextS T p (has ||| (2 ^ p)) k 8))), (4, .int (nI 0)), (3, .int (nI 0)), (2, .int (nI 0)), (0, .ref (md 1)), (1, .int (nI p))]) h0 dX6_grow_39 (by decide) rfl ?_
      refine xiload h0 0 dX6_grow_41 rfl ?_
      refine xif_lt (tgt := 96) h0 dX6_grow_43 (by decide)  (fun c_4 => ?_) (fun c_4 => ?_)
      · skip
        have hnA : nextS T p (has ||| (2 ^ p)) k 8 = none := oI_lt (fun z e => by have := (nextS_in e).1; omega) c_4
        refine xiinc (v := (nI 1)) (lv' := [(4, .int (nI 1)), (5, .int (oI (nextS T p (has ||| (2 ^ p)) k 8))), (3, .int (nI 0)), (2, .int (nI 0)), (0, .ref (md 1)), (1, .int (nI p))]) h0 1 dX6_grow_96 rfl (nI_add 0 1) (by decide) rfl ?_
        refine xgoto (tgt := 19) h0 dX6_grow_99 (by decide) ?_
        refine xiload h0 0 dX6_grow_19 rfl ?_
        refine xiconst (v := (nI 2)) h0 dX6_grow_21 (by decide) ?_
        refine xncmp_ge (tgt := 102) h0 dX6_grow_22 (by decide) (by omega) (by omega) (fun c_5 => ?_) (fun c_5 => ?_)
        · exact absurd c_5 (by omega)
        · skip
          refine xaload_n h0 4 dX6_grow_25 rfl rfl ?_
          refine xiload_n h0 5 dX6_grow_26 rfl rfl ?_
          refine xaload_n h0 4 dX6_grow_27 rfl rfl ?_
          refine xget (C := RX6) (T := TX6) (N := 52) (ci := 6) (v := .int (nI (has ||| (2 ^ p)))) h0 hiX6 0 rfl rfl 48 (by decide) (List.mem_of_getElem? (i := 1) rfl) rfl dX6_grow_28 ?_
          refine xaload_n h0 4 dX6_grow_31 rfl rfl ?_
          refine xget (C := RX6) (T := TX6) (N := 52) (ci := 6) (v := .int (nI k)) h0 hiX6 0 rfl rfl 3 (by decide) (List.mem_of_getElem? (i := 2) rfl) rfl dX6_grow_32 ?_
          refine xiconst (v := (-1)) h0 dX6_grow_35 (by decide) ?_
          refine xcallV_i (nn := 4) (w2 := fun u_ => (wM cI cC md T k tm dy P pk ptm pdy hpi tg tl R sg sl (upN (upN u0.1 48 (has ||| (2 ^ p))) 49 mi, u0.2.1, u0.2.2))) (wr := []) (rest := []) h0 (c_X6_next (xL κ) D cI cC md T k tm dy P pk ptm pdy hpi tg tl R sg sl (upN (upN u0.1 48 (has ||| (2 ^ p))) 49 mi, u0.2.1, u0.2.2) p (has ||| (2 ^ p)) k 8 (-1) hT (by exact hp) (by first | exact hH1 | exact hgA.1) (by first | omega | (have := hgA.2.1; omega)) (by exact hk) mx_8) gX6_grow_X6_next (by decide +kernel) rfl rfl rfl ⟨by dsimp only [exR]; omega, by dsimp only [exR]; omega⟩ ⟨Nat.zero_le _, Nat.zero_le _⟩ (fun _ _ _ _ h => h) (fun _ _ _ _ _ _ _ => trivial) rfl (Nat.le_of_ble_eq_true rfl) (q0 := 0) rfl rfl rfl [0, 1, 2, 3, 4, 5, 6, 7, 8, 9, 10, 11, 12, 13, 14, 15, 16, 17, 18, 19, 20, 21] [] [0, 1, 2, 3, 4, 5, 6, 7, 8, 9, 10, 11, 12, 13, 14, 15, 16, 17, 18, 19, 20, 21] ⟨rfl, rfl, rfl, rfl, rfl⟩ (fun _ => ⟨rfl, rfl⟩) dX6_grow_36 (fun r_7 u_ hr_6 => ?_)
          subst hr_6
          refine xistore (lv' := [(5, .int (oI (nextS T p (has ||| (2 ^ p)) k 8))), (4, .int (nI 1)), (3, .int (nI 0)), (2, .int (nI 0)), (0, .ref (md 1)), (1, .int (nI p))]) h0 dX6_grow_39 (by decide) rfl ?_
          refine xiload h0 0 dX6_grow_41 rfl ?_
          refine xif_lt (tgt := 96) h0 dX6_grow_43 (by decide)  (fun c_8 => ?_) (fun c_8 => ?_)
          · skip
            refine xiinc (v := (nI 2)) (lv' := [(4, .int (nI 2)), (5, .int (oI (nextS T p (has ||| (2 ^ p)) k 8))), (3, .int (nI 0)), (2, .int (nI 0)), (0, .ref (md 1)), (1, .int (nI p))]) h0 1 dX6_grow_96 rfl (nI_add 1 1) (by decide) rfl ?_
            refine xgoto (tgt := 19) h0 dX6_grow_99 (by decide) ?_
            refine xiload h0 0 dX6_grow_19 rfl ?_
            refine xiconst (v := (nI 2)) h0 dX6_grow_21 (by decide) ?_
            refine xncmp_ge (tgt := 102) h0 dX6_grow_22 (by decide) (by omega) (by omega) (fun c_9 => ?_) (fun c_9 => ?_)
            · skip
              refine xaload_n h0 4 dX6_grow_102 rfl rfl ?_
              refine xiload_n h0 5 dX6_grow_103 rfl rfl ?_
              refine xiload_n h0 3 dX6_grow_104 rfl rfl ?_
              refine xiload_n h0 2 dX6_grow_105 rfl rfl ?_
              refine xcallV_i (nn := 3) (w2 := fun u_ => (wM cI cC md T k tm dy P pk ptm pdy hpi tg tl R sg sl (upN (upN u0.1 48 (has ||| (2 ^ p))) 49 mi, u0.2.1, u0.2.2))) (wr := []) (rest := []) h0 (c_X6_says (xL κ) D cI cC md T k tm dy P pk ptm pdy hpi tg tl R sg sl (upN (upN u0.1 48 (has ||| (2 ^ p))) 49 mi, u0.2.1, u0.2.2) p 0 0 none hT (by exact hp8) (by first | exact Or.inl ⟨rfl, rfl⟩ | exact Or.inr ⟨rfl, rfl⟩) (by first | exact Nat.zero_le _ | exact hgA.2.2 | exact hgB.2.2)) gX6_grow_X6_says (by decide +kernel) rfl rfl rfl ⟨by dsimp only [exR]; omega, by dsimp only [exR]; omega⟩ ⟨Nat.zero_le _, Nat.zero_le _⟩ (fun _ _ _ _ h => h) (fun _ _ _ _ _ _ _ => trivial) rfl (Nat.le_of_ble_eq_true rfl) (q0 := 0) rfl rfl rfl [0, 1, 2, 3, 4, 5, 6, 7, 8, 9, 10, 11, 12, 13, 14, 15, 16, 17, 18, 19, 20, 21] [] [0, 1, 2, 3, 4, 5, 6, 7, 8, 9, 10, 11, 12, 13, 14, 15, 16, 17, 18, 19, 20, 21] ⟨rfl, rfl, rfl, rfl, rfl⟩ (fun _ => ⟨rfl, rfl⟩) dX6_grow_106 (fun r_11 u_ hr_10 => ?_)
              subst hr_10
              exact xiret h0 dX6_grow_109 () (by first | rw [grS_0 hnA] | rw [grS_1 hqA hnB] | rw [grS_2 hqA hqB, hmx]) (by first | (rw [grS_0 hnA]; rfl) | (rw [grS_1 hqA hnB]; simp only [Nat.mul_add, Nat.add_assoc]; first | done | rfl) | (rw [grS_2 hqA hqB]; simp only [Nat.mul_add, Nat.add_assoc]; first | done | rfl))
            · exact absurd c_9 (by omega)
          · exact absurd c_8 (by intro z; exact z (by rw [hnA]; decide))
      · skip
        obtain ⟨q, hqA⟩ := oI_ge c_4
        have hiA := nextS_in hqA
        refine xlvE (lv' := [(5, .int (nI q)), (4, .int (nI 0)), (3, .int (nI 0)), (2, .int (nI 0)), (0, .ref (md 1)), (1, .int (nI p))]) (by rw [hqA]; rfl) ?_
        have hcA := cdS_add (has ||| 2 ^ p) hH1 q (by omega) hiA.2.1
        have hdA := cdS_le ((has ||| 2 ^ p) ||| 2 ^ q)
        have hgA := grS_ok hT k 8 (f - 1) (has ||| 2 ^ p) q hH1 hiA.1 hiA.2.1
        rw [show f - 1 + 1 = f by omega] at hgA
        refine xaload_n h0 4 dX6_grow_46 rfl rfl ?_
        refine xdup h0 dX6_grow_47 rfl ?_
        refine xget (C := RX6) (T := TX6) (N := 52) (ci := 6) (v := .int (nI mi)) h0 hiX6 0 rfl rfl 49 (by decide) (List.mem_of_getElem? (i := 3) rfl) rfl dX6_grow_48 ?_
        refine xiconst (v := (nI 2)) h0 dX6_grow_51 (by decide) ?_
        refine xaload_n h0 4 dX6_grow_52 rfl rfl ?_
        refine xget (C := RX6) (T := TX6) (N := 52) (ci := 6) (v := .ref (md 10)) h0 hiX6 0 rfl rfl 10 (by decide) (List.mem_of_getElem? (i := 4) rfl) rfl dX6_grow_53 ?_
        refine xbipush (v := (nI 8)) h0 dX6_grow_56 (by decide) ?_
        refine xiload_n h0 5 dX6_grow_58 rfl rfl ?_
        refine ximul (v := (nI (8 * p))) h0 dX6_grow_59 (pk_mul _ _) ?_
        refine xiload h0 0 dX6_grow_60 rfl ?_
        refine xiadd (v := (nI ((8 * p) + q))) h0 dX6_grow_62 (nI_add _ _) ?_
        refine xiald (v := (nI (T 4 ((8 * p) + q)))) h0 6 0 rfl rfl (by omega) (by decide) dX6_grow_63 (rfl) ?_
        refine ximul (v := (nI (2 * (T 4 ((8 * p) + q))))) h0 dX6_grow_64 (pk_mul _ _) ?_
        refine xiadd (v := (nI (mi + (2 * (T 4 ((8 * p) + q)))))) h0 dX6_grow_65 (nI_add _ _) ?_
        refine xput (ws' := (wM cI cC md T k tm dy P pk ptm pdy hpi tg tl R sg sl (upN (upN u0.1 48 (has ||| (2 ^ p))) 49 (mi + (2 * (T 4 ((8 * p) + q)))), u0.2.1, u0.2.2))) (C := RX6) (T := TX6) (N := 52) (ci := 6) (ty := tyX6 49) h0 hiX6 tyX6 tyX6_ok nmX6 0 rfl rfl 49 (by decide) (List.mem_of_getElem? (i := 3) rfl) rfl (by decide +kernel) (rfl) (rfl) (Nat.le_of_ble_eq_true rfl) dX6_grow_66 rfl ?_
        refine xaload_n h0 4 dX6_grow_69 rfl rfl ?_
        refine xiload h0 0 dX6_grow_70 rfl ?_
        refine xcallV_i (nn := 1) (w2 := fun u_ => (wM cI cC md T k tm dy P pk ptm pdy hpi tg tl R sg sl (upN (upN u0.1 48 ((grS T k 8 f (has ||| (2 ^ p)) q).1)) 49 (mi + (2 * (T 4 ((8 * p) + q))) + 2 * (grS T k 8 f (has ||| (2 ^ p)) q).2.1), u0.2.1, u0.2.2))) (wr := []) (rest := []) h0 (ih (xL κ) md T k tm dy P pk ptm pdy hpi tg tl R sg sl u0 (has ||| (2 ^ p)) (mi + (2 * (T 4 ((8 * p) + q)))) q hT hk hiA.1 (by first | exact hH1 | exact hgA.1) hiA.2.1 (by first | omega | (have := hgA.2.1; omega))) gX6_grow_X6_grow (by decide +kernel) rfl rfl rfl ⟨by dsimp only [exR]; omega, by dsimp only [exR]; omega⟩ ⟨Nat.zero_le _, Nat.zero_le _⟩ (fun _ _ _ _ h => h) (fun _ _ _ _ _ _ _ => trivial) rfl (Nat.le_of_ble_eq_true rfl) (q0 := 0) rfl rfl rfl [0, 1, 2, 3, 4, 5, 6, 7, 8, 9, 10, 11, 12, 13, 14, 15, 16, 17, 18, 19, 20, 21] [] [0, 1, 2, 3, 4, 5, 6, 7, 8, 9, 10, 11, 12, 13, 14, 15, 16, 17, 18, 19, 20, 21] ⟨rfl, rfl, rfl, rfl, rfl⟩ (fun _ => ⟨rfl, rfl⟩) dX6_grow_72 (fun r_13 u_ hr_12 => ?_)
        subst hr_12
        refine xistore (lv' := [(6, .int (nI ((grS T k 8 f (has ||| (2 ^ p)) q).2.2))), (5, .int (nI q)), (4, .int (nI 0)), (3, .int (nI 0)), (2, .int (nI 0)), (0, .ref (md 1)), (1, .int (nI p))]) h0 dX6_grow_75 (by decide) rfl ?_
        refine xiload_n h0 4 dX6_grow_77 rfl rfl ?_
        refine xnif_eq (tgt := 91) h0 dX6_grow_78 (by decide) (by omega) (fun c_14 => ?_) (fun c_14 => ?_)
        · skip
          refine xiload h0 0 dX6_grow_91 rfl ?_
          refine xistore_n (lv' := [(3, .int (nI ((grS T k 8 f (has ||| (2 ^ p)) q).2.2))), (6, .int (nI ((grS T k 8 f (has ||| (2 ^ p)) q).2.2))), (5, .int (nI q)), (4, .int (nI 0)), (2, .int (nI 0)), (0, .ref (md 1)), (1, .int (nI p))]) h0 dX6_grow_93 rfl (by decide) rfl ?_
          refine xiconst (v := (nI 1)) h0 dX6_grow_94 (by decide) ?_
          refine xistore_n (lv' := [(2, .int (nI 1)), (3, .int (nI ((grS T k 8 f (has ||| (2 ^ p)) q).2.2))), (6, .int (nI ((grS T k 8 f (has ||| (2 ^ p)) q).2.2))), (5, .int (nI q)), (4, .int (nI 0)), (0, .ref (md 1)), (1, .int (nI p))]) h0 dX6_grow_95 rfl (by decide) rfl ?_
          refine xiinc (v := (nI 1)) (lv' := [(4, .int (nI 1)), (2, .int (nI 1)), (3, .int (nI ((grS T k 8 f (has ||| (2 ^ p)) q).2.2))), (6, .int (nI ((grS T k 8 f (has ||| (2 ^ p)) q).2.2))), (5, .int (nI q)), (0, .ref (md 1)), (1, .int (nI p))]) h0 4 dX6_grow_96 rfl (nI_add 0 1) (by decide) rfl ?_
          refine xgoto (tgt := 19) h0 dX6_grow_99 (by decide) ?_
          refine xiload h0 0 dX6_grow_19 rfl ?_
          refine xiconst (v := (nI 2)) h0 dX6_grow_21 (by decide) ?_
          refine xncmp_ge (tgt := 102) h0 dX6_grow_22 (by decide) (by omega) (by omega) (fun c_15 => ?_) (fun c_15 => ?_)
          · exact absurd c_15 (by omega)
          · skip
            refine xaload_n h0 5 dX6_grow_25 rfl rfl ?_
            refine xiload_n h0 6 dX6_grow_26 rfl rfl ?_
            refine xaload_n h0 5 dX6_grow_27 rfl rfl ?_
            refine xget (C := RX6) (T := TX6) (N := 52) (ci := 6) (v := .int (nI ((grS T k 8 f (has ||| (2 ^ p)) q).1))) h0 hiX6 0 rfl rfl 48 (by decide) (List.mem_of_getElem? (i := 1) rfl) rfl dX6_grow_28 ?_
            refine xaload_n h0 5 dX6_grow_31 rfl rfl ?_
            refine xget (C := RX6) (T := TX6) (N := 52) (ci := 6) (v := .int (nI k)) h0 hiX6 0 rfl rfl 3 (by decide) (List.mem_of_getElem? (i := 2) rfl) rfl dX6_grow_32 ?_
            refine xiconst (v := (-1)) h0 dX6_grow_35 (by decide) ?_
            refine xcallV_i (nn := 4) (w2 := fun u_ => (wM cI cC md T k tm dy P pk ptm pdy hpi tg tl R sg sl (upN (upN u0.1 48 ((grS T k 8 f (has ||| (2 ^ p)) q).1)) 49 (mi + (2 * (T 4 ((8 * p) + q))) + 2 * (grS T k 8 f (has ||| (2 ^ p)) q).2.1), u0.2.1, u0.2.2))) (wr := []) (rest := []) h0 (c_X6_next (xL κ) D cI cC md T k tm dy P pk ptm pdy hpi tg tl R sg sl (upN (upN u0.1 48 ((grS T k 8 f (has ||| (2 ^ p)) q).1)) 49 (mi + (2 * (T 4 ((8 * p) + q))) + 2 * (grS T k 8 f (has ||| (2 ^ p)) q).2.1), u0.2.1, u0.2.2) p ((grS T k 8 f (has ||| (2 ^ p)) q).1) k 8 (-1) hT (by exact hp) (by first | exact hH1 | exact hgA.1) (by first | omega | (have := hgA.2.1; omega)) (by exact hk) mx_8) gX6_grow_X6_next (by decide +kernel) rfl rfl rfl ⟨by dsimp only [exR]; omega, by dsimp only [exR]; omega⟩ ⟨Nat.zero_le _, Nat.zero_le _⟩ (fun _ _ _ _ h => h) (fun _ _ _ _ _ _ _ => trivial) rfl (Nat.le_of_ble_eq_true rfl) (q0 := 0) rfl rfl rfl [0, 1, 2, 3, 4, 5, 6, 7, 8, 9, 10, 11, 12, 13, 14, 15, 16, 17, 18, 19, 20, 21] [] [0, 1, 2, 3, 4, 5, 6, 7, 8, 9, 10, 11, 12, 13, 14, 15, 16, 17, 18, 19, 20, 21] ⟨rfl, rfl, rfl, rfl, rfl⟩ (fun _ => ⟨rfl, rfl⟩) dX6_grow_36 (fun r_17 u_ hr_16 => ?_)
            subst hr_16
            refine xistore (lv' := [(5, .int (oI (nextS T p ((grS T k 8 f (has ||| (2 ^ p)) q).1) k 8))), (4, .int (nI 1)), (2, .int (nI 1)), (3, .int (nI ((grS T k 8 f (has ||| (2 ^ p)) q).2.2))), (6, .int (nI ((grS T k 8 f (has ||| (2 ^ p)) q).2.2))), (0, .ref (md 1)), (1, .int (nI p))]) h0 dX6_grow_39 (by decide) rfl ?_
            refine xiload h0 0 dX6_grow_41 rfl ?_
            refine xif_lt (tgt := 96) h0 dX6_grow_43 (by decide)  (fun c_18 => ?_) (fun c_18 => ?_)
            · skip
              have hnB : nextS T p ((grS T k 8 f (has ||| (2 ^ p)) q).1) k 8 = none := oI_lt (fun z e => by have := (nextS_in e).1; omega) c_18
              refine xiinc (v := (nI 2)) (lv' := [(4, .int (nI 2)), (5, .int (oI (nextS T p ((grS T k 8 f (has ||| (2 ^ p)) q).1) k 8))), (2, .int (nI 1)), (3, .int (nI ((grS T k 8 f (has ||| (2 ^ p)) q).2.2))), (6, .int (nI ((grS T k 8 f (has ||| (2 ^ p)) q).2.2))), (0, .ref (md 1)), (1, .int (nI p))]) h0 1 dX6_grow_96 rfl (nI_add 1 1) (by decide) rfl ?_
              refine xgoto (tgt := 19) h0 dX6_grow_99 (by decide) ?_
              refine xiload h0 0 dX6_grow_19 rfl ?_
              refine xiconst (v := (nI 2)) h0 dX6_grow_21 (by decide) ?_
              refine xncmp_ge (tgt := 102) h0 dX6_grow_22 (by decide) (by omega) (by omega) (fun c_19 => ?_) (fun c_19 => ?_)
              · skip
                refine xaload_n h0 5 dX6_grow_102 rfl rfl ?_
                refine xiload_n h0 6 dX6_grow_103 rfl rfl ?_
                refine xiload_n h0 2 dX6_grow_104 rfl rfl ?_
                refine xiload_n h0 3 dX6_grow_105 rfl rfl ?_
                refine xcallV_i (nn := 3) (w2 := fun u_ => (wM cI cC md T k tm dy P pk ptm pdy hpi tg tl R sg sl (upN (upN u0.1 48 ((grS T k 8 f (has ||| (2 ^ p)) q).1)) 49 (mi + (2 * (T 4 ((8 * p) + q))) + 2 * (grS T k 8 f (has ||| (2 ^ p)) q).2.1), u0.2.1, u0.2.2))) (wr := []) (rest := []) h0 (c_X6_says (xL κ) D cI cC md T k tm dy P pk ptm pdy hpi tg tl R sg sl (upN (upN u0.1 48 ((grS T k 8 f (has ||| (2 ^ p)) q).1)) 49 (mi + (2 * (T 4 ((8 * p) + q))) + 2 * (grS T k 8 f (has ||| (2 ^ p)) q).2.1), u0.2.1, u0.2.2) p 1 ((grS T k 8 f (has ||| (2 ^ p)) q).2.2) (some ((grS T k 8 f (has ||| (2 ^ p)) q).2.2)) hT (by exact hp8) (by first | exact Or.inl ⟨rfl, rfl⟩ | exact Or.inr ⟨rfl, rfl⟩) (by first | exact Nat.zero_le _ | exact hgA.2.2 | exact hgB.2.2)) gX6_grow_X6_says (by decide +kernel) rfl rfl rfl ⟨by dsimp only [exR]; omega, by dsimp only [exR]; omega⟩ ⟨Nat.zero_le _, Nat.zero_le _⟩ (fun _ _ _ _ h => h) (fun _ _ _ _ _ _ _ => trivial) rfl (Nat.le_of_ble_eq_true rfl) (q0 := 0) rfl rfl rfl [0, 1, 2, 3, 4, 5, 6, 7, 8, 9, 10, 11, 12, 13, 14, 15, 16, 17, 18, 19, 20, 21] [] [0, 1, 2, 3, 4, 5, 6, 7, 8, 9, 10, 11, 12, 13, 14, 15, 16, 17, 18, 19, 20, 21] ⟨rfl, rfl, rfl, rfl, rfl⟩ (fun _ => ⟨rfl, rfl⟩) dX6_grow_106 (fun r_21 u_ hr_20 => ?_)
                subst hr_20
                exact xiret h0 dX6_grow_109 () (by first | rw [grS_0 hnA] | rw [grS_1 hqA hnB] | rw [grS_2 hqA hqB, hmx]) (by first | (rw [grS_0 hnA]; rfl) | (rw [grS_1 hqA hnB]; simp only [Nat.mul_add, Nat.add_assoc]; first | done | rfl) | (rw [grS_2 hqA hqB]; simp only [Nat.mul_add, Nat.add_assoc]; first | done | rfl))
              · exact absurd c_19 (by omega)
            · skip
              obtain ⟨q2, hqB⟩ := oI_ge c_18
              have hiB := nextS_in hqB
              refine xlvE (lv' := [(5, .int (nI q2)), (4, .int (nI 1)), (2, .int (nI 1)), (3, .int (nI ((grS T k 8 f (has ||| (2 ^ p)) q).2.2))), (6, .int (nI ((grS T k 8 f (has ||| (2 ^ p)) q).2.2))), (0, .ref (md 1)), (1, .int (nI p))]) (by rw [hqB]; rfl) ?_
              have hcB := cdS_add (grS T k 8 f (has ||| 2 ^ p) q).1 hgA.1 q2 (by omega) hiB.2.1
              have hdB := cdS_le ((grS T k 8 f (has ||| 2 ^ p) q).1 ||| 2 ^ q2)
              have hgA2 := hgA.2.1
              have hgB := grS_ok hT k 8 (f - 1) (grS T k 8 f (has ||| 2 ^ p) q).1 q2 hgA.1 hiB.1 hiB.2.1
              rw [show f - 1 + 1 = f by omega] at hgB
              refine xaload_n h0 5 dX6_grow_46 rfl rfl ?_
              refine xdup h0 dX6_grow_47 rfl ?_
              refine xget (C := RX6) (T := TX6) (N := 52) (ci := 6) (v := .int (nI (mi + (2 * (T 4 ((8 * p) + q))) + 2 * (grS T k 8 f (has ||| (2 ^ p)) q).2.1))) h0 hiX6 0 rfl rfl 49 (by decide) (List.mem_of_getElem? (i := 3) rfl) rfl dX6_grow_48 ?_
              refine xiconst (v := (nI 2)) h0 dX6_grow_51 (by decide) ?_
              refine xaload_n h0 5 dX6_grow_52 rfl rfl ?_
              refine xget (C := RX6) (T := TX6) (N := 52) (ci := 6) (v := .ref (md 10)) h0 hiX6 0 rfl rfl 10 (by decide) (List.mem_of_getElem? (i := 4) rfl) rfl dX6_grow_53 ?_
              refine xbipush (v := (nI 8)) h0 dX6_grow_56 (by decide) ?_
              refine xiload_n h0 6 dX6_grow_58 rfl rfl ?_
              refine ximul (v := (nI (8 * p))) h0 dX6_grow_59 (pk_mul _ _) ?_
              refine xiload h0 0 dX6_grow_60 rfl ?_
              refine xiadd (v := (nI ((8 * p) + q2))) h0 dX6_grow_62 (nI_add _ _) ?_
              refine xiald (v := (nI (T 4 ((8 * p) + q2)))) h0 6 0 rfl rfl (by omega) (by decide) dX6_grow_63 (rfl) ?_
              refine ximul (v := (nI (2 * (T 4 ((8 * p) + q2))))) h0 dX6_grow_64 (pk_mul _ _) ?_
              refine xiadd (v := (nI ((mi + (2 * (T 4 ((8 * p) + q))) + 2 * (grS T k 8 f (has ||| (2 ^ p)) q).2.1) + (2 * (T 4 ((8 * p) + q2)))))) h0 dX6_grow_65 (nI_add _ _) ?_
              refine xput (ws' := (wM cI cC md T k tm dy P pk ptm pdy hpi tg tl R sg sl (upN (upN u0.1 48 ((grS T k 8 f (has ||| (2 ^ p)) q).1)) 49 ((mi + (2 * (T 4 ((8 * p) + q))) + 2 * (grS T k 8 f (has ||| (2 ^ p)) q).2.1) + (2 * (T 4 ((8 * p) + q2)))), u0.2.1, u0.2.2))) (C := RX6) (T := TX6) (N := 52) (ci := 6) (ty := tyX6 49) h0 hiX6 tyX6 tyX6_ok nmX6 0 rfl rfl 49 (by decide) (List.mem_of_getElem? (i := 3) rfl) rfl (by decide +kernel) (rfl) (rfl) (Nat.le_of_ble_eq_true rfl) dX6_grow_66 rfl ?_
              refine xaload_n h0 5 dX6_grow_69 rfl rfl ?_
              refine xiload h0 0 dX6_grow_70 rfl ?_
              refine xcallV_i (nn := 1) (w2 := fun u_ => (wM cI cC md T k tm dy P pk ptm pdy hpi tg tl R sg sl (upN (upN u0.1 48 ((grS T k 8 f ((grS T k 8 f (has ||| (2 ^ p)) q).1) q2).1)) 49 ((mi + (2 * (T 4 ((8 * p) + q))) + 2 * (grS T k 8 f (has ||| (2 ^ p)) q).2.1) + (2 * (T 4 ((8 * p) + q2))) + 2 * (grS T k 8 f ((grS T k 8 f (has ||| (2 ^ p)) q).1) q2).2.1), u0.2.1, u0.2.2))) (wr := []) (rest := []) h0 (ih (xL κ) md T k tm dy P pk ptm pdy hpi tg tl R sg sl u0 ((grS T k 8 f (has ||| (2 ^ p)) q).1) ((mi + (2 * (T 4 ((8 * p) + q))) + 2 * (grS T k 8 f (has ||| (2 ^ p)) q).2.1) + (2 * (T 4 ((8 * p) + q2)))) q2 hT hk hiB.1 (by first | exact hH1 | exact hgA.1) hiB.2.1 (by first | omega | (have := hgA.2.1; omega))) gX6_grow_X6_grow (by decide +kernel) rfl rfl rfl ⟨by dsimp only [exR]; omega, by dsimp only [exR]; omega⟩ ⟨Nat.zero_le _, Nat.zero_le _⟩ (fun _ _ _ _ h => h) (fun _ _ _ _ _ _ _ => trivial) rfl (Nat.le_of_ble_eq_true rfl) (q0 := 0) rfl rfl rfl [0, 1, 2, 3, 4, 5, 6, 7, 8, 9, 10, 11, 12, 13, 14, 15, 16, 17, 18, 19, 20, 21] [] [0, 1, 2, 3, 4, 5, 6, 7, 8, 9, 10, 11, 12, 13, 14, 15, 16, 17, 18, 19, 20, 21] ⟨rfl, rfl, rfl, rfl, rfl⟩ (fun _ => ⟨rfl, rfl⟩) dX6_grow_72 (fun r_23 u_ hr_22 => ?_)
              subst hr_22
              refine xistore (lv' := [(6, .int (nI ((grS T k 8 f ((grS T k 8 f (has ||| (2 ^ p)) q).1) q2).2.2))), (5, .int (nI q2)), (4, .int (nI 1)), (2, .int (nI 1)), (3, .int (nI ((grS T k 8 f (has ||| (2 ^ p)) q).2.2))), (0, .ref (md 1)), (1, .int (nI p))]) h0 dX6_grow_75 (by decide) rfl ?_
              refine xiload_n h0 3 dX6_grow_77 rfl rfl ?_
              refine xnif_eq (tgt := 91) h0 dX6_grow_78 (by decide) (by omega) (fun c_24 => ?_) (fun c_24 => ?_)
              · exact absurd c_24 (by omega)
              · skip
                refine xiload_n h0 4 dX6_grow_81 rfl rfl ?_
                refine xiload h0 0 dX6_grow_82 rfl ?_
                refine xncmp_le (tgt := 91) h0 dX6_grow_84 (by decide) (by first | (have := hgA.2.2; omega) | (have := hgB.2.2; omega)) (by first | (have := hgA.2.2; omega) | (have := hgB.2.2; omega)) (fun c_25 => ?_) (fun c_25 => ?_)
                · skip
                  have hmx : Nat.max ((grS T k 8 f (has ||| (2 ^ p)) q).2.2) ((grS T k 8 f ((grS T k 8 f (has ||| (2 ^ p)) q).1) q2).2.2) = (grS T k 8 f ((grS T k 8 f (has ||| (2 ^ p)) q).1) q2).2.2 := Nat.max_eq_right c_25
                  refine xiload h0 0 dX6_grow_91 rfl ?_
                  refine xistore_n (lv' := [(3, .int (nI ((grS T k 8 f ((grS T k 8 f (has ||| (2 ^ p)) q).1) q2).2.2))), (6, .int (nI ((grS T k 8 f ((grS T k 8 f (has ||| (2 ^ p)) q).1) q2).2.2))), (5, .int (nI q2)), (4, .int (nI 1)), (2, .int (nI 1)), (0, .ref (md 1)), (1, .int (nI p))]) h0 dX6_grow_93 rfl (by decide) rfl ?_
                  refine xiconst (v := (nI 1)) h0 dX6_grow_94 (by decide) ?_
                  refine xistore_n (lv' := [(2, .int (nI 1)), (3, .int (nI ((grS T k 8 f ((grS T k 8 f (has ||| (2 ^ p)) q).1) q2).2.2))), (6, .int (nI ((grS T k 8 f ((grS T k 8 f (has ||| (2 ^ p)) q).1) q2).2.2))), (5, .int (nI q2)), (4, .int (nI 1)), (0, .ref (md 1)), (1, .int (nI p))]) h0 dX6_grow_95 rfl (by decide) rfl ?_
                  refine xiinc (v := (nI 2)) (lv' := [(4, .int (nI 2)), (2, .int (nI 1)), (3, .int (nI ((grS T k 8 f ((grS T k 8 f (has ||| (2 ^ p)) q).1) q2).2.2))), (6, .int (nI ((grS T k 8 f ((grS T k 8 f (has ||| (2 ^ p)) q).1) q2).2.2))), (5, .int (nI q2)), (0, .ref (md 1)), (1, .int (nI p))]) h0 4 dX6_grow_96 rfl (nI_add 1 1) (by decide) rfl ?_
                  refine xgoto (tgt := 19) h0 dX6_grow_99 (by decide) ?_
                  refine xiload h0 0 dX6_grow_19 rfl ?_
                  refine xiconst (v := (nI 2)) h0 dX6_grow_21 (by decide) ?_
                  refine xncmp_ge (tgt := 102) h0 dX6_grow_22 (by decide) (by omega) (by omega) (fun c_26 => ?_) (fun c_26 => ?_)
                  · skip
                    refine xaload_n h0 5 dX6_grow_102 rfl rfl ?_
                    refine xiload_n h0 6 dX6_grow_103 rfl rfl ?_
                    refine xiload_n h0 1 dX6_grow_104 rfl rfl ?_
                    refine xiload_n h0 2 dX6_grow_105 rfl rfl ?_
                    refine xcallV_i (nn := 3) (w2 := fun u_ => (wM cI cC md T k tm dy P pk ptm pdy hpi tg tl R sg sl (upN (upN u0.1 48 ((grS T k 8 f ((grS T k 8 f (has ||| (2 ^ p)) q).1) q2).1)) 49 ((mi + (2 * (T 4 ((8 * p) + q))) + 2 * (grS T k 8 f (has ||| (2 ^ p)) q).2.1) + (2 * (T 4 ((8 * p) + q2))) + 2 * (grS T k 8 f ((grS T k 8 f (has ||| (2 ^ p)) q).1) q2).2.1), u0.2.1, u0.2.2))) (wr := []) (rest := []) h0 (c_X6_says (xL κ) D cI cC md T k tm dy P pk ptm pdy hpi tg tl R sg sl (upN (upN u0.1 48 ((grS T k 8 f ((grS T k 8 f (has ||| (2 ^ p)) q).1) q2).1)) 49 ((mi + (2 * (T 4 ((8 * p) + q))) + 2 * (grS T k 8 f (has ||| (2 ^ p)) q).2.1) + (2 * (T 4 ((8 * p) + q2))) + 2 * (grS T k 8 f ((grS T k 8 f (has ||| (2 ^ p)) q).1) q2).2.1), u0.2.1, u0.2.2) p 1 ((grS T k 8 f ((grS T k 8 f (has ||| (2 ^ p)) q).1) q2).2.2) (some ((grS T k 8 f ((grS T k 8 f (has ||| (2 ^ p)) q).1) q2).2.2)) hT (by exact hp8) (by first | exact Or.inl ⟨rfl, rfl⟩ | exact Or.inr ⟨rfl, rfl⟩) (by first | exact Nat.zero_le _ | exact hgA.2.2 | exact hgB.2.2)) gX6_grow_X6_says (by decide +kernel) rfl rfl rfl ⟨by dsimp only [exR]; omega, by dsimp only [exR]; omega⟩ ⟨Nat.zero_le _, Nat.zero_le _⟩ (fun _ _ _ _ h => h) (fun _ _ _ _ _ _ _ => trivial) rfl (Nat.le_of_ble_eq_true rfl) (q0 := 0) rfl rfl rfl [0, 1, 2, 3, 4, 5, 6, 7, 8, 9, 10, 11, 12, 13, 14, 15, 16, 17, 18, 19, 20, 21] [] [0, 1, 2, 3, 4, 5, 6, 7, 8, 9, 10, 11, 12, 13, 14, 15, 16, 17, 18, 19, 20, 21] ⟨rfl, rfl, rfl, rfl, rfl⟩ (fun _ => ⟨rfl, rfl⟩) dX6_grow_106 (fun r_28 u_ hr_27 => ?_)
                    subst hr_27
                    exact xiret h0 dX6_grow_109 () (by first | rw [grS_0 hnA] | rw [grS_1 hqA hnB] | rw [grS_2 hqA hqB, hmx]) (by first | (rw [grS_0 hnA]; rfl) | (rw [grS_1 hqA hnB]; simp only [Nat.mul_add, Nat.add_assoc]; first | done | rfl) | (rw [grS_2 hqA hqB]; simp only [Nat.mul_add, Nat.add_assoc]; first | done | rfl))
                  · exact absurd c_26 (by omega)
                · skip
                  have hmx : Nat.max ((grS T k 8 f (has ||| (2 ^ p)) q).2.2) ((grS T k 8 f ((grS T k 8 f (has ||| (2 ^ p)) q).1) q2).2.2) = ((grS T k 8 f (has ||| (2 ^ p)) q).2.2) := Nat.max_eq_left (by omega)
                  refine xiload_n h0 4 dX6_grow_87 rfl rfl ?_
                  refine xgoto (tgt := 93) h0 dX6_grow_88 (by decide) ?_
                  refine xistore_n (lv' := [(3, .int (nI ((grS T k 8 f (has ||| (2 ^ p)) q).2.2))), (6, .int (nI ((grS T k 8 f ((grS T k 8 f (has ||| (2 ^ p)) q).1) q2).2.2))), (5, .int (nI q2)), (4, .int (nI 1)), (2, .int (nI 1)), (0, .ref (md 1)), (1, .int (nI p))]) h0 dX6_grow_93 rfl (by decide) rfl ?_
                  refine xiconst (v := (nI 1)) h0 dX6_grow_94 (by decide) ?_
                  refine xistore_n (lv' := [(2, .int (nI 1)), (3, .int (nI ((grS T k 8 f (has ||| (2 ^ p)) q).2.2))), (6, .int (nI ((grS T k 8 f ((grS T k 8 f (has ||| (2 ^ p)) q).1) q2).2.2))), (5, .int (nI q2)), (4, .int (nI 1)), (0, .ref (md 1)), (1, .int (nI p))]) h0 dX6_grow_95 rfl (by decide) rfl ?_
                  refine xiinc (v := (nI 2)) (lv' := [(4, .int (nI 2)), (2, .int (nI 1)), (3, .int (nI ((grS T k 8 f (has ||| (2 ^ p)) q).2.2))), (6, .int (nI ((grS T k 8 f ((grS T k 8 f (has ||| (2 ^ p)) q).1) q2).2.2))), (5, .int (nI q2)), (0, .ref (md 1)), (1, .int (nI p))]) h0 4 dX6_grow_96 rfl (nI_add 1 1) (by decide) rfl ?_
                  refine xgoto (tgt := 19) h0 dX6_grow_99 (by decide) ?_
                  refine xiload h0 0 dX6_grow_19 rfl ?_
                  refine xiconst (v := (nI 2)) h0 dX6_grow_21 (by decide) ?_
                  refine xncmp_ge (tgt := 102) h0 dX6_grow_22 (by decide) (by omega) (by omega) (fun c_29 => ?_) (fun c_29 => ?_)
                  · skip
                    refine xaload_n h0 5 dX6_grow_102 rfl rfl ?_
                    refine xiload_n h0 6 dX6_grow_103 rfl rfl ?_
                    refine xiload_n h0 1 dX6_grow_104 rfl rfl ?_
                    refine xiload_n h0 2 dX6_grow_105 rfl rfl ?_
                    refine xcallV_i (nn := 3) (w2 := fun u_ => (wM cI cC md T k tm dy P pk ptm pdy hpi tg tl R sg sl (upN (upN u0.1 48 ((grS T k 8 f ((grS T k 8 f (has ||| (2 ^ p)) q).1) q2).1)) 49 ((mi + (2 * (T 4 ((8 * p) + q))) + 2 * (grS T k 8 f (has ||| (2 ^ p)) q).2.1) + (2 * (T 4 ((8 * p) + q2))) + 2 * (grS T k 8 f ((grS T k 8 f (has ||| (2 ^ p)) q).1) q2).2.1), u0.2.1, u0.2.2))) (wr := []) (rest := []) h0 (c_X6_says (xL κ) D cI cC md T k tm dy P pk ptm pdy hpi tg tl R sg sl (upN (upN u0.1 48 ((grS T k 8 f ((grS T k 8 f (has ||| (2 ^ p)) q).1) q2).1)) 49 ((mi + (2 * (T 4 ((8 * p) + q))) + 2 * (grS T k 8 f (has ||| (2 ^ p)) q).2.1) + (2 * (T 4 ((8 * p) + q2))) + 2 * (grS T k 8 f ((grS T k 8 f (has ||| (2 ^ p)) q).1) q2).2.1), u0.2.1, u0.2.2) p 1 ((grS T k 8 f (has ||| (2 ^ p)) q).2.2) (some ((grS T k 8 f (has ||| (2 ^ p)) q).2.2)) hT (by exact hp8) (by first | exact Or.inl ⟨rfl, rfl⟩ | exact Or.inr ⟨rfl, rfl⟩) (by first | exact Nat.zero_le _ | exact hgA.2.2 | exact hgB.2.2)) gX6_grow_X6_says (by decide +kernel) rfl rfl rfl ⟨by dsimp only [exR]; omega, by dsimp only [exR]; omega⟩ ⟨Nat.zero_le _, Nat.zero_le _⟩ (fun _ _ _ _ h => h) (fun _ _ _ _ _ _ _ => trivial) rfl (Nat.le_of_ble_eq_true rfl) (q0 := 0) rfl rfl rfl [0, 1, 2, 3, 4, 5, 6, 7, 8, 9, 10, 11, 12, 13, 14, 15, 16, 17, 18, 19, 20, 21] [] [0, 1, 2, 3, 4, 5, 6, 7, 8, 9, 10, 11, 12, 13, 14, 15, 16, 17, 18, 19, 20, 21] ⟨rfl, rfl, rfl, rfl, rfl⟩ (fun _ => ⟨rfl, rfl⟩) dX6_grow_106 (fun r_31 u_ hr_30 => ?_)
                    subst hr_30
                    exact xiret h0 dX6_grow_109 () (by first | rw [grS_0 hnA] | rw [grS_1 hqA hnB] | rw [grS_2 hqA hqB, hmx]) (by first | (rw [grS_0 hnA]; rfl) | (rw [grS_1 hqA hnB]; simp only [Nat.mul_add, Nat.add_assoc]; first | done | rfl) | (rw [grS_2 hqA hqB]; simp only [Nat.mul_add, Nat.add_assoc]; first | done | rfl))
                  · exact absurd c_29 (by omega)
        · exact absurd c_14 (by omega)
theorem c_X6_grow (l : Launch) (D : va_G) (cI cC : ClassId) (f : Nat) (md : Nat → Nat) (T : TT) (k tm dy : Nat) (P : TT) (pk ptm pdy hpi : Nat) (tg : Nat → Nat) (tl : Nat) (R : Nat → Nat) (sg : Nat → Nat) (sl : Nat) (u0 : ScmT) (has mi : Nat) (p : Nat) (hT : TOK T) (hk : k < 256) (hp : p < T 5 0) (hh : has < 256) (hbt : has.testBit p = false) (hd : 8 ≤ cdS has + f) : XMi l yX6_grow wsX6_grow (exR f) D (xT cI cC) xE0 (wM cI cC md T k tm dy P pk ptm pdy hpi tg tl R sg sl (upN (upN u0.1 48 has) 49 mi, u0.2.1, u0.2.2)) [.ref (md 1), .int (nI p)] (S := Unit) (fun r _ => r = nI (grS T k 8 f has p).2.2) (fun _ => wM cI cC md T k tm dy P pk ptm pdy hpi tg tl R sg sl (upN (upN u0.1 48 ((grS T k 8 f has p).1)) 49 (mi + 2 * (grS T k 8 f has p).2.1), u0.2.1, u0.2.2)) 0 0 := r_X6_grow D cI cC f l md T k tm dy P pk ptm pdy hpi tg tl R sg sl u0 has mi p hT hk hp hh hbt hd
set_option maxHeartbeats 4000000 in
set_option maxRecDepth 100000 in
theorem c_X6_tree (l : Launch) (D : va_G) (cI cC : ClassId) (md : Nat → Nat) (T : TT) (k tm dy : Nat) (P : TT) (pk ptm pdy hpi : Nat) (tg : Nat → Nat) (tl : Nat) (R : Nat → Nat) (sg : Nat → Nat) (sl : Nat) (u0 : ScmT) (x v : Int32) (hT : TOK T) (hk : k < 256) (hP : TOK P) (hpk : pk < 256) (htl : tl ≤ 8) (hsl : sl ≤ 64) (hhp : hpi < 2) (htg : ∀ i, tg i ≤ 9) : XMi l yX6_tree wsX6_tree ({ frames := 13, cells := 0, slots := 0, locals := 416 } : Room) D (xT cI cC) xE0 (wM cI cC md T k tm dy P pk ptm pdy hpi tg tl R sg sl u0) [.ref (md 1), .int x, .int v] (S := ScmT) (fun r _ => r = sel (rfC (T 5 0) k x (wh2 v) 2) (trS T k (xn x) v) (-(nI (rfC (T 5 0) k x (wh2 v) 2)))) (fun u => wM cI cC md T k tm dy P pk ptm pdy hpi tg tl (bmp R (rfC (T 5 0) k x (wh2 v) 2)) sg sl u) 0 0 := by
  refine xMet_i (cc := cX6_tree) (nL := 4) (ret := some .int) (by decide +kernel) rfl (Nat.le_of_ble_eq_true rfl) (fun κ A h0 hn0 hE => ?_)
  have hiX6 : ∀ w ∈ u_ws RX6 TX6 52, w ∈ wsX6_tree := by decide +kernel
  refine xlv (lv' := [(0, .ref (md 1)), (1, .int x), (2, .int v)]) [0, 1, 2] rfl ?_
  have hn := hT.1
  refine xaload_n h0 0 dX6_tree_0 rfl rfl ?_
  refine xiload_n h0 1 dX6_tree_1 rfl rfl ?_
  refine xcallV_i (nn := 1) (w2 := fun u_ => (wM cI cC md T k tm dy P pk ptm pdy hpi tg tl R sg sl u0)) (wr := []) (rest := []) h0 (c_X6_isNobody (xL κ) D cI cC md T k tm dy P pk ptm pdy hpi tg tl R sg sl u0 x (by omega)) gX6_tree_X6_isNobody (by decide +kernel) rfl rfl rfl ⟨Nat.le_of_ble_eq_true rfl, Nat.le_of_ble_eq_true rfl⟩ ⟨by decide, by decide⟩ (fun _ _ _ _ h => h) (fun _ _ _ _ _ _ _ => trivial) rfl (Nat.le_of_ble_eq_true rfl) (q0 := 0) rfl rfl rfl [0, 1, 2, 3, 4, 5, 6, 7, 8, 9, 10, 11, 12, 13, 14, 15, 16, 17, 18, 19, 20, 21] [] [0, 1, 2, 3, 4, 5, 6, 7, 8, 9, 10, 11, 12, 13, 14, 15, 16, 17, 18, 19, 20, 21] ⟨rfl, rfl, rfl, rfl, rfl⟩ (fun _ => ⟨rfl, rfl⟩) dX6_tree_2 (fun r_2 u_ hr_1 => ?_)
  subst hr_1
  refine xbif_eq (tgt := 14) h0 dX6_tree_5 (by decide)  (fun c_3 => ?_) (fun c_3 => ?_)
  · skip
    obtain ⟨p, hp, hxp⟩ := okN_of hn (Decidable.of_not_not c_3)
    subst hxp
    have hp8 : p < 8 := by omega
    have hok : okN (T 5 0) (nI p) := (okN_n hn (by omega)).mpr hp
    refine xiload_n h0 2 dX6_tree_14 rfl rfl ?_
    refine xif_lt (tgt := 23) h0 dX6_tree_15 (by decide)  (fun c_4 => ?_) (fun c_4 => ?_)
    · skip
      have hC : rfC (T 5 0) k (nI p) (wh2 v) 2 = 2 := rfC_2 hok (wh2_0 (Or.inl c_4))
      refine xaload_n h0 0 dX6_tree_23 rfl rfl ?_
      refine xbipush (v := (-2)) h0 dX6_tree_24 (by decide) ?_
      refine xcallV_i (nn := 1) (w2 := fun u_ => (wM cI cC md T k tm dy P pk ptm pdy hpi tg tl (upN R 2 (R 2 + 1)) sg sl u0)) (wr := []) (rest := []) h0 (c_X6_no (xL κ) D cI cC md T k tm dy P pk ptm pdy hpi tg tl R sg sl u0 2 (by omega)) gX6_tree_X6_no (by decide +kernel) rfl rfl rfl ⟨Nat.le_of_ble_eq_true rfl, Nat.le_of_ble_eq_true rfl⟩ ⟨by decide, by decide⟩ (fun _ _ _ _ h => h) (fun _ _ _ _ _ _ _ => trivial) rfl (Nat.le_of_ble_eq_true rfl) (q0 := 0) rfl rfl rfl [0, 1, 2, 3, 4, 5, 6, 7, 8, 9, 10, 11, 12, 13, 14, 15, 16, 17, 18, 19, 20, 21] [] [0, 1, 2, 3, 4, 5, 6, 7, 8, 9, 10, 11, 12, 13, 14, 15, 16, 17, 18, 19, 20, 21] ⟨rfl, rfl, rfl, rfl, rfl⟩ (fun _ => ⟨rfl, rfl⟩) dX6_tree_26 (fun r_6 u_ hr_5 => ?_)
      subst hr_5
      exact xiret h0 dX6_tree_29 u0 (by rw [hC, sel_n (by decide)]) (by rw [hC]; first | done | rfl)
    · skip
      refine xiload_n h0 2 dX6_tree_18 rfl rfl ?_
      refine xiconst (v := (nI 2)) h0 dX6_tree_19 (by decide) ?_
      refine xicmp_le (tgt := 30) h0 dX6_tree_20 (by decide)  (fun c_7 => ?_) (fun c_7 => ?_)
      · skip
        have hgd := wh2_1 (by assumption) c_7
        refine xaload_n h0 0 dX6_tree_30 rfl rfl ?_
        refine xget (C := RX6) (T := TX6) (N := 52) (ci := 6) (v := .int (nI k)) h0 hiX6 0 rfl rfl 3 (by decide) (List.mem_of_getElem? (i := 1) rfl) rfl dX6_tree_31 ?_
        refine xiload_n h0 1 dX6_tree_34 rfl rfl ?_
        refine xcallS_i (nn := 2) (w2 := fun u_ => (wM cI cC md T k tm dy P pk ptm pdy hpi tg tl R sg sl u0)) (wr := [(md 1, .inr (6, [.ref (md 0), .int (nI (T 5 0)), .int (nI (T 5 1)), .int (nI k), .int (nI tm), .int (nI dy), .ref (md 6), .ref (md 7), .ref (md 8), .ref (md 9), .ref (md 10), .int (nI hpi), .int (nI (P 5 0)), .int (nI (P 5 1)), .int (nI pk), .int (nI ptm), .int (nI pdy), .ref (md 17), .ref (md 18), .ref (md 19), .ref (md 20), .ref (md 21), .ref (md 22), .int (nI sl), .int (nI (u0.1 24)), .int (nI (u0.1 25)), .ref (md 26), .ref (md 27), .ref (md 28), .int (nI (u0.1 29)), .ref (md 30), .ref (md 31), .int (nI (u0.1 32)), .int (nI (u0.1 33)), .int (nI (u0.1 34)), .int (oI u0.2.2), .int (nI (u0.1 36)), .int (nI (u0.1 37)), .int (nI (u0.1 38)), .int (nI (u0.1 39)), .ref (md 40), .int (nI (u0.1 41)), .int (nI (u0.1 42)), .int (nI (u0.1 43)), .ref (md 44), .int (nI (u0.1 45)), .int (nI (u0.1 46)), .ref (md 47), .int (nI (u0.1 48)), .int (nI (u0.1 49)), .ref (md 50), .int (nI tl)])), (md 0, .inl (cI, 7, .inl (fun i_ => nI (R i_)))), (md 6, .inl (cI, 8, .inl (fun i_ => nI (T 0 i_)))), (md 7, .inl (cI, 8, .inl (fun i_ => nI (T 1 i_)))), (md 8, .inl (cI, 8, .inl (fun i_ => nI (T 2 i_)))), (md 9, .inl (cI, 8, .inl (fun i_ => nI (T 3 i_)))), (md 10, .inl (cI, 64, .inl (fun i_ => nI (T 4 i_)))), (md 17, .inl (cI, 8, .inl (fun i_ => nI (P 0 i_)))), (md 18, .inl (cI, 8, .inl (fun i_ => nI (P 1 i_)))), (md 19, .inl (cI, 8, .inl (fun i_ => nI (P 2 i_)))), (md 20, .inl (cI, 8, .inl (fun i_ => nI (P 3 i_)))), (md 21, .inl (cI, 64, .inl (fun i_ => nI (P 4 i_)))), (md 22, .inl (cI, 64, .inl (fun i_ => nI (sg i_)))), (md 26, .inl (cC, 4, .inl (fun i_ => nI (sortsN i_)))), (md 27, .inl (cC, 5, .inl (fun i_ => nI (askersN i_)))), (md 28, .inl (cC, 5, .inl (fun i_ => nI (sayersN i_)))), (md 30, .inl (cI, 4, .inl (fun i_ => nI ((u0.2.1 30) i_)))), (md 31, .inl (cI, 8, .inl (fun i_ => nI ((u0.2.1 31) i_)))), (md 40, .inl (cI, 8, .inl (fun i_ => nI ((u0.2.1 40) i_)))), (md 44, .inl (cI, 8, .inl (fun i_ => nI ((u0.2.1 44) i_)))), (md 47, .inl (cI, 8, .inl (fun i_ => nI ((u0.2.1 47) i_)))), (md 50, .inl (cI, 8, .inl (fun i_ => nI (tg i_))))]) (rest := []) h0 (c_X6_isIn (xL κ) D cI cC k p (by omega) (by omega)) gX6_tree_X6_isIn (by decide +kernel) rfl rfl rfl ⟨Nat.le_of_ble_eq_true rfl, Nat.le_of_ble_eq_true rfl⟩ ⟨by decide, by decide⟩ (fun _ _ _ _ h => h) (fun _ _ _ _ _ _ _ => trivial) rfl (Nat.le_of_ble_eq_true rfl) rfl [] [0, 1, 2, 3, 4, 5, 6, 7, 8, 9, 10, 11, 12, 13, 14, 15, 16, 17, 18, 19, 20, 21] [0, 1, 2, 3, 4, 5, 6, 7, 8, 9, 10, 11, 12, 13, 14, 15, 16, 17, 18, 19, 20, 21] ⟨rfl, rfl, rfl, rfl, rfl⟩ (fun _ => ⟨rfl, rfl⟩) dX6_tree_35 (fun r_9 u_ hr_8 => ?_)
        subst hr_8
        refine xbif_eq (tgt := 48) h0 dX6_tree_38 (by decide)  (fun c_10 => ?_) (fun c_10 => ?_)
        · skip
          have hC : rfC (T 5 0) k (nI p) (wh2 v) 2 = 0 := rfC_z hok hgd (by rw [xn_n (by omega)]; exact c_10)
          have hkp : ¬ k.testBit p = true := c_10
          refine xaload_n h0 0 dX6_tree_48 rfl rfl ?_
          refine xiconst (v := (nI 0)) h0 dX6_tree_49 (by decide) ?_
          refine xput (ws' := (wM cI cC md T k tm dy P pk ptm pdy hpi tg tl R sg sl (upN u0.1 48 0, u0.2.1, u0.2.2))) (C := RX6) (T := TX6) (N := 52) (ci := 6) (ty := tyX6 48) h0 hiX6 tyX6 tyX6_ok nmX6 0 rfl rfl 48 (by decide) (List.mem_of_getElem? (i := 2) rfl) rfl (by decide +kernel) (rfl) (rfl) (Nat.le_of_ble_eq_true rfl) dX6_tree_50 rfl ?_
          refine xaload_n h0 0 dX6_tree_53 rfl rfl ?_
          refine xiconst (v := (nI 0)) h0 dX6_tree_54 (by decide) ?_
          refine xput (ws' := (wM cI cC md T k tm dy P pk ptm pdy hpi tg tl R sg sl (upN (upN u0.1 48 0) 49 0, u0.2.1, u0.2.2))) (C := RX6) (T := TX6) (N := 52) (ci := 6) (ty := tyX6 49) h0 hiX6 tyX6 tyX6_ok nmX6 0 rfl rfl 49 (by decide) (List.mem_of_getElem? (i := 3) rfl) rfl (by decide +kernel) (rfl) (rfl) (Nat.le_of_ble_eq_true rfl) dX6_tree_55 rfl ?_
          have hgr := grS_ok hT k 8 7 0 p (by decide) hp (Nat.zero_testBit p)
          refine xaload_n h0 0 dX6_tree_58 rfl rfl ?_
          refine xiload_n h0 1 dX6_tree_59 rfl rfl ?_
          refine xcallV_i (nn := 1) (w2 := fun u_ => (wM cI cC md T k tm dy P pk ptm pdy hpi tg tl R sg sl (upN (upN u0.1 48 ((grS T k 8 8 0 p).1)) 49 (0 + 2 * (grS T k 8 8 0 p).2.1), u0.2.1, u0.2.2))) (wr := []) (rest := []) h0 (c_X6_grow (xL κ) D cI cC 8 md T k tm dy P pk ptm pdy hpi tg tl R sg sl u0 0 0 p hT hk hp (by decide) (Nat.zero_testBit _) (Nat.le_add_left _ _)) gX6_tree_X6_grow (by decide +kernel) rfl rfl rfl ⟨Nat.le_of_ble_eq_true rfl, Nat.le_of_ble_eq_true rfl⟩ ⟨by decide, by decide⟩ (fun _ _ _ _ h => h) (fun _ _ _ _ _ _ _ => trivial) rfl (Nat.le_of_ble_eq_true rfl) (q0 := 0) rfl rfl rfl [0, 1, 2, 3, 4, 5, 6, 7, 8, 9, 10, 11, 12, 13, 14, 15, 16, 17, 18, 19, 20, 21] [] [0, 1, 2, 3, 4, 5, 6, 7, 8, 9, 10, 11, 12, 13, 14, 15, 16, 17, 18, 19, 20, 21] ⟨rfl, rfl, rfl, rfl, rfl⟩ (fun _ => ⟨rfl, rfl⟩) dX6_tree_60 (fun r_12 u_ hr_11 => ?_)
          subst hr_11
          refine xistore_n (lv' := [(3, .int (nI ((grS T k 8 8 0 p).2.2))), (0, .ref (md 1)), (1, .int (nI p)), (2, .int v)]) h0 dX6_tree_63 rfl (by decide) rfl ?_
          refine xiload_n h0 3 dX6_tree_64 rfl rfl ?_
          refine xif_ne (tgt := 78) h0 dX6_tree_65 (by decide)  (fun c_13 => ?_) (fun c_13 => ?_)
          · skip
            refine xiload_n h0 3 dX6_tree_78 rfl rfl ?_
            refine xiconst (v := (nI 1)) h0 dX6_tree_79 (by decide) ?_
            refine xicmp_ne (tgt := 90) h0 dX6_tree_80 (by decide)  (fun c_14 => ?_) (fun c_14 => ?_)
            · skip
              refine xiload_n h0 0 dX6_tree_90 rfl rfl ?_
              exact xiret h0 dX6_tree_91 (upN (upN u0.1 48 ((grS T k 8 8 0 p).1)) 49 (0 + 2 * (grS T k 8 8 0 p).2.1), u0.2.1, u0.2.2) (by rw [hC, sel_0, xn_n (by omega)]; first | done | (unfold trS; first | (rw [if_pos (by assumption)]; first | done | (rw [Nat.zero_add]; done)) | (rw [if_neg (by assumption), if_pos (by assumption)]; first | done | (rw [Nat.zero_add]; done)) | (rw [if_neg (by assumption), if_neg (by assumption)]; done))) (by rw [hC]; first | done | rfl)
            · skip
              refine xaload_n h0 1 dX6_tree_83 rfl rfl ?_
              refine xget (C := RX6) (T := TX6) (N := 52) (ci := 6) (v := .int (nI (0 + 2 * (grS T k 8 8 0 p).2.1))) h0 hiX6 0 rfl rfl 49 (by decide) (List.mem_of_getElem? (i := 3) rfl) rfl dX6_tree_84 ?_
              refine xgoto (tgt := 91) h0 dX6_tree_87 (by decide) ?_
              exact xiret h0 dX6_tree_91 (upN (upN u0.1 48 ((grS T k 8 8 0 p).1)) 49 (0 + 2 * (grS T k 8 8 0 p).2.1), u0.2.1, u0.2.2) (by rw [hC, sel_0, xn_n (by omega)]; first | done | (unfold trS; first | (rw [if_pos (by assumption)]; first | done | (rw [Nat.zero_add]; done)) | (rw [if_neg (by assumption), if_pos (by assumption)]; first | done | (rw [Nat.zero_add]; done)) | (rw [if_neg (by assumption), if_neg (by assumption)]; done))) (by rw [hC]; first | done | rfl)
          · skip
            refine xaload_n h0 1 dX6_tree_68 rfl rfl ?_
            refine xget (C := RX6) (T := TX6) (N := 52) (ci := 6) (v := .int (nI ((grS T k 8 8 0 p).1))) h0 hiX6 0 rfl rfl 48 (by decide) (List.mem_of_getElem? (i := 2) rfl) rfl dX6_tree_69 ?_
            refine xcallS_i (nn := 1) (w2 := fun u_ => (wM cI cC md T k tm dy P pk ptm pdy hpi tg tl R sg sl (upN (upN u0.1 48 ((grS T k 8 8 0 p).1)) 49 (0 + 2 * (grS T k 8 8 0 p).2.1), u0.2.1, u0.2.2))) (wr := [(md 1, .inr (6, [.ref (md 0), .int (nI (T 5 0)), .int (nI (T 5 1)), .int (nI k), .int (nI tm), .int (nI dy), .ref (md 6), .ref (md 7), .ref (md 8), .ref (md 9), .ref (md 10), .int (nI hpi), .int (nI (P 5 0)), .int (nI (P 5 1)), .int (nI pk), .int (nI ptm), .int (nI pdy), .ref (md 17), .ref (md 18), .ref (md 19), .ref (md 20), .ref (md 21), .ref (md 22), .int (nI sl), .int (nI (u0.1 24)), .int (nI (u0.1 25)), .ref (md 26), .ref (md 27), .ref (md 28), .int (nI (u0.1 29)), .ref (md 30), .ref (md 31), .int (nI (u0.1 32)), .int (nI (u0.1 33)), .int (nI (u0.1 34)), .int (oI u0.2.2), .int (nI (u0.1 36)), .int (nI (u0.1 37)), .int (nI (u0.1 38)), .int (nI (u0.1 39)), .ref (md 40), .int (nI (u0.1 41)), .int (nI (u0.1 42)), .int (nI (u0.1 43)), .ref (md 44), .int (nI (u0.1 45)), .int (nI (u0.1 46)), .ref (md 47), .int (nI ((grS T k 8 8 0 p).1)), .int (nI (0 + 2 * (grS T k 8 8 0 p).2.1)), .ref (md 50), .int (nI tl)])), (md 0, .inl (cI, 7, .inl (fun i_ => nI (R i_)))), (md 6, .inl (cI, 8, .inl (fun i_ => nI (T 0 i_)))), (md 7, .inl (cI, 8, .inl (fun i_ => nI (T 1 i_)))), (md 8, .inl (cI, 8, .inl (fun i_ => nI (T 2 i_)))), (md 9, .inl (cI, 8, .inl (fun i_ => nI (T 3 i_)))), (md 10, .inl (cI, 64, .inl (fun i_ => nI (T 4 i_)))), (md 17, .inl (cI, 8, .inl (fun i_ => nI (P 0 i_)))), (md 18, .inl (cI, 8, .inl (fun i_ => nI (P 1 i_)))), (md 19, .inl (cI, 8, .inl (fun i_ => nI (P 2 i_)))), (md 20, .inl (cI, 8, .inl (fun i_ => nI (P 3 i_)))), (md 21, .inl (cI, 64, .inl (fun i_ => nI (P 4 i_)))), (md 22, .inl (cI, 64, .inl (fun i_ => nI (sg i_)))), (md 26, .inl (cC, 4, .inl (fun i_ => nI (sortsN i_)))), (md 27, .inl (cC, 5, .inl (fun i_ => nI (askersN i_)))), (md 28, .inl (cC, 5, .inl (fun i_ => nI (sayersN i_)))), (md 30, .inl (cI, 4, .inl (fun i_ => nI ((u0.2.1 30) i_)))), (md 31, .inl (cI, 8, .inl (fun i_ => nI ((u0.2.1 31) i_)))), (md 40, .inl (cI, 8, .inl (fun i_ => nI ((u0.2.1 40) i_)))), (md 44, .inl (cI, 8, .inl (fun i_ => nI ((u0.2.1 44) i_)))), (md 47, .inl (cI, 8, .inl (fun i_ => nI ((u0.2.1 47) i_)))), (md 50, .inl (cI, 8, .inl (fun i_ => nI (tg i_))))]) (rest := []) h0 (c_X6_size (xL κ) D cI cC ((grS T k 8 8 0 p).1) (by exact Nat.lt_trans hgr.1 (by decide))) gX6_tree_X6_size (by decide +kernel) rfl rfl rfl ⟨Nat.le_of_ble_eq_true rfl, Nat.le_of_ble_eq_true rfl⟩ ⟨by decide, by decide⟩ (fun _ _ _ _ h => h) (fun _ _ _ _ _ _ _ => trivial) rfl (Nat.le_of_ble_eq_true rfl) rfl [] [0, 1, 2, 3, 4, 5, 6, 7, 8, 9, 10, 11, 12, 13, 14, 15, 16, 17, 18, 19, 20, 21] [0, 1, 2, 3, 4, 5, 6, 7, 8, 9, 10, 11, 12, 13, 14, 15, 16, 17, 18, 19, 20, 21] ⟨rfl, rfl, rfl, rfl, rfl⟩ (fun _ => ⟨rfl, rfl⟩) dX6_tree_72 (fun r_16 u_ hr_15 => ?_)
            subst hr_15
            refine xgoto (tgt := 91) h0 dX6_tree_75 (by decide) ?_
            exact xiret h0 dX6_tree_91 (upN (upN u0.1 48 ((grS T k 8 8 0 p).1)) 49 (0 + 2 * (grS T k 8 8 0 p).2.1), u0.2.1, u0.2.2) (by rw [hC, sel_0, xn_n (by omega)]; first | done | (unfold trS; first | (rw [if_pos (by assumption)]; first | done | (rw [Nat.zero_add]; done)) | (rw [if_neg (by assumption), if_pos (by assumption)]; first | done | (rw [Nat.zero_add]; done)) | (rw [if_neg (by assumption), if_neg (by assumption)]; done))) (by rw [hC]; first | done | rfl)
        · skip
          have hC : rfC (T 5 0) k (nI p) (wh2 v) 2 = 3 := rfC_3 hok hgd (by rw [xn_n (by omega)]; exact c_10)
          refine xaload_n h0 0 dX6_tree_41 rfl rfl ?_
          refine xbipush (v := (-3)) h0 dX6_tree_42 (by decide) ?_
          refine xcallV_i (nn := 1) (w2 := fun u_ => (wM cI cC md T k tm dy P pk ptm pdy hpi tg tl (upN R 3 (R 3 + 1)) sg sl u0)) (wr := []) (rest := []) h0 (c_X6_no (xL κ) D cI cC md T k tm dy P pk ptm pdy hpi tg tl R sg sl u0 3 (by omega)) gX6_tree_X6_no (by decide +kernel) rfl rfl rfl ⟨Nat.le_of_ble_eq_true rfl, Nat.le_of_ble_eq_true rfl⟩ ⟨by decide, by decide⟩ (fun _ _ _ _ h => h) (fun _ _ _ _ _ _ _ => trivial) rfl (Nat.le_of_ble_eq_true rfl) (q0 := 0) rfl rfl rfl [0, 1, 2, 3, 4, 5, 6, 7, 8, 9, 10, 11, 12, 13, 14, 15, 16, 17, 18, 19, 20, 21] [] [0, 1, 2, 3, 4, 5, 6, 7, 8, 9, 10, 11, 12, 13, 14, 15, 16, 17, 18, 19, 20, 21] ⟨rfl, rfl, rfl, rfl, rfl⟩ (fun _ => ⟨rfl, rfl⟩) dX6_tree_44 (fun r_18 u_ hr_17 => ?_)
          subst hr_17
          exact xiret h0 dX6_tree_47 u0 (by rw [hC, sel_n (by decide)]) (by rw [hC]; first | done | rfl)
      · skip
        have hC : rfC (T 5 0) k (nI p) (wh2 v) 2 = 2 := rfC_2 hok (wh2_0 (Or.inr (Int32.not_le.mp c_7)))
        refine xaload_n h0 0 dX6_tree_23 rfl rfl ?_
        refine xbipush (v := (-2)) h0 dX6_tree_24 (by decide) ?_
        refine xcallV_i (nn := 1) (w2 := fun u_ => (wM cI cC md T k tm dy P pk ptm pdy hpi tg tl (upN R 2 (R 2 + 1)) sg sl u0)) (wr := []) (rest := []) h0 (c_X6_no (xL κ) D cI cC md T k tm dy P pk ptm pdy hpi tg tl R sg sl u0 2 (by omega)) gX6_tree_X6_no (by decide +kernel) rfl rfl rfl ⟨Nat.le_of_ble_eq_true rfl, Nat.le_of_ble_eq_true rfl⟩ ⟨by decide, by decide⟩ (fun _ _ _ _ h => h) (fun _ _ _ _ _ _ _ => trivial) rfl (Nat.le_of_ble_eq_true rfl) (q0 := 0) rfl rfl rfl [0, 1, 2, 3, 4, 5, 6, 7, 8, 9, 10, 11, 12, 13, 14, 15, 16, 17, 18, 19, 20, 21] [] [0, 1, 2, 3, 4, 5, 6, 7, 8, 9, 10, 11, 12, 13, 14, 15, 16, 17, 18, 19, 20, 21] ⟨rfl, rfl, rfl, rfl, rfl⟩ (fun _ => ⟨rfl, rfl⟩) dX6_tree_26 (fun r_20 u_ hr_19 => ?_)
        subst hr_19
        exact xiret h0 dX6_tree_29 u0 (by rw [hC, sel_n (by decide)]) (by rw [hC]; first | done | rfl)
  · skip
    have hC : rfC (T 5 0) k x (wh2 v) 2 = 1 := rfC_1 c_3
    refine xaload_n h0 0 dX6_tree_8 rfl rfl ?_
    refine xiconst (v := (-1)) h0 dX6_tree_9 (by decide) ?_
    refine xcallV_i (nn := 1) (w2 := fun u_ => (wM cI cC md T k tm dy P pk ptm pdy hpi tg tl (upN R 1 (R 1 + 1)) sg sl u0)) (wr := []) (rest := []) h0 (c_X6_no (xL κ) D cI cC md T k tm dy P pk ptm pdy hpi tg tl R sg sl u0 1 (by omega)) gX6_tree_X6_no (by decide +kernel) rfl rfl rfl ⟨Nat.le_of_ble_eq_true rfl, Nat.le_of_ble_eq_true rfl⟩ ⟨by decide, by decide⟩ (fun _ _ _ _ h => h) (fun _ _ _ _ _ _ _ => trivial) rfl (Nat.le_of_ble_eq_true rfl) (q0 := 0) rfl rfl rfl [0, 1, 2, 3, 4, 5, 6, 7, 8, 9, 10, 11, 12, 13, 14, 15, 16, 17, 18, 19, 20, 21] [] [0, 1, 2, 3, 4, 5, 6, 7, 8, 9, 10, 11, 12, 13, 14, 15, 16, 17, 18, 19, 20, 21] ⟨rfl, rfl, rfl, rfl, rfl⟩ (fun _ => ⟨rfl, rfl⟩) dX6_tree_10 (fun r_22 u_ hr_21 => ?_)
    subst hr_21
    exact xiret h0 dX6_tree_13 u0 (by rw [hC, sel_n (by decide)]) (by rw [hC]; first | done | rfl)
set_option maxHeartbeats 4000000 in
set_option maxRecDepth 100000 in
theorem c_X6_days (l : Launch) (D : va_G) (cI cC : ClassId) (md : Nat → Nat) (T : TT) (k tm dy : Nat) (P : TT) (pk ptm pdy hpi : Nat) (tg : Nat → Nat) (tl : Nat) (R : Nat → Nat) (sg : Nat → Nat) (sl : Nat) (u0 : ScmT) (x z : Int32) (hT : TOK T) (hk : k < 256) (hP : TOK P) (hpk : pk < 256) (htl : tl ≤ 8) (hsl : sl ≤ 64) (hhp : hpi < 2) (htg : ∀ i, tg i ≤ 9) : XMi l yX6_days wsX6_days ({ frames := 5, cells := 0, slots := 0, locals := 130 } : Room) D (xT cI cC) xE0 (wM cI cC md T k tm dy P pk ptm pdy hpi tg tl R sg sl u0) [.ref (md 1), .int x, .int z] (S := ScmT) (fun r _ => r = sel (dyC (T 5 0) x) (nI (dyK T z (xn x))) (-(nI (dyC (T 5 0) x)))) (fun u => wM cI cC md T k tm dy P pk ptm pdy hpi tg tl (bmp R (dyC (T 5 0) x)) sg sl u) 0 0 := by
  refine xMet_i (cc := cX6_days) (nL := 6) (ret := some .int) (by decide +kernel) rfl (Nat.le_of_ble_eq_true rfl) (fun κ A h0 hn0 hE => ?_)
  have hiX6 : ∀ w ∈ u_ws RX6 TX6 52, w ∈ wsX6_days := by decide +kernel
  refine xlv (lv' := [(0, .ref (md 1)), (1, .int x), (2, .int z)]) [0, 1, 2] rfl ?_
  have hn := hT.1
  refine xiload_n h0 1 dX6_days_0 rfl rfl ?_
  refine xiconst (v := (nI 1)) h0 dX6_days_1 (by decide) ?_
  refine xicmp_ge (tgt := 12) h0 dX6_days_2 (by decide)  (fun c_1 => ?_) (fun c_1 => ?_)
  · skip
    refine xiload_n h0 1 dX6_days_12 rfl rfl ?_
    refine xbipush (v := (nI 30)) h0 dX6_days_13 (by decide) ?_
    refine xicmp_le (tgt := 25) h0 dX6_days_15 (by decide)  (fun c_2 => ?_) (fun c_2 => ?_)
    · skip
      refine xaload_n h0 0 dX6_days_25 rfl rfl ?_
      refine xget (C := RX6) (T := TX6) (N := 52) (ci := 6) (v := .int (nI (T 5 0))) h0 hiX6 0 rfl rfl 1 (by decide) (List.mem_of_getElem? (i := 1) rfl) rfl dX6_days_26 ?_
      refine xnif_ne (tgt := 39) h0 dX6_days_29 (by decide) (by omega) (fun c_3 => ?_) (fun c_3 => ?_)
      · skip
        have hC : dyC (T 5 0) x = 0 := by unfold dyC; rw [if_neg (not_not_intro c_1), if_neg (not_not_intro c_2), if_neg (by omega)]
        obtain ⟨j, hj, rfl⟩ := nI_of (x := x) (Int32.not_lt.mpr (Int32.le_trans (by decide) c_1))
        have hj30 : j ≤ 30 := (nI_leI hj (by decide)).mp c_2
        refine xiconst (v := (nI 0)) h0 dX6_days_39 (by decide) ?_
        refine xistore_n (lv' := [(3, .int (nI 0)), (0, .ref (md 1)), (1, .int (nI j)), (2, .int z)]) h0 dX6_days_40 rfl (by decide) rfl ?_
        refine xiload_n h0 3 dX6_days_41 rfl rfl ?_
        refine xistore (lv' := [(4, .int z), (3, .int (nI 0)), (0, .ref (md 1)), (1, .int (nI j)), (2, .int z)]) h0 dX6_days_42 (by decide) rfl ?_
        refine xiconst (v := (nI 0)) h0 dX6_days_44 (by decide) ?_
        refine xistore (lv' := [(5, .int (nI 0)), (4, .int z), (3, .int (nI 0)), (0, .ref (md 1)), (1, .int (nI j)), (2, .int z)]) h0 dX6_days_45 (by decide) rfl ?_
        have lp : ∀ (d_ : Nat) (i z3 : Nat) (G : Nat → Nat), (31 - i ≤ d_) → (i ≤ j) → XG κ 6 D (xT cI cC) A (xQi (S := ScmT) κ D (xT cI cC) A (fun r _ => r = sel (dyC (T 5 0) (nI j)) (nI (dyK T z (xn (nI j)))) (-(nI (dyC (T 5 0) (nI j))))) (fun u => wM cI cC md T k tm dy P pk ptm pdy hpi tg tl (bmp R (dyC (T 5 0) (nI j))) sg sl u) 0 0) (wM cI cC md T k tm dy P pk ptm pdy hpi tg tl R sg sl (upN u0.1 32 z3, upA u0.2.1 31 G, u0.2.2)) 0 0 47 [(0, .ref (md 1)), (1, .int (nI j)), (3, .int (nI (dyK T z i))), (4, .int (sdN z i)), (5, .int (nI i))] [] := by
          intro d_
          induction d_ with
          | zero => intro i z3 G hm_ hi; exact absurd hm_ (by omega)
          | succ d_ ih_lp =>
            intro i z3 G hm_ hi
            refine xiload h0 4 dX6_days_47 rfl ?_
            refine xiload_n h0 1 dX6_days_49 rfl rfl ?_
            refine xncmp_ge (tgt := 99) h0 dX6_days_50 (by decide) (by omega) (by omega) (fun c_4 => ?_) (fun c_4 => ?_)
            · skip
              refine xiload_n h0 2 dX6_days_99 rfl rfl ?_
              exact xiret h0 dX6_days_100 (upN u0.1 32 z3, upA u0.2.1 31 G, u0.2.2) (by rw [hC, sel_0, xn_n (by omega)]; first | done | (rw [show j = i by omega])) (by rw [hC]; first | done | rfl)
            · skip
              refine xiload h0 3 dX6_days_53 rfl ?_
              refine xldcw (v := (nI 1664525)) h0 (List.mem_of_getElem? (i := 2) rfl) dX6_days_55 ?_
              refine ximul (v := ((sdN z i) * (nI 1664525))) h0 dX6_days_58 rfl ?_
              refine xldcw (v := (nI 1013904223)) h0 (List.mem_of_getElem? (i := 3) rfl) dX6_days_59 ?_
              refine xiadd (v := (sdN z (i + 1))) h0 dX6_days_62 (sd_s z i) ?_
              refine xistore (lv' := [(4, .int (sdN z (i + 1))), (0, .ref (md 1)), (1, .int (nI j)), (3, .int (nI (dyK T z i))), (5, .int (nI i))]) h0 dX6_days_63 (by decide) rfl ?_
              obtain ⟨dd, hdd⟩ : ∃ d, d = drS z (T 5 0) i := ⟨_, rfl⟩
              have hdl : dd < T 5 0 := by rw [hdd]; exact dr_lt (by omega)
              refine xaload_n h0 1 dX6_days_65 rfl rfl ?_
              refine xiload h0 0 dX6_days_66 rfl ?_
              refine xldcw (v := (nI 2147483647)) h0 (List.mem_of_getElem? (i := 4) rfl) dX6_days_68 ?_
              refine xiand (v := (nI ((sdN z (i + 1)).toBitVec.toNat % 2 ^ 31))) h0 dX6_days_71 (sd_and _) ?_
              refine xsipush (v := (nI 256)) h0 dX6_days_72 (by decide) ?_
              refine xidiv (v := (nI ((sdN z (i + 1)).toBitVec.toNat % 2 ^ 31 / 256))) h0 dX6_days_75 (by decide) (pk_div (Nat.mod_lt _ (by decide)) (by decide) (by decide)) ?_
              refine xaload_n h0 1 dX6_days_76 rfl rfl ?_
              refine xget (C := RX6) (T := TX6) (N := 52) (ci := 6) (v := .int (nI (T 5 0))) h0 hiX6 0 rfl rfl 1 (by decide) (List.mem_of_getElem? (i := 1) rfl) rfl dX6_days_77 ?_
              refine xirem (v := (nI dd)) h0 dX6_days_80 (nI_ne0 (by omega) (by omega)) ((pk_rem (Nat.lt_of_le_of_lt (Nat.div_le_self _ _) (Nat.mod_lt _ (by decide))) (by omega) (by omega)).trans (congrArg nI hdd.symm)) ?_
              refine xiconst (v := (nI 0)) h0 dX6_days_81 (by decide) ?_
              refine xiconst (v := (-1)) h0 dX6_days_82 (by decide) ?_
              refine xcallV_v (nn := 3) (w2 := fun G_5 => (wM cI cC md T k tm dy P pk ptm pdy hpi tg tl R sg sl (upN u0.1 32 ((wkS T dd 0 8).length), upA u0.2.1 31 G_5, u0.2.2))) (wr := []) (rest := []) h0 (c_X6_go (xL κ) D cI cC md T k tm dy P pk ptm pdy hpi tg tl R sg sl (upN u0.1 32 z3, upA u0.2.1 31 G, u0.2.2) dd 0 8 (-1) hT (by exact hdl) (by decide) mx_8) gX6_days_X6_go (by decide +kernel) rfl rfl rfl ⟨Nat.le_of_ble_eq_true rfl, Nat.le_of_ble_eq_true rfl⟩ ⟨by decide, by decide⟩ (fun _ _ _ _ h => h) (fun _ _ _ _ _ _ _ => trivial) rfl (Nat.le_of_ble_eq_true rfl) (q0 := 0) rfl rfl rfl [0, 1, 2, 3, 4, 5, 6, 7, 8, 9, 10, 11, 12, 13, 14, 15, 16, 17, 18, 19, 20, 21] [] [0, 1, 2, 3, 4, 5, 6, 7, 8, 9, 10, 11, 12, 13, 14, 15, 16, 17, 18, 19, 20, 21] ⟨rfl, rfl, rfl, rfl, rfl⟩ (fun _ => ⟨rfl, rfl⟩) dX6_days_83 (fun G_5 hG_6 => ?_)
              refine xiload_n h0 3 dX6_days_86 rfl rfl ?_
              refine xaload_n h0 1 dX6_days_87 rfl rfl ?_
              refine xcallV_i (nn := 0) (w2 := fun u_ => (wM cI cC md T k tm dy P pk ptm pdy hpi tg tl R sg sl (upN u0.1 32 ((wkS T dd 0 8).length), upA u0.2.1 31 G_5, u0.2.2))) (wr := []) (rest := [.int (nI (dyK T z i))]) h0 (c_X6_right (xL κ) D cI cC md T k tm dy P pk ptm pdy hpi tg tl R sg sl (upN u0.1 32 ((wkS T dd 0 8).length), upA u0.2.1 31 G_5, u0.2.2) (wkS T dd 0 8) G_5 hT hG_6 (by exact wk_1 _ _ _ _) (by exact wk_8 hT hdl) (by exact wk_n hT hdl)) gX6_days_X6_right (by decide +kernel) rfl rfl rfl ⟨Nat.le_of_ble_eq_true rfl, Nat.le_of_ble_eq_true rfl⟩ ⟨by decide, by decide⟩ (fun _ _ _ _ h => h) (fun _ _ _ _ _ _ _ => trivial) rfl (Nat.le_of_ble_eq_true rfl) (q0 := 0) rfl rfl rfl [0, 1, 2, 3, 4, 5, 6, 7, 8, 9, 10, 11, 12, 13, 14, 15, 16, 17, 18, 19, 20, 21] [] [0, 1, 2, 3, 4, 5, 6, 7, 8, 9, 10, 11, 12, 13, 14, 15, 16, 17, 18, 19, 20, 21] ⟨rfl, rfl, rfl, rfl, rfl⟩ (fun _ => ⟨rfl, rfl⟩) dX6_days_88 (fun r_9 u_ hr_8 => ?_)
              subst hr_8
              refine xiadd (v := (nI (dyK T z (i + 1)))) h0 dX6_days_91 ((nI_add _ _).trans (congrArg nI (by rw [hdd]; exact dy_s T z i))) ?_
              refine xistore_n (lv' := [(3, .int (nI (dyK T z (i + 1)))), (4, .int (sdN z (i + 1))), (0, .ref (md 1)), (1, .int (nI j)), (5, .int (nI i))]) h0 dX6_days_92 rfl (by decide) rfl ?_
              refine xiinc (v := (nI (i + 1))) (lv' := [(5, .int (nI (i + 1))), (3, .int (nI (dyK T z (i + 1)))), (4, .int (sdN z (i + 1))), (0, .ref (md 1)), (1, .int (nI j))]) h0 4 dX6_days_93 rfl (nI_add _ _) (by decide) rfl ?_
              refine xgoto (tgt := 47) h0 dX6_days_96 (by decide) ?_
              refine xlv [3, 4, 1, 2, 0] rfl ?_
              exact ih_lp (i + 1) ((wkS T dd 0 8).length) G_5 (by omega) (by omega)
        refine xlv [3, 4, 2, 1, 0] rfl ?_
        exact lp (31) 0 (u0.1 32) (u0.2.1 31) (by omega) (by omega)
      · skip
        have hC : dyC (T 5 0) x = 3 := by unfold dyC; rw [if_neg (not_not_intro c_1), if_neg (not_not_intro c_2), if_pos (by omega)]
        refine xaload_n h0 0 dX6_days_32 rfl rfl ?_
        refine xbipush (v := (-3)) h0 dX6_days_33 (by decide) ?_
        refine xcallV_i (nn := 1) (w2 := fun u_ => (wM cI cC md T k tm dy P pk ptm pdy hpi tg tl (upN R 3 (R 3 + 1)) sg sl u0)) (wr := []) (rest := []) h0 (c_X6_no (xL κ) D cI cC md T k tm dy P pk ptm pdy hpi tg tl R sg sl u0 3 (by omega)) gX6_days_X6_no (by decide +kernel) rfl rfl rfl ⟨Nat.le_of_ble_eq_true rfl, Nat.le_of_ble_eq_true rfl⟩ ⟨by decide, by decide⟩ (fun _ _ _ _ h => h) (fun _ _ _ _ _ _ _ => trivial) rfl (Nat.le_of_ble_eq_true rfl) (q0 := 0) rfl rfl rfl [0, 1, 2, 3, 4, 5, 6, 7, 8, 9, 10, 11, 12, 13, 14, 15, 16, 17, 18, 19, 20, 21] [] [0, 1, 2, 3, 4, 5, 6, 7, 8, 9, 10, 11, 12, 13, 14, 15, 16, 17, 18, 19, 20, 21] ⟨rfl, rfl, rfl, rfl, rfl⟩ (fun _ => ⟨rfl, rfl⟩) dX6_days_35 (fun r_11 u_ hr_10 => ?_)
        subst hr_10
        exact xiret h0 dX6_days_38 u0 (by rw [hC, sel_n (by decide)]) (by rw [hC]; first | done | rfl)
    · skip
      have hC : dyC (T 5 0) x = 6 := by unfold dyC; rw [if_neg (not_not_intro c_1), if_pos c_2]
      refine xaload_n h0 0 dX6_days_18 rfl rfl ?_
      refine xbipush (v := (-6)) h0 dX6_days_19 (by decide) ?_
      refine xcallV_i (nn := 1) (w2 := fun u_ => (wM cI cC md T k tm dy P pk ptm pdy hpi tg tl (upN R 6 (R 6 + 1)) sg sl u0)) (wr := []) (rest := []) h0 (c_X6_no (xL κ) D cI cC md T k tm dy P pk ptm pdy hpi tg tl R sg sl u0 6 (by omega)) gX6_days_X6_no (by decide +kernel) rfl rfl rfl ⟨Nat.le_of_ble_eq_true rfl, Nat.le_of_ble_eq_true rfl⟩ ⟨by decide, by decide⟩ (fun _ _ _ _ h => h) (fun _ _ _ _ _ _ _ => trivial) rfl (Nat.le_of_ble_eq_true rfl) (q0 := 0) rfl rfl rfl [0, 1, 2, 3, 4, 5, 6, 7, 8, 9, 10, 11, 12, 13, 14, 15, 16, 17, 18, 19, 20, 21] [] [0, 1, 2, 3, 4, 5, 6, 7, 8, 9, 10, 11, 12, 13, 14, 15, 16, 17, 18, 19, 20, 21] ⟨rfl, rfl, rfl, rfl, rfl⟩ (fun _ => ⟨rfl, rfl⟩) dX6_days_21 (fun r_13 u_ hr_12 => ?_)
      subst hr_12
      exact xiret h0 dX6_days_24 u0 (by rw [hC, sel_n (by decide)]) (by rw [hC]; first | done | rfl)
  · skip
    have hC : dyC (T 5 0) x = 4 := by unfold dyC; rw [if_pos c_1]
    refine xaload_n h0 0 dX6_days_5 rfl rfl ?_
    refine xbipush (v := (-4)) h0 dX6_days_6 (by decide) ?_
    refine xcallV_i (nn := 1) (w2 := fun u_ => (wM cI cC md T k tm dy P pk ptm pdy hpi tg tl (upN R 4 (R 4 + 1)) sg sl u0)) (wr := []) (rest := []) h0 (c_X6_no (xL κ) D cI cC md T k tm dy P pk ptm pdy hpi tg tl R sg sl u0 4 (by omega)) gX6_days_X6_no (by decide +kernel) rfl rfl rfl ⟨Nat.le_of_ble_eq_true rfl, Nat.le_of_ble_eq_true rfl⟩ ⟨by decide, by decide⟩ (fun _ _ _ _ h => h) (fun _ _ _ _ _ _ _ => trivial) rfl (Nat.le_of_ble_eq_true rfl) (q0 := 0) rfl rfl rfl [0, 1, 2, 3, 4, 5, 6, 7, 8, 9, 10, 11, 12, 13, 14, 15, 16, 17, 18, 19, 20, 21] [] [0, 1, 2, 3, 4, 5, 6, 7, 8, 9, 10, 11, 12, 13, 14, 15, 16, 17, 18, 19, 20, 21] ⟨rfl, rfl, rfl, rfl, rfl⟩ (fun _ => ⟨rfl, rfl⟩) dX6_days_8 (fun r_15 u_ hr_14 => ?_)
    subst hr_14
    exact xiret h0 dX6_days_11 u0 (by rw [hC, sel_n (by decide)]) (by rw [hC]; first | done | rfl)
set_option maxHeartbeats 4000000 in
set_option maxRecDepth 100000 in
theorem c_X6_row (l : Launch) (D : va_G) (cI cC : ClassId) (md : Nat → Nat) (T : TT) (k tm dy : Nat) (P : TT) (pk ptm pdy hpi : Nat) (tg : Nat → Nat) (tl : Nat) (R : Nat → Nat) (sg : Nat → Nat) (sl : Nat) (u0 : ScmT) (x : Int32) (hT : TOK T) (hk : k < 256) (hP : TOK P) (hpk : pk < 256) (htl : tl ≤ 8) (hsl : sl ≤ 64) (hhp : hpi < 2) (htg : ∀ i, tg i ≤ 9) : XMi l yX6_row wsX6_row ({ frames := 1, cells := 0, slots := 0, locals := 21 } : Room) D (xT cI cC) xE0 (wM cI cC md T k tm dy P pk ptm pdy hpi tg tl R sg sl u0) [.ref (md 1), .int x] (S := ScmT) (fun r _ => r = sel (roC tl x) (nI (tl + 1)) (-(nI (roC tl x)))) (fun u => wM cI cC md T k tm dy P pk ptm pdy hpi (sel (roC tl x) (upN tg tl (xn x)) tg) (sel (roC tl x) (tl + 1) tl) (bmp R (roC tl x)) sg sl u) 0 0 := by
  refine xMet_i (cc := cX6_row) (nL := 2) (ret := some .int) (by decide +kernel) rfl (Nat.le_of_ble_eq_true rfl) (fun κ A h0 hn0 hE => ?_)
  have hiX6 : ∀ w ∈ u_ws RX6 TX6 52, w ∈ wsX6_row := by decide +kernel
  refine xlv (lv' := [(0, .ref (md 1)), (1, .int x)]) [0, 1] rfl ?_
  have hn := hT.1
  refine xiload_n h0 1 dX6_row_0 rfl rfl ?_
  refine xif_ge (tgt := 11) h0 dX6_row_1 (by decide)  (fun c_1 => ?_) (fun c_1 => ?_)
  · skip
    refine xiload_n h0 1 dX6_row_11 rfl rfl ?_
    refine xbipush (v := (nI 9)) h0 dX6_row_12 (by decide) ?_
    refine xicmp_gt (tgt := 26) h0 dX6_row_14 (by decide)  (fun c_2 => ?_) (fun c_2 => ?_)
    · skip
      have hC : roC tl x = 6 := by unfold roC; rw [if_neg (not_not_intro c_1), if_pos (Or.inl c_2)]
      refine xaload_n h0 0 dX6_row_26 rfl rfl ?_
      refine xbipush (v := (-6)) h0 dX6_row_27 (by decide) ?_
      refine xcallV_i (nn := 1) (w2 := fun u_ => (wM cI cC md T k tm dy P pk ptm pdy hpi tg tl (upN R 6 (R 6 + 1)) sg sl u0)) (wr := []) (rest := []) h0 (c_X6_no (xL κ) D cI cC md T k tm dy P pk ptm pdy hpi tg tl R sg sl u0 6 (by omega)) gX6_row_X6_no (by decide +kernel) rfl rfl rfl ⟨Nat.le_of_ble_eq_true rfl, Nat.le_of_ble_eq_true rfl⟩ ⟨by decide, by decide⟩ (fun _ _ _ _ h => h) (fun _ _ _ _ _ _ _ => trivial) rfl (Nat.le_of_ble_eq_true rfl) (q0 := 0) rfl rfl rfl [0, 1, 2, 3, 4, 5, 6, 7, 8, 9, 10, 11, 12, 13, 14, 15, 16, 17, 18, 19, 20, 21] [] [0, 1, 2, 3, 4, 5, 6, 7, 8, 9, 10, 11, 12, 13, 14, 15, 16, 17, 18, 19, 20, 21] ⟨rfl, rfl, rfl, rfl, rfl⟩ (fun _ => ⟨rfl, rfl⟩) dX6_row_29 (fun r_4 u_ hr_3 => ?_)
      subst hr_3
      exact xiret h0 dX6_row_32 u0 (by rw [hC, sel_n (by decide)]) (by rw [hC]; first | done | rfl)
    · skip
      refine xaload_n h0 0 dX6_row_17 rfl rfl ?_
      refine xget (C := RX6) (T := TX6) (N := 52) (ci := 6) (v := .int (nI tl)) h0 hiX6 0 rfl rfl 51 (by decide) (List.mem_of_getElem? (i := 1) rfl) rfl dX6_row_18 ?_
      refine xbipush (v := (nI 8)) h0 dX6_row_21 (by decide) ?_
      refine xncmp_ne (tgt := 33) h0 dX6_row_23 (by decide) (by omega) (by omega) (fun c_5 => ?_) (fun c_5 => ?_)
      · skip
        have hC : roC tl x = 0 := by unfold roC; rw [if_neg (not_not_intro c_1), if_neg (fun z => z.elim (fun y => absurd y (by assumption)) (fun y => by omega))]
        obtain ⟨j, hj, rfl⟩ := nI_of (Int32.not_lt.mpr c_1)
        refine xaload_n h0 0 dX6_row_33 rfl rfl ?_
        refine xget (C := RX6) (T := TX6) (N := 52) (ci := 6) (v := .ref (md 50)) h0 hiX6 0 rfl rfl 50 (by decide) (List.mem_of_getElem? (i := 2) rfl) rfl dX6_row_34 ?_
        refine xaload_n h0 0 dX6_row_37 rfl rfl ?_
        refine xget (C := RX6) (T := TX6) (N := 52) (ci := 6) (v := .int (nI tl)) h0 hiX6 0 rfl rfl 51 (by decide) (List.mem_of_getElem? (i := 1) rfl) rfl dX6_row_38 ?_
        refine xiload_n h0 1 dX6_row_41 rfl rfl ?_
        refine xiastN (ws' := (wM cI cC md T k tm dy P pk ptm pdy hpi (upN tg tl j) tl R sg sl u0)) h0 21 0 rfl rfl (by omega) (by decide) dX6_row_42 rfl ?_
        refine xaload_n h0 0 dX6_row_43 rfl rfl ?_
        refine xdup h0 dX6_row_44 rfl ?_
        refine xget (C := RX6) (T := TX6) (N := 52) (ci := 6) (v := .int (nI tl)) h0 hiX6 0 rfl rfl 51 (by decide) (List.mem_of_getElem? (i := 1) rfl) rfl dX6_row_45 ?_
        refine xiconst (v := (nI 1)) h0 dX6_row_48 (by decide) ?_
        refine xiadd (v := (nI (tl + 1))) h0 dX6_row_49 (nI_add _ _) ?_
        refine xput (ws' := (wM cI cC md T k tm dy P pk ptm pdy hpi (upN tg tl j) (tl + 1) R sg sl u0)) (C := RX6) (T := TX6) (N := 52) (ci := 6) (ty := tyX6 51) h0 hiX6 tyX6 tyX6_ok nmX6 0 rfl rfl 51 (by decide) (List.mem_of_getElem? (i := 1) rfl) rfl (by decide +kernel) (rfl) (rfl) (Nat.le_of_ble_eq_true rfl) dX6_row_50 rfl ?_
        refine xaload_n h0 0 dX6_row_53 rfl rfl ?_
        refine xget (C := RX6) (T := TX6) (N := 52) (ci := 6) (v := .int (nI (tl + 1))) h0 hiX6 0 rfl rfl 51 (by decide) (List.mem_of_getElem? (i := 1) rfl) rfl dX6_row_54 ?_
        exact xiret h0 dX6_row_57 u0 (by rw [hC, sel_0]; first | done | (rfl)) (by rw [hC, sel_0, sel_0, xn_n (by omega)]; first | done | rfl)
      · skip
        have hC : roC tl x = 6 := by unfold roC; rw [if_neg (not_not_intro c_1), if_pos (Or.inr (by omega))]
        refine xaload_n h0 0 dX6_row_26 rfl rfl ?_
        refine xbipush (v := (-6)) h0 dX6_row_27 (by decide) ?_
        refine xcallV_i (nn := 1) (w2 := fun u_ => (wM cI cC md T k tm dy P pk ptm pdy hpi tg tl (upN R 6 (R 6 + 1)) sg sl u0)) (wr := []) (rest := []) h0 (c_X6_no (xL κ) D cI cC md T k tm dy P pk ptm pdy hpi tg tl R sg sl u0 6 (by omega)) gX6_row_X6_no (by decide +kernel) rfl rfl rfl ⟨Nat.le_of_ble_eq_true rfl, Nat.le_of_ble_eq_true rfl⟩ ⟨by decide, by decide⟩ (fun _ _ _ _ h => h) (fun _ _ _ _ _ _ _ => trivial) rfl (Nat.le_of_ble_eq_true rfl) (q0 := 0) rfl rfl rfl [0, 1, 2, 3, 4, 5, 6, 7, 8, 9, 10, 11, 12, 13, 14, 15, 16, 17, 18, 19, 20, 21] [] [0, 1, 2, 3, 4, 5, 6, 7, 8, 9, 10, 11, 12, 13, 14, 15, 16, 17, 18, 19, 20, 21] ⟨rfl, rfl, rfl, rfl, rfl⟩ (fun _ => ⟨rfl, rfl⟩) dX6_row_29 (fun r_7 u_ hr_6 => ?_)
        subst hr_6
        exact xiret h0 dX6_row_32 u0 (by rw [hC, sel_n (by decide)]) (by rw [hC]; first | done | rfl)
  · skip
    have hC : roC tl x = 4 := by unfold roC; rw [if_pos c_1]
    refine xaload_n h0 0 dX6_row_4 rfl rfl ?_
    refine xbipush (v := (-4)) h0 dX6_row_5 (by decide) ?_
    refine xcallV_i (nn := 1) (w2 := fun u_ => (wM cI cC md T k tm dy P pk ptm pdy hpi tg tl (upN R 4 (R 4 + 1)) sg sl u0)) (wr := []) (rest := []) h0 (c_X6_no (xL κ) D cI cC md T k tm dy P pk ptm pdy hpi tg tl R sg sl u0 4 (by omega)) gX6_row_X6_no (by decide +kernel) rfl rfl rfl ⟨Nat.le_of_ble_eq_true rfl, Nat.le_of_ble_eq_true rfl⟩ ⟨by decide, by decide⟩ (fun _ _ _ _ h => h) (fun _ _ _ _ _ _ _ => trivial) rfl (Nat.le_of_ble_eq_true rfl) (q0 := 0) rfl rfl rfl [0, 1, 2, 3, 4, 5, 6, 7, 8, 9, 10, 11, 12, 13, 14, 15, 16, 17, 18, 19, 20, 21] [] [0, 1, 2, 3, 4, 5, 6, 7, 8, 9, 10, 11, 12, 13, 14, 15, 16, 17, 18, 19, 20, 21] ⟨rfl, rfl, rfl, rfl, rfl⟩ (fun _ => ⟨rfl, rfl⟩) dX6_row_7 (fun r_9 u_ hr_8 => ?_)
    subst hr_8
    exact xiret h0 dX6_row_10 u0 (by rw [hC, sel_n (by decide)]) (by rw [hC]; first | done | rfl)
set_option maxHeartbeats 4000000 in
set_option maxRecDepth 100000 in
theorem c_X6_judge (l : Launch) (D : va_G) (cI cC : ClassId) (md : Nat → Nat) (T : TT) (k tm dy : Nat) (P : TT) (pk ptm pdy hpi : Nat) (tg : Nat → Nat) (tl : Nat) (R : Nat → Nat) (sg : Nat → Nat) (sl : Nat) (u0 : ScmT)  (hT : TOK T) (hk : k < 256) (hP : TOK P) (hpk : pk < 256) (htl : tl ≤ 8) (hsl : sl ≤ 64) (hhp : hpi < 2) (htg : ∀ i, tg i ≤ 9) : XMi l yX6_judge wsX6_judge ({ frames := 3, cells := 0, slots := 0, locals := 73 } : Room) D (xT cI cC) xE0 (wM cI cC md T k tm dy P pk ptm pdy hpi tg tl R sg sl u0) [.ref (md 1)] (S := ScmT) (fun r _ => r = sel (if tl = 0 then 3 else 0) (jdS T k tg tl) (-(nI (if tl = 0 then 3 else 0)))) (fun u => wM cI cC md T k tm dy P pk ptm pdy hpi tg (sel (if tl = 0 then 3 else 0) 0 tl) (bmp R (if tl = 0 then 3 else 0)) sg sl u) 0 0 := by
  refine xMet_i (cc := cX6_judge) (nL := 5) (ret := some .int) (by decide +kernel) rfl (Nat.le_of_ble_eq_true rfl) (fun κ A h0 hn0 hE => ?_)
  have hiX6 : ∀ w ∈ u_ws RX6 TX6 52, w ∈ wsX6_judge := by decide +kernel
  refine xlv (lv' := [(0, .ref (md 1))]) [0] rfl ?_
  have hn := hT.1
  refine xaload_n h0 0 dX6_judge_0 rfl rfl ?_
  refine xget (C := RX6) (T := TX6) (N := 52) (ci := 6) (v := .int (nI tl)) h0 hiX6 0 rfl rfl 51 (by decide) (List.mem_of_getElem? (i := 1) rfl) rfl dX6_judge_1 ?_
  refine xnif_ne (tgt := 14) h0 dX6_judge_4 (by decide) (by omega) (fun c_1 => ?_) (fun c_1 => ?_)
  · skip
    have hC : (if tl = 0 then 3 else 0) = 0 := by rw [if_neg (by omega)]
    refine xaload_n h0 0 dX6_judge_14 rfl rfl ?_
    refine xget (C := RX6) (T := TX6) (N := 52) (ci := 6) (v := .int (nI tl)) h0 hiX6 0 rfl rfl 51 (by decide) (List.mem_of_getElem? (i := 1) rfl) rfl dX6_judge_15 ?_
    refine xistore_n (lv' := [(1, .int (nI tl)), (0, .ref (md 1))]) h0 dX6_judge_18 rfl (by decide) rfl ?_
    refine xiconst (v := (nI 0)) h0 dX6_judge_19 (by decide) ?_
    refine xistore_n (lv' := [(2, .int (nI 0)), (1, .int (nI tl)), (0, .ref (md 1))]) h0 dX6_judge_20 rfl (by decide) rfl ?_
    refine xaload_n h0 2 dX6_judge_21 rfl rfl ?_
    refine xiconst (v := (nI 0)) h0 dX6_judge_22 (by decide) ?_
    refine xput (ws' := (wM cI cC md T k tm dy P pk ptm pdy hpi tg 0 R sg sl u0)) (C := RX6) (T := TX6) (N := 52) (ci := 6) (ty := tyX6 51) h0 hiX6 tyX6 tyX6_ok nmX6 0 rfl rfl 51 (by decide) (List.mem_of_getElem? (i := 1) rfl) rfl (by decide +kernel) (rfl) (rfl) (Nat.le_of_ble_eq_true rfl) dX6_judge_23 rfl ?_
    refine xiconst (v := (nI 0)) h0 dX6_judge_26 (by decide) ?_
    refine xistore_n (lv' := [(3, .int (nI 0)), (2, .int (nI 0)), (1, .int (nI tl)), (0, .ref (md 1))]) h0 dX6_judge_27 rfl (by decide) rfl ?_
    have lp : ∀ (d_ : Nat) (i : Nat) (w : List Nat), (9 - i ≤ d_) → (i ≤ tl) → (okP T w) → (w.length = i) → (0 < i → tg (i - 1) < T 5 0) → (0 < i → 1 ≤ cdS (mskL w)) → (jdK T k tg tl (tl - i) i (mskL w) = jdS T k tg tl) → XG κ 5 D (xT cI cC) A (xQi (S := ScmT) κ D (xT cI cC) A (fun r _ => r = sel (if tl = 0 then 3 else 0) (jdS T k tg tl) (-(nI (if tl = 0 then 3 else 0)))) (fun u => wM cI cC md T k tm dy P pk ptm pdy hpi tg (sel (if tl = 0 then 3 else 0) 0 tl) (bmp R (if tl = 0 then 3 else 0)) sg sl u) 0 0) (wM cI cC md T k tm dy P pk ptm pdy hpi tg 0 R sg sl u0) 0 0 28 [(0, .ref (md 1)), (1, .int (nI tl)), (2, .int (nI (mskL w))), (3, .int (nI i))] [] := by
      intro d_
      induction d_ with
      | zero => intro i w hm_ hi hw hl hpl hS1 hr; exact absurd hm_ (by omega)
      | succ d_ ih_lp =>
        intro i w hm_ hi hw hl hpl hS1 hr
        have hm256 : mskL w < 256 := mskL_lt w (okP_8 hT hw)
        have hopl := mayS_lt hT (tg (i - 1)) (mskL w) k 8
        have htgi := htg i
        refine xiload_n h0 3 dX6_judge_28 rfl rfl ?_
        refine xiload_n h0 1 dX6_judge_29 rfl rfl ?_
        refine xncmp_ge (tgt := 107) h0 dX6_judge_30 (by decide) (by omega) (by omega) (fun c_2 => ?_) (fun c_2 => ?_)
        · skip
          have hit : i = tl := by omega
          have hpl2 : tg (tl - 1) < T 5 0 := by have := hpl (by omega); rwa [hit] at this
          have hS2 := hS1 (by omega)
          refine xaload_n h0 0 dX6_judge_107 rfl rfl ?_
          refine xaload_n h0 0 dX6_judge_108 rfl rfl ?_
          refine xget (C := RX6) (T := TX6) (N := 52) (ci := 6) (v := .ref (md 50)) h0 hiX6 0 rfl rfl 50 (by decide) (List.mem_of_getElem? (i := 2) rfl) rfl dX6_judge_109 ?_
          refine xiload_n h0 1 dX6_judge_112 rfl rfl ?_
          refine xiconst (v := (nI 1)) h0 dX6_judge_113 (by decide) ?_
          refine xisub (v := (nI (tl - 1))) h0 dX6_judge_114 (pk_sub (by omega)) ?_
          refine xiald (v := (nI (tg (tl - 1)))) h0 21 0 rfl rfl (by omega) (by decide) dX6_judge_115 (rfl) ?_
          refine xiload_n h0 2 dX6_judge_116 rfl rfl ?_
          refine xaload_n h0 0 dX6_judge_117 rfl rfl ?_
          refine xget (C := RX6) (T := TX6) (N := 52) (ci := 6) (v := .int (nI k)) h0 hiX6 0 rfl rfl 3 (by decide) (List.mem_of_getElem? (i := 3) rfl) rfl dX6_judge_118 ?_
          refine xiconst (v := (-1)) h0 dX6_judge_121 (by decide) ?_
          refine xcallV_i (nn := 4) (w2 := fun u_ => (wM cI cC md T k tm dy P pk ptm pdy hpi tg 0 R sg sl u0)) (wr := []) (rest := []) h0 (c_X6_mayTo (xL κ) D cI cC md T k tm dy P pk ptm pdy hpi tg 0 R sg sl u0 (tg (tl - 1)) (mskL w) k 8 (-1) hT (by exact hpl2) (by exact hm256) (by exact hS2) (by exact hk) mx_8) gX6_judge_X6_mayTo (by decide +kernel) rfl rfl rfl ⟨Nat.le_of_ble_eq_true rfl, Nat.le_of_ble_eq_true rfl⟩ ⟨by decide, by decide⟩ (fun _ _ _ _ h => h) (fun _ _ _ _ _ _ _ => trivial) rfl (Nat.le_of_ble_eq_true rfl) (q0 := 0) rfl rfl rfl [0, 1, 2, 3, 4, 5, 6, 7, 8, 9, 10, 11, 12, 13, 14, 15, 16, 17, 18, 19, 20, 21] [] [0, 1, 2, 3, 4, 5, 6, 7, 8, 9, 10, 11, 12, 13, 14, 15, 16, 17, 18, 19, 20, 21] ⟨rfl, rfl, rfl, rfl, rfl⟩ (fun _ => ⟨rfl, rfl⟩) dX6_judge_122 (fun r_4 u_ hr_3 => ?_)
          subst hr_3
          refine xnif_ne (tgt := 133) h0 dX6_judge_125 (by decide) (by exact Nat.lt_trans (mayS_lt hT _ _ _ _) (by decide)) (fun c_5 => ?_) (fun c_5 => ?_)
          · skip
            refine xiload_n h0 1 dX6_judge_133 rfl rfl ?_
            exact xiret h0 dX6_judge_134 u0 (by rw [hC, sel_0]; first | done | (rw [← hr, show tl - i = 0 by omega]; show _ = (if mayS T (tg (tl - 1)) (mskL w) k 8 = 0 then (-9) else nI tl); first | (rw [if_pos (by assumption)]; done) | (rw [if_neg (by omega)]; done))) (by rw [hC, sel_0]; first | done | rfl)
          · skip
            refine xbipush (v := (-9)) h0 dX6_judge_128 (by decide) ?_
            refine xgoto (tgt := 134) h0 dX6_judge_130 (by decide) ?_
            exact xiret h0 dX6_judge_134 u0 (by rw [hC, sel_0]; first | done | (rw [← hr, show tl - i = 0 by omega]; show _ = (if mayS T (tg (tl - 1)) (mskL w) k 8 = 0 then (-9) else nI tl); first | (rw [if_pos (by assumption)]; done) | (rw [if_neg (by omega)]; done))) (by rw [hC, sel_0]; first | done | rfl)
        · skip
          refine xaload_n h0 0 dX6_judge_33 rfl rfl ?_
          refine xget (C := RX6) (T := TX6) (N := 52) (ci := 6) (v := .ref (md 50)) h0 hiX6 0 rfl rfl 50 (by decide) (List.mem_of_getElem? (i := 2) rfl) rfl dX6_judge_34 ?_
          refine xiload_n h0 3 dX6_judge_37 rfl rfl ?_
          refine xiald (v := (nI (tg i))) h0 21 0 rfl rfl (by omega) (by decide) dX6_judge_38 (rfl) ?_
          refine xistore (lv' := [(4, .int (nI (tg i))), (0, .ref (md 1)), (1, .int (nI tl)), (2, .int (nI (mskL w))), (3, .int (nI i))]) h0 dX6_judge_39 (by decide) rfl ?_
          refine xaload_n h0 1 dX6_judge_41 rfl rfl ?_
          refine xiload h0 0 dX6_judge_42 rfl ?_
          refine xcallV_i (nn := 1) (w2 := fun u_ => (wM cI cC md T k tm dy P pk ptm pdy hpi tg 0 R sg sl u0)) (wr := []) (rest := []) h0 (c_X6_isNobody (xL κ) D cI cC md T k tm dy P pk ptm pdy hpi tg 0 R sg sl u0 (nI (tg i)) (by exact hn)) gX6_judge_X6_isNobody (by decide +kernel) rfl rfl rfl ⟨Nat.le_of_ble_eq_true rfl, Nat.le_of_ble_eq_true rfl⟩ ⟨by decide, by decide⟩ (fun _ _ _ _ h => h) (fun _ _ _ _ _ _ _ => trivial) rfl (Nat.le_of_ble_eq_true rfl) (q0 := 0) rfl rfl rfl [0, 1, 2, 3, 4, 5, 6, 7, 8, 9, 10, 11, 12, 13, 14, 15, 16, 17, 18, 19, 20, 21] [] [0, 1, 2, 3, 4, 5, 6, 7, 8, 9, 10, 11, 12, 13, 14, 15, 16, 17, 18, 19, 20, 21] ⟨rfl, rfl, rfl, rfl, rfl⟩ (fun _ => ⟨rfl, rfl⟩) dX6_judge_44 (fun r_7 u_ hr_6 => ?_)
          subst hr_6
          refine xbif_ne (tgt := 92) h0 dX6_judge_47 (by decide)  (fun c_8 => ?_) (fun c_8 => ?_)
          · skip
            have hbad : ¬ tg i < T 5 0 := fun z => c_8 ((okN_n hn (by have := htg i; omega)).mpr z)
            refine xiload_n h0 4 dX6_judge_92 rfl rfl ?_
            exact xiret h0 dX6_judge_93 u0 (by rw [hC, sel_0]; first | done | (rw [← hr, show tl - i = (tl - (i + 1)) + 1 by omega]; first | exact (jd_y (Or.inl hbad)).symm | exact (jd_y (Or.inr (Or.inl (by assumption)))).symm | exact (jd_y (Or.inr (Or.inr ⟨by omega, by assumption⟩))).symm)) (by rw [hC, sel_0]; first | done | rfl)
          · skip
            have htn : tg i < T 5 0 := (okN_n hn (by have := htg i; omega)).mp (Decidable.of_not_not c_8)
            refine xaload_n h0 1 dX6_judge_50 rfl rfl ?_
            refine xget (C := RX6) (T := TX6) (N := 52) (ci := 6) (v := .int (nI k)) h0 hiX6 0 rfl rfl 3 (by decide) (List.mem_of_getElem? (i := 3) rfl) rfl dX6_judge_51 ?_
            refine xiload h0 0 dX6_judge_54 rfl ?_
            refine xcallS_i (nn := 2) (w2 := fun u_ => (wM cI cC md T k tm dy P pk ptm pdy hpi tg 0 R sg sl u0)) (wr := [(md 1, .inr (6, [.ref (md 0), .int (nI (T 5 0)), .int (nI (T 5 1)), .int (nI k), .int (nI tm), .int (nI dy), .ref (md 6), .ref (md 7), .ref (md 8), .ref (md 9), .ref (md 10), .int (nI hpi), .int (nI (P 5 0)), .int (nI (P 5 1)), .int (nI pk), .int (nI ptm), .int (nI pdy), .ref (md 17), .ref (md 18), .ref (md 19), .ref (md 20), .ref (md 21), .ref (md 22), .int (nI sl), .int (nI (u0.1 24)), .int (nI (u0.1 25)), .ref (md 26), .ref (md 27), .ref (md 28), .int (nI (u0.1 29)), .ref (md 30), .ref (md 31), .int (nI (u0.1 32)), .int (nI (u0.1 33)), .int (nI (u0.1 34)), .int (oI u0.2.2), .int (nI (u0.1 36)), .int (nI (u0.1 37)), .int (nI (u0.1 38)), .int (nI (u0.1 39)), .ref (md 40), .int (nI (u0.1 41)), .int (nI (u0.1 42)), .int (nI (u0.1 43)), .ref (md 44), .int (nI (u0.1 45)), .int (nI (u0.1 46)), .ref (md 47), .int (nI (u0.1 48)), .int (nI (u0.1 49)), .ref (md 50), .int (nI 0)])), (md 0, .inl (cI, 7, .inl (fun i_ => nI (R i_)))), (md 6, .inl (cI, 8, .inl (fun i_ => nI (T 0 i_)))), (md 7, .inl (cI, 8, .inl (fun i_ => nI (T 1 i_)))), (md 8, .inl (cI, 8, .inl (fun i_ => nI (T 2 i_)))), (md 9, .inl (cI, 8, .inl (fun i_ => nI (T 3 i_)))), (md 10, .inl (cI, 64, .inl (fun i_ => nI (T 4 i_)))), (md 17, .inl (cI, 8, .inl (fun i_ => nI (P 0 i_)))), (md 18, .inl (cI, 8, .inl (fun i_ => nI (P 1 i_)))), (md 19, .inl (cI, 8, .inl (fun i_ => nI (P 2 i_)))), (md 20, .inl (cI, 8, .inl (fun i_ => nI (P 3 i_)))), (md 21, .inl (cI, 64, .inl (fun i_ => nI (P 4 i_)))), (md 22, .inl (cI, 64, .inl (fun i_ => nI (sg i_)))), (md 26, .inl (cC, 4, .inl (fun i_ => nI (sortsN i_)))), (md 27, .inl (cC, 5, .inl (fun i_ => nI (askersN i_)))), (md 28, .inl (cC, 5, .inl (fun i_ => nI (sayersN i_)))), (md 30, .inl (cI, 4, .inl (fun i_ => nI ((u0.2.1 30) i_)))), (md 31, .inl (cI, 8, .inl (fun i_ => nI ((u0.2.1 31) i_)))), (md 40, .inl (cI, 8, .inl (fun i_ => nI ((u0.2.1 40) i_)))), (md 44, .inl (cI, 8, .inl (fun i_ => nI ((u0.2.1 44) i_)))), (md 47, .inl (cI, 8, .inl (fun i_ => nI ((u0.2.1 47) i_)))), (md 50, .inl (cI, 8, .inl (fun i_ => nI (tg i_))))]) (rest := []) h0 (c_X6_isIn (xL κ) D cI cC k (tg i) (by omega) (by omega)) gX6_judge_X6_isIn (by decide +kernel) rfl rfl rfl ⟨Nat.le_of_ble_eq_true rfl, Nat.le_of_ble_eq_true rfl⟩ ⟨by decide, by decide⟩ (fun _ _ _ _ h => h) (fun _ _ _ _ _ _ _ => trivial) rfl (Nat.le_of_ble_eq_true rfl) rfl [] [0, 1, 2, 3, 4, 5, 6, 7, 8, 9, 10, 11, 12, 13, 14, 15, 16, 17, 18, 19, 20, 21] [0, 1, 2, 3, 4, 5, 6, 7, 8, 9, 10, 11, 12, 13, 14, 15, 16, 17, 18, 19, 20, 21] ⟨rfl, rfl, rfl, rfl, rfl⟩ (fun _ => ⟨rfl, rfl⟩) dX6_judge_56 (fun r_10 u_ hr_9 => ?_)
            subst hr_9
            refine xbif_ne (tgt := 92) h0 dX6_judge_59 (by decide)  (fun c_11 => ?_) (fun c_11 => ?_)
            · skip
              refine xiload_n h0 4 dX6_judge_92 rfl rfl ?_
              exact xiret h0 dX6_judge_93 u0 (by rw [hC, sel_0]; first | done | (rw [← hr, show tl - i = (tl - (i + 1)) + 1 by omega]; first | exact (jd_y (Or.inl hbad)).symm | exact (jd_y (Or.inr (Or.inl (by assumption)))).symm | exact (jd_y (Or.inr (Or.inr ⟨by omega, by assumption⟩))).symm)) (by rw [hC, sel_0]; first | done | rfl)
            · skip
              refine xiload_n h0 4 dX6_judge_62 rfl rfl ?_
              refine xnif_le (tgt := 94) h0 dX6_judge_63 (by decide) (by omega) (fun c_12 => ?_) (fun c_12 => ?_)
              · skip
                have hbo : 0 < i → (mayS T (tg (i - 1)) (mskL w) k 8).testBit (tg i) = true := fun z => absurd z (by omega)
                have hnw : tg i ∉ w := by rcases Nat.eq_zero_or_pos i with z | z; (have : w = [] := List.length_eq_zero_iff.mp (by omega); rw [this]; simp); exact (may_out (T := T) (been := k) (mu := 8) (p := tg (i - 1)) (hbo z)).2
                have hw2 := okP_snoc hw htn hnw
                have h8w := okP_8 hT hw2
                refine xiload_n h0 3 dX6_judge_94 rfl rfl ?_
                refine xiconst (v := (nI 1)) h0 dX6_judge_95 (by decide) ?_
                refine xiload h0 0 dX6_judge_96 rfl ?_
                refine xishl (v := (nI (2 ^ tg i))) h0 dX6_judge_98 (nI_shl1 _ (by omega)) ?_
                refine xior (v := (nI (mskL (w ++ [tg i])))) h0 dX6_judge_99 ((nx_or _ _).trans (congrArg nI (mskL_snoc w (tg i)).symm)) ?_
                refine xistore_n (lv' := [(2, .int (nI (mskL (w ++ [tg i])))), (4, .int (nI (tg i))), (0, .ref (md 1)), (1, .int (nI tl)), (3, .int (nI i))]) h0 dX6_judge_100 rfl (by decide) rfl ?_
                refine xiinc (v := (nI (i + 1))) (lv' := [(3, .int (nI (i + 1))), (2, .int (nI (mskL (w ++ [tg i])))), (4, .int (nI (tg i))), (0, .ref (md 1)), (1, .int (nI tl))]) h0 4 dX6_judge_101 rfl (nI_add _ _) (by decide) rfl ?_
                refine xgoto (tgt := 28) h0 dX6_judge_104 (by decide) ?_
                refine xlv [3, 4, 1, 0] rfl ?_
                exact ih_lp (i + 1) (w ++ [tg i]) (by omega) (by omega) (by exact hw2) (by rw [List.length_append, List.length_singleton, hl]) (by intro _; exact htn) (by intro _; exact cd_msk h8w) (by rw [← hr, show tl - i = (tl - (i + 1)) + 1 by omega, jd_n (fun z => z.elim (fun y => y htn) (fun y => y.elim (fun v => absurd v (by assumption)) (fun v => v.2 (hbo v.1)))), mskL_snoc])
              · skip
                refine xaload_n h0 1 dX6_judge_66 rfl rfl ?_
                refine xaload_n h0 1 dX6_judge_67 rfl rfl ?_
                refine xget (C := RX6) (T := TX6) (N := 52) (ci := 6) (v := .ref (md 50)) h0 hiX6 0 rfl rfl 50 (by decide) (List.mem_of_getElem? (i := 2) rfl) rfl dX6_judge_68 ?_
                refine xiload_n h0 4 dX6_judge_71 rfl rfl ?_
                refine xiconst (v := (nI 1)) h0 dX6_judge_72 (by decide) ?_
                refine xisub (v := (nI (i - 1))) h0 dX6_judge_73 (pk_sub (by omega)) ?_
                refine xiald (v := (nI (tg (i - 1)))) h0 21 0 rfl rfl (by omega) (by decide) dX6_judge_74 (rfl) ?_
                refine xiload_n h0 3 dX6_judge_75 rfl rfl ?_
                refine xaload_n h0 1 dX6_judge_76 rfl rfl ?_
                refine xget (C := RX6) (T := TX6) (N := 52) (ci := 6) (v := .int (nI k)) h0 hiX6 0 rfl rfl 3 (by decide) (List.mem_of_getElem? (i := 3) rfl) rfl dX6_judge_77 ?_
                refine xiconst (v := (-1)) h0 dX6_judge_80 (by decide) ?_
                refine xcallV_i (nn := 4) (w2 := fun u_ => (wM cI cC md T k tm dy P pk ptm pdy hpi tg 0 R sg sl u0)) (wr := []) (rest := []) h0 (c_X6_mayTo (xL κ) D cI cC md T k tm dy P pk ptm pdy hpi tg 0 R sg sl u0 (tg (i - 1)) (mskL w) k 8 (-1) hT (by exact hpl (by omega)) (by exact hm256) (by exact hS1 (by omega)) (by exact hk) mx_8) gX6_judge_X6_mayTo (by decide +kernel) rfl rfl rfl ⟨Nat.le_of_ble_eq_true rfl, Nat.le_of_ble_eq_true rfl⟩ ⟨by decide, by decide⟩ (fun _ _ _ _ h => h) (fun _ _ _ _ _ _ _ => trivial) rfl (Nat.le_of_ble_eq_true rfl) (q0 := 0) rfl rfl rfl [0, 1, 2, 3, 4, 5, 6, 7, 8, 9, 10, 11, 12, 13, 14, 15, 16, 17, 18, 19, 20, 21] [] [0, 1, 2, 3, 4, 5, 6, 7, 8, 9, 10, 11, 12, 13, 14, 15, 16, 17, 18, 19, 20, 21] ⟨rfl, rfl, rfl, rfl, rfl⟩ (fun _ => ⟨rfl, rfl⟩) dX6_judge_81 (fun r_14 u_ hr_13 => ?_)
                subst hr_13
                refine xiload h0 0 dX6_judge_84 rfl ?_
                refine xcallS_i (nn := 2) (w2 := fun u_ => (wM cI cC md T k tm dy P pk ptm pdy hpi tg 0 R sg sl u0)) (wr := [(md 1, .inr (6, [.ref (md 0), .int (nI (T 5 0)), .int (nI (T 5 1)), .int (nI k), .int (nI tm), .int (nI dy), .ref (md 6), .ref (md 7), .ref (md 8), .ref (md 9), .ref (md 10), .int (nI hpi), .int (nI (P 5 0)), .int (nI (P 5 1)), .int (nI pk), .int (nI ptm), .int (nI pdy), .ref (md 17), .ref (md 18), .ref (md 19), .ref (md 20), .ref (md 21), .ref (md 22), .int (nI sl), .int (nI (u0.1 24)), .int (nI (u0.1 25)), .ref (md 26), .ref (md 27), .ref (md 28), .int (nI (u0.1 29)), .ref (md 30), .ref (md 31), .int (nI (u0.1 32)), .int (nI (u0.1 33)), .int (nI (u0.1 34)), .int (oI u0.2.2), .int (nI (u0.1 36)), .int (nI (u0.1 37)), .int (nI (u0.1 38)), .int (nI (u0.1 39)), .ref (md 40), .int (nI (u0.1 41)), .int (nI (u0.1 42)), .int (nI (u0.1 43)), .ref (md 44), .int (nI (u0.1 45)), .int (nI (u0.1 46)), .ref (md 47), .int (nI (u0.1 48)), .int (nI (u0.1 49)), .ref (md 50), .int (nI 0)])), (md 0, .inl (cI, 7, .inl (fun i_ => nI (R i_)))), (md 6, .inl (cI, 8, .inl (fun i_ => nI (T 0 i_)))), (md 7, .inl (cI, 8, .inl (fun i_ => nI (T 1 i_)))), (md 8, .inl (cI, 8, .inl (fun i_ => nI (T 2 i_)))), (md 9, .inl (cI, 8, .inl (fun i_ => nI (T 3 i_)))), (md 10, .inl (cI, 64, .inl (fun i_ => nI (T 4 i_)))), (md 17, .inl (cI, 8, .inl (fun i_ => nI (P 0 i_)))), (md 18, .inl (cI, 8, .inl (fun i_ => nI (P 1 i_)))), (md 19, .inl (cI, 8, .inl (fun i_ => nI (P 2 i_)))), (md 20, .inl (cI, 8, .inl (fun i_ => nI (P 3 i_)))), (md 21, .inl (cI, 64, .inl (fun i_ => nI (P 4 i_)))), (md 22, .inl (cI, 64, .inl (fun i_ => nI (sg i_)))), (md 26, .inl (cC, 4, .inl (fun i_ => nI (sortsN i_)))), (md 27, .inl (cC, 5, .inl (fun i_ => nI (askersN i_)))), (md 28, .inl (cC, 5, .inl (fun i_ => nI (sayersN i_)))), (md 30, .inl (cI, 4, .inl (fun i_ => nI ((u0.2.1 30) i_)))), (md 31, .inl (cI, 8, .inl (fun i_ => nI ((u0.2.1 31) i_)))), (md 40, .inl (cI, 8, .inl (fun i_ => nI ((u0.2.1 40) i_)))), (md 44, .inl (cI, 8, .inl (fun i_ => nI ((u0.2.1 44) i_)))), (md 47, .inl (cI, 8, .inl (fun i_ => nI ((u0.2.1 47) i_)))), (md 50, .inl (cI, 8, .inl (fun i_ => nI (tg i_))))]) (rest := []) h0 (c_X6_isIn (xL κ) D cI cC (mayS T (tg (i - 1)) (mskL w) k 8) (tg i) (by omega) (by omega)) gX6_judge_X6_isIn (by decide +kernel) rfl rfl rfl ⟨Nat.le_of_ble_eq_true rfl, Nat.le_of_ble_eq_true rfl⟩ ⟨by decide, by decide⟩ (fun _ _ _ _ h => h) (fun _ _ _ _ _ _ _ => trivial) rfl (Nat.le_of_ble_eq_true rfl) rfl [] [0, 1, 2, 3, 4, 5, 6, 7, 8, 9, 10, 11, 12, 13, 14, 15, 16, 17, 18, 19, 20, 21] [0, 1, 2, 3, 4, 5, 6, 7, 8, 9, 10, 11, 12, 13, 14, 15, 16, 17, 18, 19, 20, 21] ⟨rfl, rfl, rfl, rfl, rfl⟩ (fun _ => ⟨rfl, rfl⟩) dX6_judge_86 (fun r_16 u_ hr_15 => ?_)
                subst hr_15
                refine xbif_ne (tgt := 94) h0 dX6_judge_89 (by decide)  (fun c_17 => ?_) (fun c_17 => ?_)
                · skip
                  have hbo : 0 < i → (mayS T (tg (i - 1)) (mskL w) k 8).testBit (tg i) = true := fun _ => c_17
                  have hnw : tg i ∉ w := by rcases Nat.eq_zero_or_pos i with z | z; (have : w = [] := List.length_eq_zero_iff.mp (by omega); rw [this]; simp); exact (may_out (T := T) (been := k) (mu := 8) (p := tg (i - 1)) (hbo z)).2
                  have hw2 := okP_snoc hw htn hnw
                  have h8w := okP_8 hT hw2
                  refine xiload_n h0 3 dX6_judge_94 rfl rfl ?_
                  refine xiconst (v := (nI 1)) h0 dX6_judge_95 (by decide) ?_
                  refine xiload h0 0 dX6_judge_96 rfl ?_
                  refine xishl (v := (nI (2 ^ tg i))) h0 dX6_judge_98 (nI_shl1 _ (by omega)) ?_
                  refine xior (v := (nI (mskL (w ++ [tg i])))) h0 dX6_judge_99 ((nx_or _ _).trans (congrArg nI (mskL_snoc w (tg i)).symm)) ?_
                  refine xistore_n (lv' := [(2, .int (nI (mskL (w ++ [tg i])))), (4, .int (nI (tg i))), (0, .ref (md 1)), (1, .int (nI tl)), (3, .int (nI i))]) h0 dX6_judge_100 rfl (by decide) rfl ?_
                  refine xiinc (v := (nI (i + 1))) (lv' := [(3, .int (nI (i + 1))), (2, .int (nI (mskL (w ++ [tg i])))), (4, .int (nI (tg i))), (0, .ref (md 1)), (1, .int (nI tl))]) h0 4 dX6_judge_101 rfl (nI_add _ _) (by decide) rfl ?_
                  refine xgoto (tgt := 28) h0 dX6_judge_104 (by decide) ?_
                  refine xlv [3, 4, 1, 0] rfl ?_
                  exact ih_lp (i + 1) (w ++ [tg i]) (by omega) (by omega) (by exact hw2) (by rw [List.length_append, List.length_singleton, hl]) (by intro _; exact htn) (by intro _; exact cd_msk h8w) (by rw [← hr, show tl - i = (tl - (i + 1)) + 1 by omega, jd_n (fun z => z.elim (fun y => y htn) (fun y => y.elim (fun v => absurd v (by assumption)) (fun v => v.2 (hbo v.1)))), mskL_snoc])
                · skip
                  refine xiload_n h0 4 dX6_judge_92 rfl rfl ?_
                  exact xiret h0 dX6_judge_93 u0 (by rw [hC, sel_0]; first | done | (rw [← hr, show tl - i = (tl - (i + 1)) + 1 by omega]; first | exact (jd_y (Or.inl hbad)).symm | exact (jd_y (Or.inr (Or.inl (by assumption)))).symm | exact (jd_y (Or.inr (Or.inr ⟨by omega, by assumption⟩))).symm)) (by rw [hC, sel_0]; first | done | rfl)
    refine xlv [3, 2, 1, 0] rfl ?_
    exact lp (9) 0 ([] : List Nat) (by omega) (by omega) (by exact okP_nil T) (by rfl) (by intro z; exact absurd z (by decide)) (by intro z; exact absurd z (by decide)) (by rfl)
  · skip
    have hC : (if tl = 0 then 3 else 0) = 3 := by rw [if_pos (by omega)]
    refine xaload_n h0 0 dX6_judge_7 rfl rfl ?_
    refine xbipush (v := (-3)) h0 dX6_judge_8 (by decide) ?_
    refine xcallV_i (nn := 1) (w2 := fun u_ => (wM cI cC md T k tm dy P pk ptm pdy hpi tg tl (upN R 3 (R 3 + 1)) sg sl u0)) (wr := []) (rest := []) h0 (c_X6_no (xL κ) D cI cC md T k tm dy P pk ptm pdy hpi tg tl R sg sl u0 3 (by omega)) gX6_judge_X6_no (by decide +kernel) rfl rfl rfl ⟨Nat.le_of_ble_eq_true rfl, Nat.le_of_ble_eq_true rfl⟩ ⟨by decide, by decide⟩ (fun _ _ _ _ h => h) (fun _ _ _ _ _ _ _ => trivial) rfl (Nat.le_of_ble_eq_true rfl) (q0 := 0) rfl rfl rfl [0, 1, 2, 3, 4, 5, 6, 7, 8, 9, 10, 11, 12, 13, 14, 15, 16, 17, 18, 19, 20, 21] [] [0, 1, 2, 3, 4, 5, 6, 7, 8, 9, 10, 11, 12, 13, 14, 15, 16, 17, 18, 19, 20, 21] ⟨rfl, rfl, rfl, rfl, rfl⟩ (fun _ => ⟨rfl, rfl⟩) dX6_judge_10 (fun r_19 u_ hr_18 => ?_)
    subst hr_18
    exact xiret h0 dX6_judge_13 u0 (by rw [hC, sel_n (by decide)]) (by rw [hC]; first | done | rfl)
