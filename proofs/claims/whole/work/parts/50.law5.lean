/-! THE LAW: its loop, its beginning -/
set_option maxHeartbeats 4000000 in
set_option maxRecDepth 100000 in
theorem law_loop {κ : Cx} {A : Nat → Prop} {D : va_G} {cI cC : ClassId} {Q : State → Prop} {z0 b L : Nat} {aK aV : Nat → Nat} {xs : Nat → Int32} {ad ta pa ia md : Nat → Nat} (h0 : XC κ cL_law 4 (some .boolean) RL wsL_law room_1 A) (hE : xES z0 aK aV (xS κ)) (hAz : ∀ q : Nat, A q → z0 ≤ q) (hX : va_X b L xs (xS κ) (xS κ).heap) (hbl : b < (xS κ).heap.size) (hbA : ¬ A b) (hL : L ≤ 2048) (hend : ∀ (ws : va_W) (lv : List (Nat × Value)), XG κ 4 D (xT cI cC) A Q ws 62 909 874 lv [.int (nI 1)]) (hZ : LZ z0 ad ta pa ia) : ∀ (d i : Nat), L + 1 - i ≤ d → i ≤ L → LK κ D cI cC A Q ad ta pa ia md b i 18 := by
  intro d
  induction d with
  | zero => intro i h1 h2; omega
  | succ d ih =>
    intro i h1 h2 T k tm dy P pk ptm pdy hpi tg tl R sg sl u0 m0 hI
    obtain ⟨y, hy⟩ : ∃ y, xs i = y := ⟨_, rfl⟩
    refine xiload_n h0 0 dL_law_18 rfl rfl ?_
    refine xaload_n h0 3 dL_law_19 rfl rfl ?_
    refine xslen h0 hX hbl hbA dL_law_20 ?_
    refine xiconst (v := (nI 4)) h0 dL_law_21 (by decide) ?_
    refine xisub (v := (nI L - nI 4)) h0 dL_law_22 rfl ?_
    refine xicmp_gt (tgt := 873) h0 dL_law_23 (by decide)  (fun c_1 => ?_) (fun c_1 => ?_)
    · skip
      refine xiconst (v := (nI 1)) h0 dL_law_873 (by decide) ?_
      exact hend _ _
    · skip
      have hi4 := ls_le (i := i) (L := L) (by omega) (by omega) (Int32.not_lt.mp c_1)
      have hnext : LK κ D cI cC A Q ad ta pa ia md b i 867 := by
        intro T k tm dy P pk ptm pdy hpi tg tl R sg sl u0 m0 hI
        refine xiinc (v := (nI (i + 4))) (lv' := [(3, .int (nI (i + 4))), (2, .ref (md 1)), (1, .ref (ad 0)), (0, .ref b)]) h0 0 dL_law_867 rfl (nI_add _ _) (by decide) rfl ?_
        refine xgoto (tgt := 18) h0 dL_law_870 (by decide) ?_
        exact ih (i + 4) (by omega) (by omega) T k tm dy P pk ptm pdy hpi tg tl R sg sl u0 m0 hI
      refine xaload_n h0 3 dL_law_26 rfl rfl ?_
      refine xiload_n h0 0 dL_law_27 rfl rfl ?_
      refine xsld (v := y) h0 hX hbl hbA (by omega) (by omega) hy dL_law_28 ?_
      refine xbipush (v := (nI 31)) h0 dL_law_29 (by decide) ?_
      refine xiand (v := (y &&& nI 31)) h0 dL_law_31 rfl ?_
      rcases (Decidable.em ((y &&& nI 31) = nI 0)) with k_2 | k_2
      · skip
        refine xtabI (j := 0) (off := 124) (tgt := 156) h0 dL_law_32 k_2 (by decide) (by decide) rfl (by decide) ?_
        exact lc_letter h0 ⟨hE, hAz, hX, hbl, hbA, hL, hi4⟩ hZ hnext T k tm dy P pk ptm pdy hpi tg tl R sg sl u0 m0 hI
      rcases (Decidable.em ((y &&& nI 31) = nI 1)) with k_3 | k_3
      · skip
        refine xtabI (j := 1) (off := 147) (tgt := 179) h0 dL_law_32 k_3 (by decide) (by decide) rfl (by decide) ?_
        exact lc_town h0 ⟨hE, hAz, hX, hbl, hbA, hL, hi4⟩ hZ hnext T k tm dy P pk ptm pdy hpi tg tl R sg sl u0 m0 hI
      rcases (Decidable.em ((y &&& nI 31) = nI 2)) with k_4 | k_4
      · skip
        refine xtabI (j := 2) (off := 160) (tgt := 192) h0 dL_law_32 k_4 (by decide) (by decide) rfl (by decide) ?_
        exact lc_person h0 ⟨hE, hAz, hX, hbl, hbA, hL, hi4⟩ hZ hnext T k tm dy P pk ptm pdy hpi tg tl R sg sl u0 m0 hI
      rcases (Decidable.em ((y &&& nI 31) = nI 3)) with k_5 | k_5
      · skip
        refine xtabI (j := 3) (off := 193) (tgt := 225) h0 dL_law_32 k_5 (by decide) (by decide) rfl (by decide) ?_
        exact lc_minutes h0 ⟨hE, hAz, hX, hbl, hbA, hL, hi4⟩ hZ hnext T k tm dy P pk ptm pdy hpi tg tl R sg sl u0 m0 hI
      rcases (Decidable.em ((y &&& nI 31) = nI 4)) with k_6 | k_6
      · skip
        refine xtabI (j := 4) (off := 226) (tgt := 258) h0 dL_law_32 k_6 (by decide) (by decide) rfl (by decide) ?_
        exact lc_law h0 ⟨hE, hAz, hX, hbl, hbA, hL, hi4⟩ hZ hnext T k tm dy P pk ptm pdy hpi tg tl R sg sl u0 m0 hI
      rcases (Decidable.em ((y &&& nI 31) = nI 5)) with k_7 | k_7
      · skip
        refine xtabI (j := 5) (off := 249) (tgt := 281) h0 dL_law_32 k_7 (by decide) (by decide) rfl (by decide) ?_
        exact lc_ask h0 ⟨hE, hAz, hX, hbl, hbA, hL, hi4⟩ hZ hnext T k tm dy P pk ptm pdy hpi tg tl R sg sl u0 m0 hI
      rcases (Decidable.em ((y &&& nI 31) = nI 6)) with k_8 | k_8
      · skip
        refine xtabI (j := 6) (off := 272) (tgt := 304) h0 dL_law_32 k_8 (by decide) (by decide) rfl (by decide) ?_
        exact lc_day h0 ⟨hE, hAz, hX, hbl, hbA, hL, hi4⟩ hZ hnext T k tm dy P pk ptm pdy hpi tg tl R sg sl u0 m0 hI
      rcases (Decidable.em ((y &&& nI 31) = nI 7)) with k_9 | k_9
      · skip
        refine xtabI (j := 7) (off := 285) (tgt := 317) h0 dL_law_32 k_9 (by decide) (by decide) rfl (by decide) ?_
        exact lc_may h0 ⟨hE, hAz, hX, hbl, hbA, hL, hi4⟩ hZ hnext T k tm dy P pk ptm pdy hpi tg tl R sg sl u0 m0 hI
      rcases (Decidable.em ((y &&& nI 31) = nI 8)) with k_10 | k_10
      · skip
        refine xtabI (j := 8) (off := 308) (tgt := 340) h0 dL_law_32 k_10 (by decide) (by decide) rfl (by decide) ?_
        exact lc_run h0 ⟨hE, hAz, hX, hbl, hbA, hL, hi4⟩ hZ hnext T k tm dy P pk ptm pdy hpi tg tl R sg sl u0 m0 hI
      rcases (Decidable.em ((y &&& nI 31) = nI 9)) with k_11 | k_11
      · skip
        refine xtabI (j := 9) (off := 341) (tgt := 373) h0 dL_law_32 k_11 (by decide) (by decide) rfl (by decide) ?_
        exact lc_runOf h0 ⟨hE, hAz, hX, hbl, hbA, hL, hi4⟩ hZ hnext T k tm dy P pk ptm pdy hpi tg tl R sg sl u0 m0 hI
      rcases (Decidable.em ((y &&& nI 31) = nI 10)) with k_12 | k_12
      · skip
        refine xtabI (j := 10) (off := 374) (tgt := 406) h0 dL_law_32 k_12 (by decide) (by decide) rfl (by decide) ?_
        exact lc_ways h0 ⟨hE, hAz, hX, hbl, hbA, hL, hi4⟩ hZ hnext T k tm dy P pk ptm pdy hpi tg tl R sg sl u0 m0 hI
      rcases (Decidable.em ((y &&& nI 31) = nI 11)) with k_13 | k_13
      · skip
        refine xtabI (j := 11) (off := 397) (tgt := 429) h0 dL_law_32 k_13 (by decide) (by decide) rfl (by decide) ?_
        exact lc_soonest h0 ⟨hE, hAz, hX, hbl, hbA, hL, hi4⟩ hZ hnext T k tm dy P pk ptm pdy hpi tg tl R sg sl u0 m0 hI
      rcases (Decidable.em ((y &&& nI 31) = nI 12)) with k_14 | k_14
      · skip
        refine xtabI (j := 12) (off := 430) (tgt := 462) h0 dL_law_32 k_14 (by decide) (by decide) rfl (by decide) ?_
        exact lc_surest h0 ⟨hE, hAz, hX, hbl, hbA, hL, hi4⟩ hZ hnext T k tm dy P pk ptm pdy hpi tg tl R sg sl u0 m0 hI
      rcases (Decidable.em ((y &&& nI 31) = nI 13)) with k_15 | k_15
      · skip
        refine xtabI (j := 13) (off := 463) (tgt := 495) h0 dL_law_32 k_15 (by decide) (by decide) rfl (by decide) ?_
        exact lc_longest h0 ⟨hE, hAz, hX, hbl, hbA, hL, hi4⟩ hZ hnext T k tm dy P pk ptm pdy hpi tg tl R sg sl u0 m0 hI
      rcases (Decidable.em ((y &&& nI 31) = nI 14)) with k_16 | k_16
      · skip
        refine xtabI (j := 14) (off := 496) (tgt := 528) h0 dL_law_32 k_16 (by decide) (by decide) rfl (by decide) ?_
        exact lc_always h0 ⟨hE, hAz, hX, hbl, hbA, hL, hi4⟩ hZ hnext T k tm dy P pk ptm pdy hpi tg tl R sg sl u0 m0 hI
      rcases (Decidable.em ((y &&& nI 31) = nI 15)) with k_17 | k_17
      · skip
        refine xtabI (j := 15) (off := 519) (tgt := 551) h0 dL_law_32 k_17 (by decide) (by decide) rfl (by decide) ?_
        exact lc_took h0 ⟨hE, hAz, hX, hbl, hbA, hL, hi4⟩ hZ hnext T k tm dy P pk ptm pdy hpi tg tl R sg sl u0 m0 hI
      rcases (Decidable.em ((y &&& nI 31) = nI 16)) with k_18 | k_18
      · skip
        refine xtabI (j := 16) (off := 562) (tgt := 594) h0 dL_law_32 k_18 (by decide) (by decide) rfl (by decide) ?_
        exact lc_foe h0 ⟨hE, hAz, hX, hbl, hbA, hL, hi4⟩ hZ hnext T k tm dy P pk ptm pdy hpi tg tl R sg sl u0 m0 hI
      rcases (Decidable.em ((y &&& nI 31) = nI 17)) with k_19 | k_19
      · skip
        refine xtabI (j := 17) (off := 585) (tgt := 617) h0 dL_law_32 k_19 (by decide) (by decide) rfl (by decide) ?_
        exact lc_switching h0 ⟨hE, hAz, hX, hbl, hbA, hL, hi4⟩ hZ hnext T k tm dy P pk ptm pdy hpi tg tl R sg sl u0 m0 hI
      rcases (Decidable.em ((y &&& nI 31) = nI 18)) with k_20 | k_20
      · skip
        refine xtabI (j := 18) (off := 608) (tgt := 640) h0 dL_law_32 k_20 (by decide) (by decide) rfl (by decide) ?_
        exact lc_edge h0 ⟨hE, hAz, hX, hbl, hbA, hL, hi4⟩ hZ hnext T k tm dy P pk ptm pdy hpi tg tl R sg sl u0 m0 hI
      rcases (Decidable.em ((y &&& nI 31) = nI 19)) with k_21 | k_21
      · skip
        refine xtabI (j := 19) (off := 641) (tgt := 673) h0 dL_law_32 k_21 (by decide) (by decide) rfl (by decide) ?_
        exact lc_two h0 ⟨hE, hAz, hX, hbl, hbA, hL, hi4⟩ hZ hnext T k tm dy P pk ptm pdy hpi tg tl R sg sl u0 m0 hI
      rcases (Decidable.em ((y &&& nI 31) = nI 20)) with k_22 | k_22
      · skip
        refine xtabI (j := 20) (off := 684) (tgt := 716) h0 dL_law_32 k_22 (by decide) (by decide) rfl (by decide) ?_
        exact lc_tree h0 ⟨hE, hAz, hX, hbl, hbA, hL, hi4⟩ hZ hnext T k tm dy P pk ptm pdy hpi tg tl R sg sl u0 m0 hI
      rcases (Decidable.em ((y &&& nI 31) = nI 21)) with k_23 | k_23
      · skip
        refine xtabI (j := 21) (off := 717) (tgt := 749) h0 dL_law_32 k_23 (by decide) (by decide) rfl (by decide) ?_
        exact lc_days h0 ⟨hE, hAz, hX, hbl, hbA, hL, hi4⟩ hZ hnext T k tm dy P pk ptm pdy hpi tg tl R sg sl u0 m0 hI
      rcases (Decidable.em ((y &&& nI 31) = nI 22)) with k_24 | k_24
      · skip
        refine xtabI (j := 22) (off := 750) (tgt := 782) h0 dL_law_32 k_24 (by decide) (by decide) rfl (by decide) ?_
        exact lc_row h0 ⟨hE, hAz, hX, hbl, hbA, hL, hi4⟩ hZ hnext T k tm dy P pk ptm pdy hpi tg tl R sg sl u0 m0 hI
      rcases (Decidable.em ((y &&& nI 31) = nI 23)) with k_25 | k_25
      · skip
        refine xtabI (j := 23) (off := 773) (tgt := 805) h0 dL_law_32 k_25 (by decide) (by decide) rfl (by decide) ?_
        exact lc_judge h0 ⟨hE, hAz, hX, hbl, hbA, hL, hi4⟩ hZ hnext T k tm dy P pk ptm pdy hpi tg tl R sg sl u0 m0 hI
      rcases (Decidable.em ((y &&& nI 31) = nI 24)) with k_26 | k_26
      · skip
        refine xtabI (j := 24) (off := 786) (tgt := 818) h0 dL_law_32 k_26 (by decide) (by decide) rfl (by decide) ?_
        exact lc_image h0 ⟨hE, hAz, hX, hbl, hbA, hL, hi4⟩ hZ hnext T k tm dy P pk ptm pdy hpi tg tl R sg sl u0 m0 hI
      rcases (Decidable.em ((y &&& nI 31) = nI 25)) with k_27 | k_27
      · skip
        refine xtabI (j := 25) (off := 799) (tgt := 831) h0 dL_law_32 k_27 (by decide) (by decide) rfl (by decide) ?_
        exact lc_on h0 ⟨hE, hAz, hX, hbl, hbA, hL, hi4⟩ hZ hnext T k tm dy P pk ptm pdy hpi tg tl R sg sl u0 m0 hI
      rcases (Decidable.em ((y &&& nI 31) = nI 26)) with k_28 | k_28
      · skip
        refine xtabI (j := 26) (off := 812) (tgt := 844) h0 dL_law_32 k_28 (by decide) (by decide) rfl (by decide) ?_
        exact lc_count h0 ⟨hE, hAz, hX, hbl, hbA, hL, hi4⟩ hZ hnext T k tm dy P pk ptm pdy hpi tg tl R sg sl u0 m0 hI
      · skip
        refine xtabIo (tgt := 867) h0 dL_law_32 (by have e0 := lv_neT (a := 0) k_2 (by decide); have e1 := lv_neT (a := 1) k_3 (by decide); have e2 := lv_neT (a := 2) k_4 (by decide); have e3 := lv_neT (a := 3) k_5 (by decide); have e4 := lv_neT (a := 4) k_6 (by decide); have e5 := lv_neT (a := 5) k_7 (by decide); have e6 := lv_neT (a := 6) k_8 (by decide); have e7 := lv_neT (a := 7) k_9 (by decide); have e8 := lv_neT (a := 8) k_10 (by decide); have e9 := lv_neT (a := 9) k_11 (by decide); have e10 := lv_neT (a := 10) k_12 (by decide); have e11 := lv_neT (a := 11) k_13 (by decide); have e12 := lv_neT (a := 12) k_14 (by decide); have e13 := lv_neT (a := 13) k_15 (by decide); have e14 := lv_neT (a := 14) k_16 (by decide); have e15 := lv_neT (a := 15) k_17 (by decide); have e16 := lv_neT (a := 16) k_18 (by decide); have e17 := lv_neT (a := 17) k_19 (by decide); have e18 := lv_neT (a := 18) k_20 (by decide); have e19 := lv_neT (a := 19) k_21 (by decide); have e20 := lv_neT (a := 20) k_22 (by decide); have e21 := lv_neT (a := 21) k_23 (by decide); have e22 := lv_neT (a := 22) k_24 (by decide); have e23 := lv_neT (a := 23) k_25 (by decide); have e24 := lv_neT (a := 24) k_26 (by decide); have e25 := lv_neT (a := 25) k_27 (by decide); have e26 := lv_neT (a := 26) k_28 (by decide); omega) (by decide) ?_
        exact hnext T k tm dy P pk ptm pdy hpi tg tl R sg sl u0 m0 (by exact hI)
set_option maxHeartbeats 4000000 in
set_option maxRecDepth 100000 in
theorem law_go {κ : Cx} {A : Nat → Prop} {D : va_G} {cI cC : ClassId} {Q : State → Prop} {z0 b L : Nat} {aK aV : Nat → Nat} {xs : Nat → Int32} (h0 : XC κ cL_law 4 (some .boolean) RL wsL_law room_1 A) (hE : xES z0 aK aV (xS κ)) (hAz : ∀ q : Nat, A q → z0 ≤ q) (hX : va_X b L xs (xS κ) (xS κ).heap) (hbl : b < (xS κ).heap.size) (hbA : ¬ A b) (hL : L ≤ 2048) (hend : ∀ (ws : va_W) (lv : List (Nat × Value)), XG κ 4 D (xT cI cC) A Q ws 62 909 874 lv [.int (nI 1)]) : XG κ 4 D (xT cI cC) A Q [] 0 0 0 [(0, .ref b)] [] := by
  have hiX5 : ∀ w ∈ u_ws RX5 TX5 11, w ∈ wsL_law := inlX5
  have hiX6 : ∀ w ∈ u_ws RX6 TX6 52, w ∈ wsL_law := inlX6
  refine xnew (C := RX5) (T := TX5) (N := 11) (ci := 5) (fs := [.null, .null, .null, .null, .null, .null, .null, .null, .null, .int (nI 0), .int (nI 0)]) h0 hiX5 tyX5 tyX5_ok (List.mem_of_getElem? (i := 0) rfl) (List.mem_of_getElem? (i := 1) rfl) (List.mem_of_getElem? (i := 2) rfl) rfl (fun j hj => by rcases (show j = 0 ∨ j = 1 ∨ j = 2 ∨ j = 3 ∨ j = 4 ∨ j = 5 ∨ j = 6 ∨ j = 7 ∨ j = 8 ∨ j = 9 ∨ j = 10 by omega) with rfl | rfl | rfl | rfl | rfl | rfl | rfl | rfl | rfl | rfl | rfl <;> rfl) ⟨by decide, by decide⟩ dL_law_0 (fun q_1 => ?_)
  refine xeq (ws' := [(q_1, .inr (5, [.null, .null, .null, .null, .null, .null, .null, .null, .null, .int (nI 0), .int (nI 0)]))]) rfl ?_
  refine xdup h0 dL_law_3 rfl ?_
  refine xcallI (nn := 0) (w2 := fun uu => (wX cI cC uu.1 uu.2.1 uu.2.2.1 uu.2.2.2 zT 0 0 0 zT 0 0 0 0 (fun _ => 0) 0 (fun _ => 0) (fun _ => 0) 0 scr0)) (wr := []) (rest := [.ref q_1]) h0 (c_X5_init (xL κ) D cI cC q_1) gL_law_X5_init (List.mem_of_getElem? (i := 2) rfl) (List.mem_of_getElem? (i := 6) rfl) (List.mem_of_getElem? (i := 7) rfl) rfl (by decide +kernel) rfl rfl rfl ⟨Nat.le_of_ble_eq_true rfl, Nat.le_of_ble_eq_true rfl⟩ ⟨Nat.le_of_ble_eq_true rfl, Nat.le_of_ble_eq_true rfl⟩ (fun _ _ _ _ h => h) (fun _ _ _ _ _ _ _ => trivial) rfl (Nat.le_of_ble_eq_true rfl) rfl [0] [] [0, 1, 2, 3, 4, 5, 6, 7, 8, 9, 10, 11, 12, 13, 14, 15, 16, 17, 18, 19, 20, 21, 22, 23, 24, 25, 26, 27, 28, 29, 30, 31, 32, 33, 34, 35, 36, 37, 38, 39] ⟨rfl, rfl, rfl, rfl, rfl⟩ (fun _ => ⟨rfl, rfl⟩) dL_law_4 (fun uu huu => ?_)
  obtain ⟨ad, ta, pa, ia⟩ := uu
  have hq5 : ad 0 = q_1 := huu
  subst hq5
  refine xeq (ws' := (wX cI cC ad ta pa ia zT 0 0 0 zT 0 0 0 0 (fun _ => 0) 0 (fun _ => 0) (fun _ => 0) 0 scr0)) rfl ?_
  refine xastore_n (lv' := [(1, .ref (ad 0)), (0, .ref b)]) h0 dL_law_7 rfl (by decide) rfl ?_
  refine xnew (C := RX6) (T := TX6) (N := 52) (ci := 6) (fs := [.null, .int (nI 0), .int (nI 0), .int (nI 0), .int (nI 0), .int (nI 0), .null, .null, .null, .null, .null, .int (nI 0), .int (nI 0), .int (nI 0), .int (nI 0), .int (nI 0), .int (nI 0), .null, .null, .null, .null, .null, .null, .int (nI 0), .int (nI 0), .int (nI 0), .null, .null, .null, .int (nI 0), .null, .null, .int (nI 0), .int (nI 0), .int (nI 0), .int (nI 0), .int (nI 0), .int (nI 0), .int (nI 0), .int (nI 0), .null, .int (nI 0), .int (nI 0), .int (nI 0), .null, .int (nI 0), .int (nI 0), .null, .int (nI 0), .int (nI 0), .null, .int (nI 0)]) h0 hiX6 tyX6 tyX6_ok (List.mem_of_getElem? (i := 3) rfl) (List.mem_of_getElem? (i := 4) rfl) (List.mem_of_getElem? (i := 5) rfl) rfl (fun j hj => by rcases (show j = 0 ∨ j = 1 ∨ j = 2 ∨ j = 3 ∨ j = 4 ∨ j = 5 ∨ j = 6 ∨ j = 7 ∨ j = 8 ∨ j = 9 ∨ j = 10 ∨ j = 11 ∨ j = 12 ∨ j = 13 ∨ j = 14 ∨ j = 15 ∨ j = 16 ∨ j = 17 ∨ j = 18 ∨ j = 19 ∨ j = 20 ∨ j = 21 ∨ j = 22 ∨ j = 23 ∨ j = 24 ∨ j = 25 ∨ j = 26 ∨ j = 27 ∨ j = 28 ∨ j = 29 ∨ j = 30 ∨ j = 31 ∨ j = 32 ∨ j = 33 ∨ j = 34 ∨ j = 35 ∨ j = 36 ∨ j = 37 ∨ j = 38 ∨ j = 39 ∨ j = 40 ∨ j = 41 ∨ j = 42 ∨ j = 43 ∨ j = 44 ∨ j = 45 ∨ j = 46 ∨ j = 47 ∨ j = 48 ∨ j = 49 ∨ j = 50 ∨ j = 51 by omega) with rfl | rfl | rfl | rfl | rfl | rfl | rfl | rfl | rfl | rfl | rfl | rfl | rfl | rfl | rfl | rfl | rfl | rfl | rfl | rfl | rfl | rfl | rfl | rfl | rfl | rfl | rfl | rfl | rfl | rfl | rfl | rfl | rfl | rfl | rfl | rfl | rfl | rfl | rfl | rfl | rfl | rfl | rfl | rfl | rfl | rfl | rfl | rfl | rfl | rfl | rfl | rfl <;> rfl) ⟨by decide, by decide⟩ dL_law_8 (fun q_3 => ?_)
  refine xeq (ws' := ((wX cI cC ad ta pa ia zT 0 0 0 zT 0 0 0 0 (fun _ => 0) 0 (fun _ => 0) (fun _ => 0) 0 scr0) ++ [(q_3, .inr (6, [.null, .int (nI 0), .int (nI 0), .int (nI 0), .int (nI 0), .int (nI 0), .null, .null, .null, .null, .null, .int (nI 0), .int (nI 0), .int (nI 0), .int (nI 0), .int (nI 0), .int (nI 0), .null, .null, .null, .null, .null, .null, .int (nI 0), .int (nI 0), .int (nI 0), .null, .null, .null, .int (nI 0), .null, .null, .int (nI 0), .int (nI 0), .int (nI 0), .int (nI 0), .int (nI 0), .int (nI 0), .int (nI 0), .int (nI 0), .null, .int (nI 0), .int (nI 0), .int (nI 0), .null, .int (nI 0), .int (nI 0), .null, .int (nI 0), .int (nI 0), .null, .int (nI 0)]))])) rfl ?_
  refine xdup h0 dL_law_11 rfl ?_
  refine xcallI (nn := 0) (w2 := fun md => ((wX cI cC ad ta pa ia zT 0 0 0 zT 0 0 0 0 (fun _ => 0) 0 (fun _ => 0) (fun _ => 0) 0 scr0) ++ (wM cI cC md zT 0 0 0 zT 0 0 0 0 (fun _ => 0) 0 (fun _ => 0) (fun _ => 0) 0 scm0))) (wr := [(ad 0, .inr (5, [.ref (ta 0), .ref (pa 0), .ref (ia 0), .ref (ad 3), .ref (ad 5), .ref (ad 10), .ref (ad 11), .ref (ad 1), .ref (ad 2), .int (nI 0), .int (nI 0)])), (ad 1, .inl (cI, 8, .inl (fun i_ => nI ((fun _ => 0) i_)))), (ad 2, .inl (cI, 7, .inl (fun i_ => nI ((fun _ => 0) i_)))), (ta 0, .inr (3, [.ref (ta 1), .ref (ta 2), .ref (ta 3), .ref (ta 4), .ref (ta 5), .ref (ta 6), .ref (ta 7), .ref (ta 8), .int (nI (zT 5 0)), .int (nI (zT 5 1)), .int (nI 0), .int (nI 0), .int (nI 0)])), (ta 1, .inl (cI, 8, .inl (fun i_ => nI (zT 0 i_)))), (ta 2, .inl (cI, 8, .inl (fun i_ => nI (zT 1 i_)))), (ta 3, .inl (cI, 8, .inl (fun i_ => nI (zT 2 i_)))), (ta 4, .inl (cI, 8, .inl (fun i_ => nI (zT 3 i_)))), (ta 5, .inl (cI, 8, .inl (fun i_ => nI (mtS zT i_)))), (ta 6, .inl (cI, 8, .inl (fun i_ => nI (rcS zT 8 i_)))), (ta 7, .inl (cI, 8, .inl (fun i_ => nI (bkS zT i_)))), (ta 8, .inl (cI, 64, .inl (fun i_ => nI (zT 4 i_)))), (pa 0, .inr (3, [.ref (pa 1), .ref (pa 2), .ref (pa 3), .ref (pa 4), .ref (pa 5), .ref (pa 6), .ref (pa 7), .ref (pa 8), .int (nI (zT 5 0)), .int (nI (zT 5 1)), .int (nI 0), .int (nI 0), .int (nI 0)])), (pa 1, .inl (cI, 8, .inl (fun i_ => nI (zT 0 i_)))), (pa 2, .inl (cI, 8, .inl (fun i_ => nI (zT 1 i_)))), (pa 3, .inl (cI, 8, .inl (fun i_ => nI (zT 2 i_)))), (pa 4, .inl (cI, 8, .inl (fun i_ => nI (zT 3 i_)))), (pa 5, .inl (cI, 8, .inl (fun i_ => nI (mtS zT i_)))), (pa 6, .inl (cI, 8, .inl (fun i_ => nI (rcS zT 8 i_)))), (pa 7, .inl (cI, 8, .inl (fun i_ => nI (bkS zT i_)))), (pa 8, .inl (cI, 64, .inl (fun i_ => nI (zT 4 i_)))), (ia 0, .inr (3, [.ref (ia 1), .ref (ia 2), .ref (ia 3), .ref (ia 4), .ref (ia 5), .ref (ia 6), .ref (ia 7), .ref (ia 8), .int (nI (scr0.1 5 0)), .int (nI (scr0.1 5 1)), .int (nI (scr0.2.1 0)), .int (nI (scr0.2.1 2)), .int (nI (scr0.2.1 3))])), (ia 1, .inl (cI, 8, .inl (fun i_ => nI ((scr0.1 0) i_)))), (ia 2, .inl (cI, 8, .inl (fun i_ => nI ((scr0.1 1) i_)))), (ia 3, .inl (cI, 8, .inl (fun i_ => nI ((scr0.1 2) i_)))), (ia 4, .inl (cI, 8, .inl (fun i_ => nI ((scr0.1 3) i_)))), (ia 5, .inl (cI, 8, .inl (fun i_ => nI ((mtS scr0.1) i_)))), (ia 6, .inl (cI, 8, .inl (fun i_ => nI ((rcS scr0.1 (scr0.2.1 1)) i_)))), (ia 7, .inl (cI, 8, .inl (fun i_ => nI ((bkS scr0.1) i_)))), (ia 8, .inl (cI, 64, .inl (fun i_ => nI ((scr0.1 4) i_)))), (ad 3, .inr (4, [.ref (ad 4), .int (nI ((scr0.2.2.1 0).length)), .int (nI (mskL (scr0.2.2.1 0)))])), (ad 4, .inl (cI, 8, .inl (fun i_ => nI ((scr0.2.2.2.1 0) i_)))), (ad 5, .inr (0, [.ref (ad 6), .ref (ad 8), .int (nI (scr0.2.1 4)), .int (oI scr0.2.2.2.2), .int (nI (scr0.2.1 5)), .int (nI (scr0.2.1 6)), .int (nI (scr0.2.1 7)), .int (nI (scr0.2.1 8))])), (ad 6, .inr (4, [.ref (ad 7), .int (nI ((scr0.2.2.1 1).length)), .int (nI (mskL (scr0.2.2.1 1)))])), (ad 7, .inl (cI, 8, .inl (fun i_ => nI ((scr0.2.2.2.1 1) i_)))), (ad 8, .inr (4, [.ref (ad 9), .int (nI ((scr0.2.2.1 2).length)), .int (nI (mskL (scr0.2.2.1 2)))])), (ad 9, .inl (cI, 8, .inl (fun i_ => nI ((scr0.2.2.2.1 2) i_)))), (ad 10, .inr (2, [.int (nI (scr0.2.1 9)), .int (nI (scr0.2.1 10))])), (ad 11, .inr (1, [.ref (ad 12), .int (nI 0), .int (nI (scr0.2.1 11)), .int (nI (scr0.2.1 12))])), (ad 12, .inl (cC, 64, .inl (fun i_ => nI ((fun _ => 0) i_))))]) (rest := [.ref q_3]) h0 (c_X6_init (xL κ) D cI cC q_3) gL_law_X6_init (List.mem_of_getElem? (i := 5) rfl) (List.mem_of_getElem? (i := 68) rfl) (List.mem_of_getElem? (i := 69) rfl) rfl (by decide +kernel) rfl rfl rfl ⟨Nat.le_of_ble_eq_true rfl, Nat.le_of_ble_eq_true rfl⟩ ⟨Nat.le_of_ble_eq_true rfl, Nat.le_of_ble_eq_true rfl⟩ (fun _ _ _ _ h => h) (fun _ _ _ _ _ _ _ => trivial) rfl (Nat.le_of_ble_eq_true rfl) rfl [40] [0, 1, 2, 3, 4, 5, 6, 7, 8, 9, 10, 11, 12, 13, 14, 15, 16, 17, 18, 19, 20, 21, 22, 23, 24, 25, 26, 27, 28, 29, 30, 31, 32, 33, 34, 35, 36, 37, 38, 39] [0, 1, 2, 3, 4, 5, 6, 7, 8, 9, 10, 11, 12, 13, 14, 15, 16, 17, 18, 19, 20, 21, 22, 23, 24, 25, 26, 27, 28, 29, 30, 31, 32, 33, 34, 35, 36, 37, 38, 39, 40, 41, 42, 43, 44, 45, 46, 47, 48, 49, 50, 51, 52, 53, 54, 55, 56, 57, 58, 59, 60, 61] ⟨rfl, rfl, rfl, rfl, rfl⟩ (fun _ => ⟨rfl, rfl⟩) dL_law_12 (fun md hmd => ?_)
  have hq6 : md 1 = q_3 := hmd
  subst hq6
  refine xastore_n (lv' := [(2, .ref (md 1)), (1, .ref (ad 0)), (0, .ref b)]) h0 dL_law_15 rfl (by decide) rfl ?_
  refine xiconst (v := (nI 0)) h0 dL_law_16 (by decide) ?_
  refine xistore_n (lv' := [(3, .int (nI 0)), (2, .ref (md 1)), (1, .ref (ad 0)), (0, .ref b)]) h0 dL_law_17 rfl (by decide) rfl ?_
  refine xDq (fun hd => ?_)
  have hzd : ∀ i, i < 13 → z0 ≤ ad i := fun i hi => match i, hi with
    | 0, _ => hAz _ (hd 0 _ rfl)
    | 1, _ => hAz _ (hd 1 _ rfl)
    | 2, _ => hAz _ (hd 2 _ rfl)
    | 3, _ => hAz _ (hd 30 _ rfl)
    | 4, _ => hAz _ (hd 31 _ rfl)
    | 5, _ => hAz _ (hd 32 _ rfl)
    | 6, _ => hAz _ (hd 33 _ rfl)
    | 7, _ => hAz _ (hd 34 _ rfl)
    | 8, _ => hAz _ (hd 35 _ rfl)
    | 9, _ => hAz _ (hd 36 _ rfl)
    | 10, _ => hAz _ (hd 37 _ rfl)
    | 11, _ => hAz _ (hd 38 _ rfl)
    | 12, _ => hAz _ (hd 39 _ rfl)
    | n + 13, h => absurd h (by omega)
  have hzt : ∀ i, i < 9 → z0 ≤ ta i := fun i hi => match i, hi with
    | 0, _ => hAz _ (hd 3 _ rfl)
    | 1, _ => hAz _ (hd 4 _ rfl)
    | 2, _ => hAz _ (hd 5 _ rfl)
    | 3, _ => hAz _ (hd 6 _ rfl)
    | 4, _ => hAz _ (hd 7 _ rfl)
    | 5, _ => hAz _ (hd 8 _ rfl)
    | 6, _ => hAz _ (hd 9 _ rfl)
    | 7, _ => hAz _ (hd 10 _ rfl)
    | 8, _ => hAz _ (hd 11 _ rfl)
    | n + 9, h => absurd h (by omega)
  have hzp : ∀ i, i < 9 → z0 ≤ pa i := fun i hi => match i, hi with
    | 0, _ => hAz _ (hd 12 _ rfl)
    | 1, _ => hAz _ (hd 13 _ rfl)
    | 2, _ => hAz _ (hd 14 _ rfl)
    | 3, _ => hAz _ (hd 15 _ rfl)
    | 4, _ => hAz _ (hd 16 _ rfl)
    | 5, _ => hAz _ (hd 17 _ rfl)
    | 6, _ => hAz _ (hd 18 _ rfl)
    | 7, _ => hAz _ (hd 19 _ rfl)
    | 8, _ => hAz _ (hd 20 _ rfl)
    | n + 9, h => absurd h (by omega)
  have hzi : ∀ i, i < 9 → z0 ≤ ia i := fun i hi => match i, hi with
    | 0, _ => hAz _ (hd 21 _ rfl)
    | 1, _ => hAz _ (hd 22 _ rfl)
    | 2, _ => hAz _ (hd 23 _ rfl)
    | 3, _ => hAz _ (hd 24 _ rfl)
    | 4, _ => hAz _ (hd 25 _ rfl)
    | 5, _ => hAz _ (hd 26 _ rfl)
    | 6, _ => hAz _ (hd 27 _ rfl)
    | 7, _ => hAz _ (hd 28 _ rfl)
    | 8, _ => hAz _ (hd 29 _ rfl)
    | n + 9, h => absurd h (by omega)
  refine xlv (lv' := [(3, .int (nI 0)), (2, .ref (md 1)), (1, .ref (ad 0)), (0, .ref b)]) [0, 1, 2, 3] rfl ?_
  exact law_loop h0 hE hAz hX hbl hbA hL hend ⟨hzd, hzt, hzp, hzi⟩ (L + 1) 0 (by omega) (Nat.zero_le _) zT 0 0 0 zT 0 0 0 0 (fun _ => 0) 0 (fun _ => 0) (fun _ => 0) 0 scr0 scm0 ⟨zT_tok, by decide, zT_tok, by decide, by decide, by decide, by decide, fun _ => Nat.zero_le _, fun _ => Nat.zero_lt_succ _⟩
