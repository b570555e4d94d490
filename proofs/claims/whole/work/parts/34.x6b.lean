/-! THE REFERENCE: to whom one may, who is next, the way, what is said -/
theorem bN_and {P Q : Prop} [Decidable P] [Decidable Q] (h : Q) : bN P = bN (P ∧ Q) := by
  by_cases p : P
  · rw [bN_t p, bN_t ⟨p, h⟩]
  · rw [bN_f p, bN_f (fun z => p z.1)]
theorem oI_lt {b : Option Nat} (hb : ∀ c, b = some c → c < 2 ^ 31) (h : oI b < 0) : b = none := by
  cases b with
  | none => rfl
  | some c => exact absurd h (nI_pos (hb c rfl))
theorem oI_ge {b : Option Nat} (h : ¬ oI b < 0) : ∃ c, b = some c := by
  cases b with
  | none => exact absurd (by decide) h
  | some c => exact ⟨c, rfl⟩
theorem mx_l {a b : Nat} (h : a < b) : b = Nat.max a b := (Nat.max_eq_right (Nat.le_of_lt h)).symm
theorem mx_r {a b : Nat} (h : b ≤ a) : a = Nat.max a b := (Nat.max_eq_left h).symm
theorem ri_end {T : TT} {w : List Nat} {hv : Nat} {o : Option Nat} (h1 : 1 ≤ w.length) (ho : o = rtS T (w.drop 0)) (hh : ∀ z, o = some z → hv = z) : hv = rgS T w := by
  rw [List.drop_zero] at ho
  cases w with
  | nil => exact absurd h1 (by decide)
  | cons p r => exact hh _ ho

set_option maxHeartbeats 4000000 in
set_option maxRecDepth 100000 in
theorem c_X6_mayTo (l : Launch) (D : va_G) (cI cC : ClassId) (md : Nat → Nat) (T : TT) (k tm dy : Nat) (P : TT) (pk ptm pdy hpi : Nat) (tg : Nat → Nat) (tl : Nat) (R : Nat → Nat) (sg : Nat → Nat) (sl : Nat) (u0 : ScmT) (h S been mu : Nat) (mx : Int32) (hT : TOK T) (hh : h < T 5 0) (hS : S < 256) (hc : 1 ≤ cdS S) (hb : been < 256) (hmx : mxI mx mu) : XMi l yX6_mayTo wsX6_mayTo ({ frames := 2, cells := 0, slots := 0, locals := 45 } : Room) D (xT cI cC) xE0 (wM cI cC md T k tm dy P pk ptm pdy hpi tg tl R sg sl u0) [.ref (md 1), .int (nI h), .int (nI S), .int (nI been), .int mx] (S := Unit) (fun r _ => r = nI (mayS T h S been mu)) (fun _ => (wM cI cC md T k tm dy P pk ptm pdy hpi tg tl R sg sl u0)) 0 0 := by
  refine xMet_i (cc := cX6_mayTo) (nL := 9) (ret := some .int) (by decide +kernel) rfl (Nat.le_of_ble_eq_true rfl) (fun κ A h0 hn0 hE => ?_)
  have hiX6 : ∀ w ∈ u_ws RX6 TX6 52, w ∈ wsX6_mayTo := by decide +kernel
  refine xlv (lv' := [(0, .ref (md 1)), (1, .int (nI h)), (2, .int (nI S)), (3, .int (nI been)), (4, .int mx)]) [0, 1, 2, 3, 4] rfl ?_
  have hn := hT.1
  have hlw := hT.2.1
  have hm4 := hT.2.2.2.2.2.2.1
  have hG : S ||| been < 256 := or_lt256 hS hb
  refine xiload_n h0 2 dX6_mayTo_0 rfl rfl ?_
  refine xcallS_i (nn := 1) (w2 := fun u_ => (wM cI cC md T k tm dy P pk ptm pdy hpi tg tl R sg sl u0)) (wr := [(md 1, .inr (6, [.ref (md 0), .int (nI (T 5 0)), .int (nI (T 5 1)), .int (nI k), .int (nI tm), .int (nI dy), .ref (md 6), .ref (md 7), .ref (md 8), .ref (md 9), .ref (md 10), .int (nI hpi), .int (nI (P 5 0)), .int (nI (P 5 1)), .int (nI pk), .int (nI ptm), .int (nI pdy), .ref (md 17), .ref (md 18), .ref (md 19), .ref (md 20), .ref (md 21), .ref (md 22), .int (nI sl), .int (nI (u0.1 24)), .int (nI (u0.1 25)), .ref (md 26), .ref (md 27), .ref (md 28), .int (nI (u0.1 29)), .ref (md 30), .ref (md 31), .int (nI (u0.1 32)), .int (nI (u0.1 33)), .int (nI (u0.1 34)), .int (oI u0.2.2), .int (nI (u0.1 36)), .int (nI (u0.1 37)), .int (nI (u0.1 38)), .int (nI (u0.1 39)), .ref (md 40), .int (nI (u0.1 41)), .int (nI (u0.1 42)), .int (nI (u0.1 43)), .ref (md 44), .int (nI (u0.1 45)), .int (nI (u0.1 46)), .ref (md 47), .int (nI (u0.1 48)), .int (nI (u0.1 49)), .ref (md 50), .int (nI tl)])), (md 0, .inl (cI, 7, .inl (fun i_ => nI (R i_)))), (md 6, .inl (cI, 8, .inl (fun i_ => nI (T 0 i_)))), (md 7, .inl (cI, 8, .inl (fun i_ => nI (T 1 i_)))), (md 8, .inl (cI, 8, .inl (fun i_ => nI (T 2 i_)))), (md 9, .inl (cI, 8, .inl (fun i_ => nI (T 3 i_)))), (md 10, .inl (cI, 64, .inl (fun i_ => nI (T 4 i_)))), (md 17, .inl (cI, 8, .inl (fun i_ => nI (P 0 i_)))), (md 18, .inl (cI, 8, .inl (fun i_ => nI (P 1 i_)))), (md 19, .inl (cI, 8, .inl (fun i_ => nI (P 2 i_)))), (md 20, .inl (cI, 8, .inl (fun i_ => nI (P 3 i_)))), (md 21, .inl (cI, 64, .inl (fun i_ => nI (P 4 i_)))), (md 22, .inl (cI, 64, .inl (fun i_ => nI (sg i_)))), (md 26, .inl (cC, 4, .inl (fun i_ => nI (sortsN i_)))), (md 27, .inl (cC, 5, .inl (fun i_ => nI (askersN i_)))), (md 28, .inl (cC, 5, .inl (fun i_ => nI (sayersN i_)))), (md 30, .inl (cI, 4, .inl (fun i_ => nI ((u0.2.1 30) i_)))), (md 31, .inl (cI, 8, .inl (fun i_ => nI ((u0.2.1 31) i_)))), (md 40, .inl (cI, 8, .inl (fun i_ => nI ((u0.2.1 40) i_)))), (md 44, .inl (cI, 8, .inl (fun i_ => nI ((u0.2.1 44) i_)))), (md 47, .inl (cI, 8, .inl (fun i_ => nI ((u0.2.1 47) i_)))), (md 50, .inl (cI, 8, .inl (fun i_ => nI (tg i_))))]) (rest := []) h0 (c_X6_size (xL κ) D cI cC S (by omega)) gX6_mayTo_X6_size (by decide +kernel) rfl rfl rfl ⟨Nat.le_of_ble_eq_true rfl, Nat.le_of_ble_eq_true rfl⟩ ⟨by decide, by decide⟩ (fun _ _ _ _ h => h) (fun _ _ _ _ _ _ _ => trivial) rfl (Nat.le_of_ble_eq_true rfl) rfl [] [0, 1, 2, 3, 4, 5, 6, 7, 8, 9, 10, 11, 12, 13, 14, 15, 16, 17, 18, 19, 20, 21] [0, 1, 2, 3, 4, 5, 6, 7, 8, 9, 10, 11, 12, 13, 14, 15, 16, 17, 18, 19, 20, 21] ⟨rfl, rfl, rfl, rfl, rfl⟩ (fun _ => ⟨rfl, rfl⟩) dX6_mayTo_1 (fun r_2 u_ hr_1 => ?_)
  subst hr_1
  refine xiconst (v := (nI 1)) h0 dX6_mayTo_4 (by decide) ?_
  refine xisub (v := (nI ((cdS S) - 1))) h0 dX6_mayTo_5 (pk_sub (by omega)) ?_
  refine xistore (lv' := [(5, .int (nI ((cdS S) - 1))), (0, .ref (md 1)), (1, .int (nI h)), (2, .int (nI S)), (3, .int (nI been)), (4, .int mx)]) h0 dX6_mayTo_6 (by decide) rfl ?_
  refine xiconst (v := (nI 0)) h0 dX6_mayTo_8 (by decide) ?_
  refine xistore (lv' := [(6, .int (nI 0)), (5, .int (nI ((cdS S) - 1))), (0, .ref (md 1)), (1, .int (nI h)), (2, .int (nI S)), (3, .int (nI been)), (4, .int mx)]) h0 dX6_mayTo_9 (by decide) rfl ?_
  refine xiload_n h0 3 dX6_mayTo_11 rfl rfl ?_
  refine xiload h0 6 dX6_mayTo_12 rfl ?_
  refine xicmp_eq (tgt := 46) h0 dX6_mayTo_14 (by decide)  (fun c_3 => ?_) (fun c_3 => ?_)
  · skip
    have hmu : h = mu := (hmx h (by omega)).mp c_3
    refine xiload h0 0 dX6_mayTo_46 rfl ?_
    exact xiret h0 dX6_mayTo_48 () (by rw [mayS]; first | (rw [if_pos hmu]; done) | (rw [if_neg hmu, if_pos (by omega)]; done)) rfl
  · skip
    have hmu : h ≠ mu := fun z => c_3 ((hmx h (by omega)).mpr z)
    have jg : (h ≠ mu) → (¬ ((T 5 1 = 2 ∧ 4 ≤ cdS S) ∨ (T 5 1 = 3 ∧ 7 ≤ cdS S))) → XG κ 9 D (xT cI cC) A (xQi (S := Unit) κ D (xT cI cC) A (fun r _ => r = nI (mayS T h S been mu)) (fun _ => (wM cI cC md T k tm dy P pk ptm pdy hpi tg tl R sg sl u0)) 0 0) (wM cI cC md T k tm dy P pk ptm pdy hpi tg tl R sg sl u0) 0 0 49 [(0, .ref (md 1)), (1, .int (nI h)), (2, .int (nI S)), (3, .int (nI been)), (4, .int mx), (5, .int (nI (cdS S - 1))), (6, .int (nI 0))] [] := by
      intro  hmu hgo
      refine xiconst (v := (nI 0)) h0 dX6_mayTo_49 (by decide) ?_
      refine xistore (lv' := [(7, .int (nI 0)), (0, .ref (md 1)), (1, .int (nI h)), (2, .int (nI S)), (3, .int (nI been)), (4, .int mx), (5, .int (nI (cdS S - 1))), (6, .int (nI 0))]) h0 dX6_mayTo_50 (by decide) rfl ?_
      have lp : ∀ (d_ : Nat) (q v : Nat), (9 - q ≤ d_) → (q ≤ T 5 0) → (v = mkN (mayB T h (S ||| been)) q) → XG κ 9 D (xT cI cC) A (xQi (S := Unit) κ D (xT cI cC) A (fun r _ => r = nI (mayS T h S been mu)) (fun _ => (wM cI cC md T k tm dy P pk ptm pdy hpi tg tl R sg sl u0)) 0 0) (wM cI cC md T k tm dy P pk ptm pdy hpi tg tl R sg sl u0) 0 0 52 [(0, .ref (md 1)), (1, .int (nI h)), (2, .int (nI S)), (3, .int (nI been)), (4, .int mx), (5, .int (nI (cdS S - 1))), (6, .int (nI v)), (7, .int (nI q))] [] := by
        intro d_
        induction d_ with
        | zero => intro q v hm_ hi hv; exact absurd hm_ (by omega)
        | succ d_ ih_lp =>
          intro q v hm_ hi hv
          refine xiload h0 7 dX6_mayTo_52 rfl ?_
          refine xaload_n h0 0 dX6_mayTo_54 rfl rfl ?_
          refine xget (C := RX6) (T := TX6) (N := 52) (ci := 6) (v := .int (nI (T 5 0))) h0 hiX6 0 rfl rfl 1 (by decide) (List.mem_of_getElem? (i := 2) rfl) rfl dX6_mayTo_55 ?_
          refine xncmp_ge (tgt := 193) h0 dX6_mayTo_58 (by decide) (by omega) (by omega) (fun c_4 => ?_) (fun c_4 => ?_)
          · skip
            refine xiload h0 6 dX6_mayTo_193 rfl ?_
            exact xiret h0 dX6_mayTo_195 () (by rw [mayS, if_neg hmu, if_neg hgo, hv, show q = T 5 0 by omega]) rfl
          · skip
            have j1 : ∀ (b : Nat), (b = bN (0 < T 4 (8 * h + q) ∧ ¬ (S ||| been).testBit q = true)) → XG κ 9 D (xT cI cC) A (xQi (S := Unit) κ D (xT cI cC) A (fun r _ => r = nI (mayS T h S been mu)) (fun _ => (wM cI cC md T k tm dy P pk ptm pdy hpi tg tl R sg sl u0)) 0 0) (wM cI cC md T k tm dy P pk ptm pdy hpi tg tl R sg sl u0) 0 0 92 [(0, .ref (md 1)), (1, .int (nI h)), (2, .int (nI S)), (3, .int (nI been)), (4, .int mx), (5, .int (nI (cdS S - 1))), (6, .int (nI v)), (7, .int (nI q))] [.int (nI b)] := by
              intro b h1
              have hb1 := bN_le (0 < T 4 (8 * h + q) ∧ ¬ (S ||| been).testBit q = true)
              refine xistore (lv' := [(8, .int (nI b)), (0, .ref (md 1)), (1, .int (nI h)), (2, .int (nI S)), (3, .int (nI been)), (4, .int mx), (5, .int (nI (cdS S - 1))), (6, .int (nI v)), (7, .int (nI q))]) h0 dX6_mayTo_92 (by decide) rfl ?_
              have j2 : ∀ (b : Nat), (b = bN ((0 < T 4 (8 * h + q) ∧ ¬ (S ||| been).testBit q = true) ∧ (T 5 1 = 1 ∨ T 5 1 = 4 → ¬ hkS T (S ||| been) q (T 5 0) = true))) → XG κ 9 D (xT cI cC) A (xQi (S := Unit) κ D (xT cI cC) A (fun r _ => r = nI (mayS T h S been mu)) (fun _ => (wM cI cC md T k tm dy P pk ptm pdy hpi tg tl R sg sl u0)) 0 0) (wM cI cC md T k tm dy P pk ptm pdy hpi tg tl R sg sl u0) 0 0 134 [(0, .ref (md 1)), (1, .int (nI h)), (2, .int (nI S)), (3, .int (nI been)), (4, .int mx), (5, .int (nI (cdS S - 1))), (6, .int (nI v)), (7, .int (nI q)), (8, .int (nI b))] [] := by
                intro b h2
                have hb2 := bN_le ((0 < T 4 (8 * h + q) ∧ ¬ (S ||| been).testBit q = true) ∧ (T 5 1 = 1 ∨ T 5 1 = 4 → ¬ hkS T (S ||| been) q (T 5 0) = true))
                have j3 : ∀ (b : Nat), (b = bN (((0 < T 4 (8 * h + q) ∧ ¬ (S ||| been).testBit q = true) ∧ (T 5 1 = 1 ∨ T 5 1 = 4 → ¬ hkS T (S ||| been) q (T 5 0) = true)) ∧ (T 5 1 = 4 → 0 < T 4 (8 * q + h)))) → XG κ 9 D (xT cI cC) A (xQi (S := Unit) κ D (xT cI cC) A (fun r _ => r = nI (mayS T h S been mu)) (fun _ => (wM cI cC md T k tm dy P pk ptm pdy hpi tg tl R sg sl u0)) 0 0) (wM cI cC md T k tm dy P pk ptm pdy hpi tg tl R sg sl u0) 0 0 169 [(0, .ref (md 1)), (1, .int (nI h)), (2, .int (nI S)), (3, .int (nI been)), (4, .int mx), (5, .int (nI (cdS S - 1))), (6, .int (nI v)), (7, .int (nI q)), (8, .int (nI b))] [] := by
                  intro b h3
                  have hb3 := bN_le (((0 < T 4 (8 * h + q) ∧ ¬ (S ||| been).testBit q = true) ∧ (T 5 1 = 1 ∨ T 5 1 = 4 → ¬ hkS T (S ||| been) q (T 5 0) = true)) ∧ (T 5 1 = 4 → 0 < T 4 (8 * q + h)))
                  refine xiload h0 6 dX6_mayTo_169 rfl ?_
                  refine xiload h0 8 dX6_mayTo_171 rfl ?_
                  refine xnif_eq (tgt := 183) h0 dX6_mayTo_173 (by decide) (by omega) (fun c_5 => ?_) (fun c_5 => ?_)
                  · skip
                    refine xiconst (v := (nI 0)) h0 dX6_mayTo_183 (by decide) ?_
                    refine xior (v := (nI (v ||| 0))) h0 dX6_mayTo_184 (nx_or _ _) ?_
                    refine xistore (lv' := [(6, .int (nI (v ||| 0))), (0, .ref (md 1)), (1, .int (nI h)), (2, .int (nI S)), (3, .int (nI been)), (4, .int mx), (5, .int (nI (cdS S - 1))), (7, .int (nI q)), (8, .int (nI b))]) h0 dX6_mayTo_185 (by decide) rfl ?_
                    refine xiinc (v := (nI (q + 1))) (lv' := [(7, .int (nI (q + 1))), (6, .int (nI (v ||| 0))), (0, .ref (md 1)), (1, .int (nI h)), (2, .int (nI S)), (3, .int (nI been)), (4, .int mx), (5, .int (nI (cdS S - 1))), (8, .int (nI b))]) h0 7 dX6_mayTo_187 rfl (nI_add _ _) (by decide) rfl ?_
                    refine xgoto (tgt := 52) h0 dX6_mayTo_190 (by decide) ?_
                    refine xlv [2, 3, 4, 5, 6, 7, 1, 0] rfl ?_
                    exact ih_lp (q + 1) (v ||| 0) (by omega) (by omega) (by rw [mk_s, ← hv]; first | (rw [(mayB_iff T h (S ||| been) q).mpr (bN_pos (by rw [← h3]; assumption))]; rfl) | (rw [Bool.eq_false_iff.mpr (fun z => bN_z (by rw [← h3]; assumption) ((mayB_iff T h (S ||| been) q).mp z))]; rfl))
                  · skip
                    refine xiconst (v := (nI 1)) h0 dX6_mayTo_176 (by decide) ?_
                    refine xiload h0 7 dX6_mayTo_177 rfl ?_
                    refine xishl (v := (nI (2 ^ q))) h0 dX6_mayTo_179 (nI_shl1 q (by omega)) ?_
                    refine xgoto (tgt := 184) h0 dX6_mayTo_180 (by decide) ?_
                    refine xior (v := (nI (v ||| (2 ^ q)))) h0 dX6_mayTo_184 (nx_or _ _) ?_
                    refine xistore (lv' := [(6, .int (nI (v ||| (2 ^ q)))), (0, .ref (md 1)), (1, .int (nI h)), (2, .int (nI S)), (3, .int (nI been)), (4, .int mx), (5, .int (nI (cdS S - 1))), (7, .int (nI q)), (8, .int (nI b))]) h0 dX6_mayTo_185 (by decide) rfl ?_
                    refine xiinc (v := (nI (q + 1))) (lv' := [(7, .int (nI (q + 1))), (6, .int (nI (v ||| (2 ^ q)))), (0, .ref (md 1)), (1, .int (nI h)), (2, .int (nI S)), (3, .int (nI been)), (4, .int mx), (5, .int (nI (cdS S - 1))), (8, .int (nI b))]) h0 7 dX6_mayTo_187 rfl (nI_add _ _) (by decide) rfl ?_
                    refine xgoto (tgt := 52) h0 dX6_mayTo_190 (by decide) ?_
                    refine xlv [2, 3, 4, 5, 6, 7, 1, 0] rfl ?_
                    exact ih_lp (q + 1) (v ||| (2 ^ q)) (by omega) (by omega) (by rw [mk_s, ← hv]; first | (rw [(mayB_iff T h (S ||| been) q).mpr (bN_pos (by rw [← h3]; assumption))]; rfl) | (rw [Bool.eq_false_iff.mpr (fun z => bN_z (by rw [← h3]; assumption) ((mayB_iff T h (S ||| been) q).mp z))]; rfl))
                refine xaload_n h0 0 dX6_mayTo_134 rfl rfl ?_
                refine xget (C := RX6) (T := TX6) (N := 52) (ci := 6) (v := .int (nI (T 5 1))) h0 hiX6 0 rfl rfl 2 (by decide) (List.mem_of_getElem? (i := 1) rfl) rfl dX6_mayTo_135 ?_
                refine xiconst (v := (nI 4)) h0 dX6_mayTo_138 (by decide) ?_
                refine xncmp_ne (tgt := 169) h0 dX6_mayTo_139 (by decide) (by omega) (by omega) (fun c_6 => ?_) (fun c_6 => ?_)
                · skip
                  exact j3 b (by first | exact (bN_t ⟨bN_pos (by rw [← h2]; assumption), fun _ => by omega⟩).symm | exact (bN_f (fun z => bN_z (by rw [← h2]; assumption) z.1)).symm | exact (bN_f (fun z => by have := z.2 (by omega); omega)).symm | (rw [h2]; exact bN_and (fun y => absurd y (by omega))))
                · skip
                  refine xiload h0 8 dX6_mayTo_142 rfl ?_
                  refine xnif_eq (tgt := 166) h0 dX6_mayTo_144 (by decide) (by omega) (fun c_7 => ?_) (fun c_7 => ?_)
                  · skip
                    refine xiconst (v := (nI 0)) h0 dX6_mayTo_166 (by decide) ?_
                    refine xistore (lv' := [(8, .int (nI 0)), (0, .ref (md 1)), (1, .int (nI h)), (2, .int (nI S)), (3, .int (nI been)), (4, .int mx), (5, .int (nI (cdS S - 1))), (6, .int (nI v)), (7, .int (nI q))]) h0 dX6_mayTo_167 (by decide) rfl ?_
                    refine xlv [1, 2, 3, 4, 5, 6, 7, 8, 0] rfl ?_
                    exact j3 0 (by first | exact (bN_t ⟨bN_pos (by rw [← h2]; assumption), fun _ => by omega⟩).symm | exact (bN_f (fun z => bN_z (by rw [← h2]; assumption) z.1)).symm | exact (bN_f (fun z => by have := z.2 (by omega); omega)).symm | (rw [h2]; exact bN_and (fun y => absurd y (by omega))))
                  · skip
                    refine xaload_n h0 0 dX6_mayTo_147 rfl rfl ?_
                    refine xget (C := RX6) (T := TX6) (N := 52) (ci := 6) (v := .ref (md 10)) h0 hiX6 0 rfl rfl 10 (by decide) (List.mem_of_getElem? (i := 3) rfl) rfl dX6_mayTo_148 ?_
                    refine xbipush (v := (nI 8)) h0 dX6_mayTo_151 (by decide) ?_
                    refine xiload h0 7 dX6_mayTo_153 rfl ?_
                    refine ximul (v := (nI (8 * q))) h0 dX6_mayTo_155 (pk_mul _ _) ?_
                    refine xiload_n h0 1 dX6_mayTo_156 rfl rfl ?_
                    refine xiadd (v := (nI ((8 * q) + h))) h0 dX6_mayTo_157 (nI_add _ _) ?_
                    refine xiald (v := (nI (T 4 ((8 * q) + h)))) h0 6 0 rfl rfl (by omega) (by decide) dX6_mayTo_158 (rfl) ?_
                    refine xnif_le (tgt := 166) h0 dX6_mayTo_159 (by decide) (by have := hm4 (8 * q + h); omega) (fun c_8 => ?_) (fun c_8 => ?_)
                    · skip
                      refine xiconst (v := (nI 0)) h0 dX6_mayTo_166 (by decide) ?_
                      refine xistore (lv' := [(8, .int (nI 0)), (0, .ref (md 1)), (1, .int (nI h)), (2, .int (nI S)), (3, .int (nI been)), (4, .int mx), (5, .int (nI (cdS S - 1))), (6, .int (nI v)), (7, .int (nI q))]) h0 dX6_mayTo_167 (by decide) rfl ?_
                      refine xlv [1, 2, 3, 4, 5, 6, 7, 8, 0] rfl ?_
                      exact j3 0 (by first | exact (bN_t ⟨bN_pos (by rw [← h2]; assumption), fun _ => by omega⟩).symm | exact (bN_f (fun z => bN_z (by rw [← h2]; assumption) z.1)).symm | exact (bN_f (fun z => by have := z.2 (by omega); omega)).symm | (rw [h2]; exact bN_and (fun y => absurd y (by omega))))
                    · skip
                      refine xiconst (v := (nI 1)) h0 dX6_mayTo_162 (by decide) ?_
                      refine xgoto (tgt := 167) h0 dX6_mayTo_163 (by decide) ?_
                      refine xistore (lv' := [(8, .int (nI 1)), (0, .ref (md 1)), (1, .int (nI h)), (2, .int (nI S)), (3, .int (nI been)), (4, .int mx), (5, .int (nI (cdS S - 1))), (6, .int (nI v)), (7, .int (nI q))]) h0 dX6_mayTo_167 (by decide) rfl ?_
                      refine xlv [1, 2, 3, 4, 5, 6, 7, 8, 0] rfl ?_
                      exact j3 1 (by first | exact (bN_t ⟨bN_pos (by rw [← h2]; assumption), fun _ => by omega⟩).symm | exact (bN_f (fun z => bN_z (by rw [← h2]; assumption) z.1)).symm | exact (bN_f (fun z => by have := z.2 (by omega); omega)).symm | (rw [h2]; exact bN_and (fun y => absurd y (by omega))))
              refine xaload_n h0 1 dX6_mayTo_94 rfl rfl ?_
              refine xget (C := RX6) (T := TX6) (N := 52) (ci := 6) (v := .int (nI (T 5 1))) h0 hiX6 0 rfl rfl 2 (by decide) (List.mem_of_getElem? (i := 1) rfl) rfl dX6_mayTo_95 ?_
              refine xiconst (v := (nI 1)) h0 dX6_mayTo_98 (by decide) ?_
              refine xncmp_eq (tgt := 110) h0 dX6_mayTo_99 (by decide) (by omega) (by omega) (fun c_9 => ?_) (fun c_9 => ?_)
              · skip
                refine xiload h0 0 dX6_mayTo_110 rfl ?_
                refine xnif_eq (tgt := 131) h0 dX6_mayTo_112 (by decide) (by omega) (fun c_10 => ?_) (fun c_10 => ?_)
                · skip
                  refine xiconst (v := (nI 0)) h0 dX6_mayTo_131 (by decide) ?_
                  refine xistore (lv' := [(8, .int (nI 0)), (0, .ref (md 1)), (1, .int (nI h)), (2, .int (nI S)), (3, .int (nI been)), (4, .int mx), (5, .int (nI (cdS S - 1))), (6, .int (nI v)), (7, .int (nI q))]) h0 dX6_mayTo_132 (by decide) rfl ?_
                  refine xlv [1, 2, 3, 4, 5, 6, 7, 8, 0] rfl ?_
                  exact j2 0 (by first | exact (bN_t ⟨bN_pos (by rw [← h1]; assumption), fun _ => by assumption⟩).symm | exact (bN_f (fun z => bN_z (by rw [← h1]; assumption) z.1)).symm | exact (bN_f (fun z => z.2 (by omega) (by assumption))).symm | (rw [h1]; exact bN_and (fun y => absurd y (by omega))))
                · skip
                  refine xaload_n h0 1 dX6_mayTo_115 rfl rfl ?_
                  refine xiload_n h0 3 dX6_mayTo_116 rfl rfl ?_
                  refine xiload_n h0 4 dX6_mayTo_117 rfl rfl ?_
                  refine xior (v := (nI (S ||| been))) h0 dX6_mayTo_118 (nx_or _ _) ?_
                  refine xiload h0 8 dX6_mayTo_119 rfl ?_
                  refine xcallV_i (nn := 2) (w2 := fun u_ => (wM cI cC md T k tm dy P pk ptm pdy hpi tg tl R sg sl u0)) (wr := []) (rest := []) h0 (c_X6_hasKin (xL κ) D cI cC md T k tm dy P pk ptm pdy hpi tg tl R sg sl u0 (S ||| been) q hT (by omega) (by omega)) gX6_mayTo_X6_hasKin (by decide +kernel) rfl rfl rfl ⟨Nat.le_of_ble_eq_true rfl, Nat.le_of_ble_eq_true rfl⟩ ⟨by decide, by decide⟩ (fun _ _ _ _ h => h) (fun _ _ _ _ _ _ _ => trivial) rfl (Nat.le_of_ble_eq_true rfl) (q0 := 0) rfl rfl rfl [0, 1, 2, 3, 4, 5, 6, 7, 8, 9, 10, 11, 12, 13, 14, 15, 16, 17, 18, 19, 20, 21] [] [0, 1, 2, 3, 4, 5, 6, 7, 8, 9, 10, 11, 12, 13, 14, 15, 16, 17, 18, 19, 20, 21] ⟨rfl, rfl, rfl, rfl, rfl⟩ (fun _ => ⟨rfl, rfl⟩) dX6_mayTo_121 (fun r_12 u_ hr_11 => ?_)
                  subst hr_11
                  refine xbif_ne (tgt := 131) h0 dX6_mayTo_124 (by decide)  (fun c_13 => ?_) (fun c_13 => ?_)
                  · skip
                    refine xiconst (v := (nI 0)) h0 dX6_mayTo_131 (by decide) ?_
                    refine xistore (lv' := [(8, .int (nI 0)), (0, .ref (md 1)), (1, .int (nI h)), (2, .int (nI S)), (3, .int (nI been)), (4, .int mx), (5, .int (nI (cdS S - 1))), (6, .int (nI v)), (7, .int (nI q))]) h0 dX6_mayTo_132 (by decide) rfl ?_
                    refine xlv [1, 2, 3, 4, 5, 6, 7, 8, 0] rfl ?_
                    exact j2 0 (by first | exact (bN_t ⟨bN_pos (by rw [← h1]; assumption), fun _ => by assumption⟩).symm | exact (bN_f (fun z => bN_z (by rw [← h1]; assumption) z.1)).symm | exact (bN_f (fun z => z.2 (by omega) (by assumption))).symm | (rw [h1]; exact bN_and (fun y => absurd y (by omega))))
                  · skip
                    refine xiconst (v := (nI 1)) h0 dX6_mayTo_127 (by decide) ?_
                    refine xgoto (tgt := 132) h0 dX6_mayTo_128 (by decide) ?_
                    refine xistore (lv' := [(8, .int (nI 1)), (0, .ref (md 1)), (1, .int (nI h)), (2, .int (nI S)), (3, .int (nI been)), (4, .int mx), (5, .int (nI (cdS S - 1))), (6, .int (nI v)), (7, .int (nI q))]) h0 dX6_mayTo_132 (by decide) rfl ?_
                    refine xlv [1, 2, 3, 4, 5, 6, 7, 8, 0] rfl ?_
                    exact j2 1 (by first | exact (bN_t ⟨bN_pos (by rw [← h1]; assumption), fun _ => by assumption⟩).symm | exact (bN_f (fun z => bN_z (by rw [← h1]; assumption) z.1)).symm | exact (bN_f (fun z => z.2 (by omega) (by assumption))).symm | (rw [h1]; exact bN_and (fun y => absurd y (by omega))))
              · skip
                refine xaload_n h0 1 dX6_mayTo_102 rfl rfl ?_
                refine xget (C := RX6) (T := TX6) (N := 52) (ci := 6) (v := .int (nI (T 5 1))) h0 hiX6 0 rfl rfl 2 (by decide) (List.mem_of_getElem? (i := 1) rfl) rfl dX6_mayTo_103 ?_
                refine xiconst (v := (nI 4)) h0 dX6_mayTo_106 (by decide) ?_
                refine xncmp_ne (tgt := 134) h0 dX6_mayTo_107 (by decide) (by omega) (by omega) (fun c_14 => ?_) (fun c_14 => ?_)
                · skip
                  refine xlv [1, 2, 3, 4, 5, 6, 7, 8, 0] rfl ?_
                  exact j2 b (by first | exact (bN_t ⟨bN_pos (by rw [← h1]; assumption), fun _ => by assumption⟩).symm | exact (bN_f (fun z => bN_z (by rw [← h1]; assumption) z.1)).symm | exact (bN_f (fun z => z.2 (by omega) (by assumption))).symm | (rw [h1]; exact bN_and (fun y => absurd y (by omega))))
                · skip
                  refine xiload h0 0 dX6_mayTo_110 rfl ?_
                  refine xnif_eq (tgt := 131) h0 dX6_mayTo_112 (by decide) (by omega) (fun c_15 => ?_) (fun c_15 => ?_)
                  · skip
                    refine xiconst (v := (nI 0)) h0 dX6_mayTo_131 (by decide) ?_
                    refine xistore (lv' := [(8, .int (nI 0)), (0, .ref (md 1)), (1, .int (nI h)), (2, .int (nI S)), (3, .int (nI been)), (4, .int mx), (5, .int (nI (cdS S - 1))), (6, .int (nI v)), (7, .int (nI q))]) h0 dX6_mayTo_132 (by decide) rfl ?_
                    refine xlv [1, 2, 3, 4, 5, 6, 7, 8, 0] rfl ?_
                    exact j2 0 (by first | exact (bN_t ⟨bN_pos (by rw [← h1]; assumption), fun _ => by assumption⟩).symm | exact (bN_f (fun z => bN_z (by rw [← h1]; assumption) z.1)).symm | exact (bN_f (fun z => z.2 (by omega) (by assumption))).symm | (rw [h1]; exact bN_and (fun y => absurd y (by omega))))
                  · skip
                    refine xaload_n h0 1 dX6_mayTo_115 rfl rfl ?_
                    refine xiload_n h0 3 dX6_mayTo_116 rfl rfl ?_
                    refine xiload_n h0 4 dX6_mayTo_117 rfl rfl ?_
                    refine xior (v := (nI (S ||| been))) h0 dX6_mayTo_118 (nx_or _ _) ?_
                    refine xiload h0 8 dX6_mayTo_119 rfl ?_
                    refine xcallV_i (nn := 2) (w2 := fun u_ => (wM cI cC md T k tm dy P pk ptm pdy hpi tg tl R sg sl u0)) (wr := []) (rest := []) h0 (c_X6_hasKin (xL κ) D cI cC md T k tm dy P pk ptm pdy hpi tg tl R sg sl u0 (S ||| been) q hT (by omega) (by omega)) gX6_mayTo_X6_hasKin (by decide +kernel) rfl rfl rfl ⟨Nat.le_of_ble_eq_true rfl, Nat.le_of_ble_eq_true rfl⟩ ⟨by decide, by decide⟩ (fun _ _ _ _ h => h) (fun _ _ _ _ _ _ _ => trivial) rfl (Nat.le_of_ble_eq_true rfl) (q0 := 0) rfl rfl rfl [0, 1, 2, 3, 4, 5, 6, 7, 8, 9, 10, 11, 12, 13, 14, 15, 16, 17, 18, 19, 20, 21] [] [0, 1, 2, 3, 4, 5, 6, 7, 8, 9, 10, 11, 12, 13, 14, 15, 16, 17, 18, 19, 20, 21] ⟨rfl, rfl, rfl, rfl, rfl⟩ (fun _ => ⟨rfl, rfl⟩) dX6_mayTo_121 (fun r_17 u_ hr_16 => ?_)
                    subst hr_16
                    refine xbif_ne (tgt := 131) h0 dX6_mayTo_124 (by decide)  (fun c_18 => ?_) (fun c_18 => ?_)
                    · skip
                      refine xiconst (v := (nI 0)) h0 dX6_mayTo_131 (by decide) ?_
                      refine xistore (lv' := [(8, .int (nI 0)), (0, .ref (md 1)), (1, .int (nI h)), (2, .int (nI S)), (3, .int (nI been)), (4, .int mx), (5, .int (nI (cdS S - 1))), (6, .int (nI v)), (7, .int (nI q))]) h0 dX6_mayTo_132 (by decide) rfl ?_
                      refine xlv [1, 2, 3, 4, 5, 6, 7, 8, 0] rfl ?_
                      exact j2 0 (by first | exact (bN_t ⟨bN_pos (by rw [← h1]; assumption), fun _ => by assumption⟩).symm | exact (bN_f (fun z => bN_z (by rw [← h1]; assumption) z.1)).symm | exact (bN_f (fun z => z.2 (by omega) (by assumption))).symm | (rw [h1]; exact bN_and (fun y => absurd y (by omega))))
                    · skip
                      refine xiconst (v := (nI 1)) h0 dX6_mayTo_127 (by decide) ?_
                      refine xgoto (tgt := 132) h0 dX6_mayTo_128 (by decide) ?_
                      refine xistore (lv' := [(8, .int (nI 1)), (0, .ref (md 1)), (1, .int (nI h)), (2, .int (nI S)), (3, .int (nI been)), (4, .int mx), (5, .int (nI (cdS S - 1))), (6, .int (nI v)), (7, .int (nI q))]) h0 dX6_mayTo_132 (by decide) rfl ?_
                      refine xlv [1, 2, 3, 4, 5, 6, 7, 8, 0] rfl ?_
                      exact j2 1 (by first | exact (bN_t ⟨bN_pos (by rw [← h1]; assumption), fun _ => by assumption⟩).symm | exact (bN_f (fun z => bN_z (by rw [← h1]; assumption) z.1)).symm | exact (bN_f (fun z => z.2 (by omega) (by assumption))).symm | (rw [h1]; exact bN_and (fun y => absurd y (by omega))))
            refine xaload_n h0 0 dX6_mayTo_61 rfl rfl ?_
            refine xget (C := RX6) (T := TX6) (N := 52) (ci := 6) (v := .ref (md 10)) h0 hiX6 0 rfl rfl 10 (by decide) (List.mem_of_getElem? (i := 3) rfl) rfl dX6_mayTo_62 ?_
            refine xbipush (v := (nI 8)) h0 dX6_mayTo_65 (by decide) ?_
            refine xiload_n h0 1 dX6_mayTo_67 rfl rfl ?_
            refine ximul (v := (nI (8 * h))) h0 dX6_mayTo_68 (pk_mul _ _) ?_
            refine xiload h0 7 dX6_mayTo_69 rfl ?_
            refine xiadd (v := (nI ((8 * h) + q))) h0 dX6_mayTo_71 (nI_add _ _) ?_
            refine xiald (v := (nI (T 4 ((8 * h) + q)))) h0 6 0 rfl rfl (by omega) (by decide) dX6_mayTo_72 (rfl) ?_
            refine xnif_le (tgt := 91) h0 dX6_mayTo_73 (by decide) (by have := hm4 (8 * h + q); omega) (fun c_19 => ?_) (fun c_19 => ?_)
            · skip
              refine xiconst (v := (nI 0)) h0 dX6_mayTo_91 (by decide) ?_
              exact j1 0 (by first | exact (bN_t ⟨by assumption, by assumption⟩).symm | exact (bN_f (fun z => z.2 (by assumption))).symm | exact (bN_f (fun z => by have := z.1; omega)).symm)
            · skip
              refine xiload_n h0 2 dX6_mayTo_76 rfl rfl ?_
              refine xiload_n h0 3 dX6_mayTo_77 rfl rfl ?_
              refine xior (v := (nI (S ||| been))) h0 dX6_mayTo_78 (nx_or _ _) ?_
              refine xiload h0 7 dX6_mayTo_79 rfl ?_
              refine xcallS_i (nn := 2) (w2 := fun u_ => (wM cI cC md T k tm dy P pk ptm pdy hpi tg tl R sg sl u0)) (wr := [(md 1, .inr (6, [.ref (md 0), .int (nI (T 5 0)), .int (nI (T 5 1)), .int (nI k), .int (nI tm), .int (nI dy), .ref (md 6), .ref (md 7), .ref (md 8), .ref (md 9), .ref (md 10), .int (nI hpi), .int (nI (P 5 0)), .int (nI (P 5 1)), .int (nI pk), .int (nI ptm), .int (nI pdy), .ref (md 17), .ref (md 18), .ref (md 19), .ref (md 20), .ref (md 21), .ref (md 22), .int (nI sl), .int (nI (u0.1 24)), .int (nI (u0.1 25)), .ref (md 26), .ref (md 27), .ref (md 28), .int (nI (u0.1 29)), .ref (md 30), .ref (md 31), .int (nI (u0.1 32)), .int (nI (u0.1 33)), .int (nI (u0.1 34)), .int (oI u0.2.2), .int (nI (u0.1 36)), .int (nI (u0.1 37)), .int (nI (u0.1 38)), .int (nI (u0.1 39)), .ref (md 40), .int (nI (u0.1 41)), .int (nI (u0.1 42)), .int (nI (u0.1 43)), .ref (md 44), .int (nI (u0.1 45)), .int (nI (u0.1 46)), .ref (md 47), .int (nI (u0.1 48)), .int (nI (u0.1 49)), .ref (md 50), .int (nI tl)])), (md 0, .inl (cI, 7, .inl (fun i_ => nI (R i_)))), (md 6, .inl (cI, 8, .inl (fun i_ => nI (T 0 i_)))), (md 7, .inl (cI, 8, .inl (fun i_ => nI (T 1 i_)))), (md 8, .inl (cI, 8, .inl (fun i_ => nI (T 2 i_)))), (md 9, .inl (cI, 8, .inl (fun i_ => nI (T 3 i_)))), (md 10, .inl (cI, 64, .inl (fun i_ => nI (T 4 i_)))), (md 17, .inl (cI, 8, .inl (fun i_ => nI (P 0 i_)))), (md 18, .inl (cI, 8, .inl (fun i_ => nI (P 1 i_)))), (md 19, .inl (cI, 8, .inl (fun i_ => nI (P 2 i_)))), (md 20, .inl (cI, 8, .inl (fun i_ => nI (P 3 i_)))), (md 21, .inl (cI, 64, .inl (fun i_ => nI (P 4 i_)))), (md 22, .inl (cI, 64, .inl (fun i_ => nI (sg i_)))), (md 26, .inl (cC, 4, .inl (fun i_ => nI (sortsN i_)))), (md 27, .inl (cC, 5, .inl (fun i_ => nI (askersN i_)))), (md 28, .inl (cC, 5, .inl (fun i_ => nI (sayersN i_)))), (md 30, .inl (cI, 4, .inl (fun i_ => nI ((u0.2.1 30) i_)))), (md 31, .inl (cI, 8, .inl (fun i_ => nI ((u0.2.1 31) i_)))), (md 40, .inl (cI, 8, .inl (fun i_ => nI ((u0.2.1 40) i_)))), (md 44, .inl (cI, 8, .inl (fun i_ => nI ((u0.2.1 44) i_)))), (md 47, .inl (cI, 8, .inl (fun i_ => nI ((u0.2.1 47) i_)))), (md 50, .inl (cI, 8, .inl (fun i_ => nI (tg i_))))]) (rest := []) h0 (c_X6_isIn (xL κ) D cI cC (S ||| been) q (by omega) (by omega)) gX6_mayTo_X6_isIn (by decide +kernel) rfl rfl rfl ⟨Nat.le_of_ble_eq_true rfl, Nat.le_of_ble_eq_true rfl⟩ ⟨by decide, by decide⟩ (fun _ _ _ _ h => h) (fun _ _ _ _ _ _ _ => trivial) rfl (Nat.le_of_ble_eq_true rfl) rfl [] [0, 1, 2, 3, 4, 5, 6, 7, 8, 9, 10, 11, 12, 13, 14, 15, 16, 17, 18, 19, 20, 21] [0, 1, 2, 3, 4, 5, 6, 7, 8, 9, 10, 11, 12, 13, 14, 15, 16, 17, 18, 19, 20, 21] ⟨rfl, rfl, rfl, rfl, rfl⟩ (fun _ => ⟨rfl, rfl⟩) dX6_mayTo_81 (fun r_21 u_ hr_20 => ?_)
              subst hr_20
              refine xbif_ne (tgt := 91) h0 dX6_mayTo_84 (by decide)  (fun c_22 => ?_) (fun c_22 => ?_)
              · skip
                refine xiconst (v := (nI 0)) h0 dX6_mayTo_91 (by decide) ?_
                exact j1 0 (by first | exact (bN_t ⟨by assumption, by assumption⟩).symm | exact (bN_f (fun z => z.2 (by assumption))).symm | exact (bN_f (fun z => by have := z.1; omega)).symm)
              · skip
                refine xiconst (v := (nI 1)) h0 dX6_mayTo_87 (by decide) ?_
                refine xgoto (tgt := 92) h0 dX6_mayTo_88 (by decide) ?_
                exact j1 1 (by first | exact (bN_t ⟨by assumption, by assumption⟩).symm | exact (bN_f (fun z => z.2 (by assumption))).symm | exact (bN_f (fun z => by have := z.1; omega)).symm)
      refine xlv [1, 2, 3, 4, 5, 6, 7, 0] rfl ?_
      exact lp (9) 0 0 (by omega) (by omega) (by rfl)
    refine xaload_n h0 2 dX6_mayTo_17 rfl rfl ?_
    refine xget (C := RX6) (T := TX6) (N := 52) (ci := 6) (v := .int (nI (T 5 1))) h0 hiX6 0 rfl rfl 2 (by decide) (List.mem_of_getElem? (i := 1) rfl) rfl dX6_mayTo_18 ?_
    refine xiconst (v := (nI 2)) h0 dX6_mayTo_21 (by decide) ?_
    refine xncmp_ne (tgt := 31) h0 dX6_mayTo_22 (by decide) (by omega) (by omega) (fun c_23 => ?_) (fun c_23 => ?_)
    · skip
      refine xaload_n h0 2 dX6_mayTo_31 rfl rfl ?_
      refine xget (C := RX6) (T := TX6) (N := 52) (ci := 6) (v := .int (nI (T 5 1))) h0 hiX6 0 rfl rfl 2 (by decide) (List.mem_of_getElem? (i := 1) rfl) rfl dX6_mayTo_32 ?_
      refine xiconst (v := (nI 3)) h0 dX6_mayTo_35 (by decide) ?_
      refine xncmp_ne (tgt := 49) h0 dX6_mayTo_36 (by decide) (by omega) (by omega) (fun c_24 => ?_) (fun c_24 => ?_)
      · skip
        refine xlv [2, 3, 4, 5, 6, 1, 0] rfl ?_
        exact jg  (by exact hmu) (by omega)
      · skip
        refine xiload h0 1 dX6_mayTo_39 rfl ?_
        refine xbipush (v := (nI 6)) h0 dX6_mayTo_41 (by decide) ?_
        refine xncmp_lt (tgt := 49) h0 dX6_mayTo_43 (by decide) (by have := cdS_le S; omega) (by have := cdS_le S; omega) (fun c_25 => ?_) (fun c_25 => ?_)
        · skip
          refine xlv [2, 3, 4, 5, 6, 1, 0] rfl ?_
          exact jg  (by exact hmu) (by omega)
        · skip
          refine xiload h0 0 dX6_mayTo_46 rfl ?_
          exact xiret h0 dX6_mayTo_48 () (by rw [mayS]; first | (rw [if_pos hmu]; done) | (rw [if_neg hmu, if_pos (by omega)]; done)) rfl
    · skip
      refine xiload h0 1 dX6_mayTo_25 rfl ?_
      refine xiconst (v := (nI 3)) h0 dX6_mayTo_27 (by decide) ?_
      refine xncmp_ge (tgt := 46) h0 dX6_mayTo_28 (by decide) (by have := cdS_le S; omega) (by have := cdS_le S; omega) (fun c_26 => ?_) (fun c_26 => ?_)
      · skip
        refine xiload h0 0 dX6_mayTo_46 rfl ?_
        exact xiret h0 dX6_mayTo_48 () (by rw [mayS]; first | (rw [if_pos hmu]; done) | (rw [if_neg hmu, if_pos (by omega)]; done)) rfl
      · skip
        refine xaload_n h0 2 dX6_mayTo_31 rfl rfl ?_
        refine xget (C := RX6) (T := TX6) (N := 52) (ci := 6) (v := .int (nI (T 5 1))) h0 hiX6 0 rfl rfl 2 (by decide) (List.mem_of_getElem? (i := 1) rfl) rfl dX6_mayTo_32 ?_
        refine xiconst (v := (nI 3)) h0 dX6_mayTo_35 (by decide) ?_
        refine xncmp_ne (tgt := 49) h0 dX6_mayTo_36 (by decide) (by omega) (by omega) (fun c_27 => ?_) (fun c_27 => ?_)
        · skip
          refine xlv [2, 3, 4, 5, 6, 1, 0] rfl ?_
          exact jg  (by exact hmu) (by omega)
        · skip
          refine xiload h0 1 dX6_mayTo_39 rfl ?_
          refine xbipush (v := (nI 6)) h0 dX6_mayTo_41 (by decide) ?_
          refine xncmp_lt (tgt := 49) h0 dX6_mayTo_43 (by decide) (by have := cdS_le S; omega) (by have := cdS_le S; omega) (fun c_28 => ?_) (fun c_28 => ?_)
          · skip
            refine xlv [2, 3, 4, 5, 6, 1, 0] rfl ?_
            exact jg  (by exact hmu) (by omega)
          · skip
            refine xiload h0 0 dX6_mayTo_46 rfl ?_
            exact xiret h0 dX6_mayTo_48 () (by rw [mayS]; first | (rw [if_pos hmu]; done) | (rw [if_neg hmu, if_pos (by omega)]; done)) rfl
set_option maxHeartbeats 4000000 in
set_option maxRecDepth 100000 in
theorem c_X6_next (l : Launch) (D : va_G) (cI cC : ClassId) (md : Nat → Nat) (T : TT) (k tm dy : Nat) (P : TT) (pk ptm pdy hpi : Nat) (tg : Nat → Nat) (tl : Nat) (R : Nat → Nat) (sg : Nat → Nat) (sl : Nat) (u0 : ScmT) (h S been mu : Nat) (mx : Int32) (hT : TOK T) (hh : h < T 5 0) (hS : S < 256) (hc : 1 ≤ cdS S) (hb : been < 256) (hmx : mxI mx mu) : XMi l yX6_next wsX6_next ({ frames := 3, cells := 0, slots := 0, locals := 73 } : Room) D (xT cI cC) xE0 (wM cI cC md T k tm dy P pk ptm pdy hpi tg tl R sg sl u0) [.ref (md 1), .int (nI h), .int (nI S), .int (nI been), .int mx] (S := Unit) (fun r _ => r = oI (nextS T h S been mu)) (fun _ => (wM cI cC md T k tm dy P pk ptm pdy hpi tg tl R sg sl u0)) 0 0 := by
  refine xMet_i (cc := cX6_next) (nL := 13) (ret := some .int) (by decide +kernel) rfl (Nat.le_of_ble_eq_true rfl) (fun κ A h0 hn0 hE => ?_)
  have hiX6 : ∀ w ∈ u_ws RX6 TX6 52, w ∈ wsX6_next := by decide +kernel
  refine xlv (lv' := [(0, .ref (md 1)), (1, .int (nI h)), (2, .int (nI S)), (3, .int (nI been)), (4, .int mx)]) [0, 1, 2, 3, 4] rfl ?_
  have hn := hT.1
  have hlw := hT.2.1
  have hm4 := hT.2.2.2.2.2.2.1
  have hG : S ||| been < 256 := or_lt256 hS hb
  have hop := mayS_lt hT h S been mu
  have hak := hT.2.2.1 h
  refine xaload_n h0 0 dX6_next_0 rfl rfl ?_
  refine xiload_n h0 1 dX6_next_1 rfl rfl ?_
  refine xiload_n h0 2 dX6_next_2 rfl rfl ?_
  refine xiload_n h0 3 dX6_next_3 rfl rfl ?_
  refine xiload h0 4 dX6_next_4 rfl ?_
  refine xcallV_i (nn := 4) (w2 := fun u_ => (wM cI cC md T k tm dy P pk ptm pdy hpi tg tl R sg sl u0)) (wr := []) (rest := []) h0 (c_X6_mayTo (xL κ) D cI cC md T k tm dy P pk ptm pdy hpi tg tl R sg sl u0 h S been mu mx hT (by exact hh) (by omega) (by omega) (by omega) hmx) gX6_next_X6_mayTo (by decide +kernel) rfl rfl rfl ⟨Nat.le_of_ble_eq_true rfl, Nat.le_of_ble_eq_true rfl⟩ ⟨by decide, by decide⟩ (fun _ _ _ _ h => h) (fun _ _ _ _ _ _ _ => trivial) rfl (Nat.le_of_ble_eq_true rfl) (q0 := 0) rfl rfl rfl [0, 1, 2, 3, 4, 5, 6, 7, 8, 9, 10, 11, 12, 13, 14, 15, 16, 17, 18, 19, 20, 21] [] [0, 1, 2, 3, 4, 5, 6, 7, 8, 9, 10, 11, 12, 13, 14, 15, 16, 17, 18, 19, 20, 21] ⟨rfl, rfl, rfl, rfl, rfl⟩ (fun _ => ⟨rfl, rfl⟩) dX6_next_6 (fun r_2 u_ hr_1 => ?_)
  subst hr_1
  refine xistore (lv' := [(5, .int (nI (mayS T h S been mu))), (0, .ref (md 1)), (1, .int (nI h)), (2, .int (nI S)), (3, .int (nI been)), (4, .int mx)]) h0 dX6_next_9 (by decide) rfl ?_
  refine xiconst (v := (-1)) h0 dX6_next_11 (by decide) ?_
  refine xistore (lv' := [(6, .int (-1)), (5, .int (nI (mayS T h S been mu))), (0, .ref (md 1)), (1, .int (nI h)), (2, .int (nI S)), (3, .int (nI been)), (4, .int mx)]) h0 dX6_next_12 (by decide) rfl ?_
  refine xiconst (v := (nI 0)) h0 dX6_next_14 (by decide) ?_
  refine xistore (lv' := [(7, .int (nI 0)), (6, .int (-1)), (5, .int (nI (mayS T h S been mu))), (0, .ref (md 1)), (1, .int (nI h)), (2, .int (nI S)), (3, .int (nI been)), (4, .int mx)]) h0 dX6_next_15 (by decide) rfl ?_
  refine xiconst (v := (nI 0)) h0 dX6_next_17 (by decide) ?_
  refine xistore (lv' := [(8, .int (nI 0)), (7, .int (nI 0)), (6, .int (-1)), (5, .int (nI (mayS T h S been mu))), (0, .ref (md 1)), (1, .int (nI h)), (2, .int (nI S)), (3, .int (nI been)), (4, .int mx)]) h0 dX6_next_18 (by decide) rfl ?_
  refine xiconst (v := (nI 0)) h0 dX6_next_20 (by decide) ?_
  refine xistore (lv' := [(9, .int (nI 0)), (8, .int (nI 0)), (7, .int (nI 0)), (6, .int (-1)), (5, .int (nI (mayS T h S been mu))), (0, .ref (md 1)), (1, .int (nI h)), (2, .int (nI S)), (3, .int (nI been)), (4, .int mx)]) h0 dX6_next_21 (by decide) rfl ?_
  have lp : ∀ (d_ : Nat) (q : Nat) (b : Option Nat) (f1 f2 : Int32), (9 - q ≤ d_) → (q ≤ T 5 0) → (b = bsS T h S been mu q) → (∀ c, b = some c → f1 = kA T h S been mu c ∧ f2 = kB T h c) → XG κ 13 D (xT cI cC) A (xQi (S := Unit) κ D (xT cI cC) A (fun r _ => r = oI (nextS T h S been mu)) (fun _ => (wM cI cC md T k tm dy P pk ptm pdy hpi tg tl R sg sl u0)) 0 0) (wM cI cC md T k tm dy P pk ptm pdy hpi tg tl R sg sl u0) 0 0 23 [(0, .ref (md 1)), (1, .int (nI h)), (2, .int (nI S)), (3, .int (nI been)), (4, .int mx), (5, .int (nI (mayS T h S been mu))), (6, .int (oI b)), (7, .int f1), (8, .int f2), (9, .int (nI q))] [] := by
    intro d_
    induction d_ with
    | zero => intro q b f1 f2 hm_ hi hbs hf; exact absurd hm_ (by omega)
    | succ d_ ih_lp =>
      intro q b f1 f2 hm_ hi hbs hf
      refine xiload h0 9 dX6_next_23 rfl ?_
      refine xaload_n h0 0 dX6_next_25 rfl rfl ?_
      refine xget (C := RX6) (T := TX6) (N := 52) (ci := 6) (v := .int (nI (T 5 0))) h0 hiX6 0 rfl rfl 1 (by decide) (List.mem_of_getElem? (i := 1) rfl) rfl dX6_next_26 ?_
      refine xncmp_ge (tgt := 219) h0 dX6_next_29 (by decide) (by omega) (by omega) (fun c_3 => ?_) (fun c_3 => ?_)
      · skip
        refine xiload h0 6 dX6_next_219 rfl ?_
        exact xiret h0 dX6_next_221 () (by rw [hbs, show q = T 5 0 by omega, nextS_n hT]) rfl
      · skip
        refine xiload h0 5 dX6_next_32 rfl ?_
        refine xiload h0 9 dX6_next_34 rfl ?_
        refine xcallS_i (nn := 2) (w2 := fun u_ => (wM cI cC md T k tm dy P pk ptm pdy hpi tg tl R sg sl u0)) (wr := [(md 1, .inr (6, [.ref (md 0), .int (nI (T 5 0)), .int (nI (T 5 1)), .int (nI k), .int (nI tm), .int (nI dy), .ref (md 6), .ref (md 7), .ref (md 8), .ref (md 9), .ref (md 10), .int (nI hpi), .int (nI (P 5 0)), .int (nI (P 5 1)), .int (nI pk), .int (nI ptm), .int (nI pdy), .ref (md 17), .ref (md 18), .ref (md 19), .ref (md 20), .ref (md 21), .ref (md 22), .int (nI sl), .int (nI (u0.1 24)), .int (nI (u0.1 25)), .ref (md 26), .ref (md 27), .ref (md 28), .int (nI (u0.1 29)), .ref (md 30), .ref (md 31), .int (nI (u0.1 32)), .int (nI (u0.1 33)), .int (nI (u0.1 34)), .int (oI u0.2.2), .int (nI (u0.1 36)), .int (nI (u0.1 37)), .int (nI (u0.1 38)), .int (nI (u0.1 39)), .ref (md 40), .int (nI (u0.1 41)), .int (nI (u0.1 42)), .int (nI (u0.1 43)), .ref (md 44), .int (nI (u0.1 45)), .int (nI (u0.1 46)), .ref (md 47), .int (nI (u0.1 48)), .int (nI (u0.1 49)), .ref (md 50), .int (nI tl)])), (md 0, .inl (cI, 7, .inl (fun i_ => nI (R i_)))), (md 6, .inl (cI, 8, .inl (fun i_ => nI (T 0 i_)))), (md 7, .inl (cI, 8, .inl (fun i_ => nI (T 1 i_)))), (md 8, .inl (cI, 8, .inl (fun i_ => nI (T 2 i_)))), (md 9, .inl (cI, 8, .inl (fun i_ => nI (T 3 i_)))), (md 10, .inl (cI, 64, .inl (fun i_ => nI (T 4 i_)))), (md 17, .inl (cI, 8, .inl (fun i_ => nI (P 0 i_)))), (md 18, .inl (cI, 8, .inl (fun i_ => nI (P 1 i_)))), (md 19, .inl (cI, 8, .inl (fun i_ => nI (P 2 i_)))), (md 20, .inl (cI, 8, .inl (fun i_ => nI (P 3 i_)))), (md 21, .inl (cI, 64, .inl (fun i_ => nI (P 4 i_)))), (md 22, .inl (cI, 64, .inl (fun i_ => nI (sg i_)))), (md 26, .inl (cC, 4, .inl (fun i_ => nI (sortsN i_)))), (md 27, .inl (cC, 5, .inl (fun i_ => nI (askersN i_)))), (md 28, .inl (cC, 5, .inl (fun i_ => nI (sayersN i_)))), (md 30, .inl (cI, 4, .inl (fun i_ => nI ((u0.2.1 30) i_)))), (md 31, .inl (cI, 8, .inl (fun i_ => nI ((u0.2.1 31) i_)))), (md 40, .inl (cI, 8, .inl (fun i_ => nI ((u0.2.1 40) i_)))), (md 44, .inl (cI, 8, .inl (fun i_ => nI ((u0.2.1 44) i_)))), (md 47, .inl (cI, 8, .inl (fun i_ => nI ((u0.2.1 47) i_)))), (md 50, .inl (cI, 8, .inl (fun i_ => nI (tg i_))))]) (rest := []) h0 (c_X6_isIn (xL κ) D cI cC (mayS T h S been mu) q (by omega) (by omega)) gX6_next_X6_isIn (by decide +kernel) rfl rfl rfl ⟨Nat.le_of_ble_eq_true rfl, Nat.le_of_ble_eq_true rfl⟩ ⟨by decide, by decide⟩ (fun _ _ _ _ h => h) (fun _ _ _ _ _ _ _ => trivial) rfl (Nat.le_of_ble_eq_true rfl) rfl [] [0, 1, 2, 3, 4, 5, 6, 7, 8, 9, 10, 11, 12, 13, 14, 15, 16, 17, 18, 19, 20, 21] [0, 1, 2, 3, 4, 5, 6, 7, 8, 9, 10, 11, 12, 13, 14, 15, 16, 17, 18, 19, 20, 21] ⟨rfl, rfl, rfl, rfl, rfl⟩ (fun _ => ⟨rfl, rfl⟩) dX6_next_36 (fun r_5 u_ hr_4 => ?_)
        subst hr_4
        refine xbif_eq (tgt := 213) h0 dX6_next_39 (by decide)  (fun c_6 => ?_) (fun c_6 => ?_)
        · skip
          refine xiinc (v := (nI (q + 1))) (lv' := [(9, .int (nI (q + 1))), (0, .ref (md 1)), (1, .int (nI h)), (2, .int (nI S)), (3, .int (nI been)), (4, .int mx), (5, .int (nI (mayS T h S been mu))), (6, .int (oI b)), (7, .int f1), (8, .int f2)]) h0 9 dX6_next_213 rfl (nI_add _ _) (by decide) rfl ?_
          refine xgoto (tgt := 23) h0 dX6_next_216 (by decide) ?_
          refine xlv [1, 2, 3, 4, 5, 6, 7, 8, 9, 0] rfl ?_
          exact ih_lp (q + 1) b f1 f2 (by omega) (by omega) (by first | (rw [bsS_no (by assumption)]; exact hbs) | exact (hst trivial).symm | exact hno) (by first | exact hf | (intro c e; cases e; exact ⟨ha, hb2⟩))
        · skip
          have hbit := c_6
          have hqn := (mayS_in c_6).1
          have hq8 : q < 8 := by omega
          have hS2 : S ||| 2 ^ q < 256 := or_lt256 hS (pw_lt256 hq8)
          have hc2 : 1 ≤ cdS (S ||| 2 ^ q) := cd_or hS hq8
          have jk : ∀ (a1 a2 : Int32), (a1 = kA T h S been mu q) → (a2 = kB T h q) → XG κ 13 D (xT cI cC) A (xQi (S := Unit) κ D (xT cI cC) A (fun r _ => r = oI (nextS T h S been mu)) (fun _ => (wM cI cC md T k tm dy P pk ptm pdy hpi tg tl R sg sl u0)) 0 0) (wM cI cC md T k tm dy P pk ptm pdy hpi tg tl R sg sl u0) 0 0 175 [(0, .ref (md 1)), (1, .int (nI h)), (2, .int (nI S)), (3, .int (nI been)), (4, .int mx), (5, .int (nI (mayS T h S been mu))), (6, .int (oI b)), (7, .int f1), (8, .int f2), (9, .int (nI q)), (11, .int a1), (12, .int a2)] [] := by
            intro a1 a2 ha hb2
            refine xiload h0 6 dX6_next_175 rfl ?_
            refine xif_lt (tgt := 201) h0 dX6_next_177 (by decide)  (fun c_7 => ?_) (fun c_7 => ?_)
            · skip
              have hst : True → bsS T h S been mu (q + 1) = some q := fun _ => bsS_1 hbit (hbs.symm.trans (oI_lt (fun z e => by have := (bsS_in q (hbs ▸ e)).1; omega) c_7))
              refine xiload h0 9 dX6_next_201 rfl ?_
              refine xistore (lv' := [(6, .int (nI q)), (0, .ref (md 1)), (1, .int (nI h)), (2, .int (nI S)), (3, .int (nI been)), (4, .int mx), (5, .int (nI (mayS T h S been mu))), (7, .int f1), (8, .int f2), (9, .int (nI q)), (11, .int a1), (12, .int a2)]) h0 dX6_next_203 (by decide) rfl ?_
              refine xiload h0 10 dX6_next_205 rfl ?_
              refine xistore (lv' := [(7, .int a1), (6, .int (nI q)), (0, .ref (md 1)), (1, .int (nI h)), (2, .int (nI S)), (3, .int (nI been)), (4, .int mx), (5, .int (nI (mayS T h S been mu))), (8, .int f2), (9, .int (nI q)), (11, .int a1), (12, .int a2)]) h0 dX6_next_207 (by decide) rfl ?_
              refine xiload h0 11 dX6_next_209 rfl ?_
              refine xistore (lv' := [(8, .int a2), (7, .int a1), (6, .int (nI q)), (0, .ref (md 1)), (1, .int (nI h)), (2, .int (nI S)), (3, .int (nI been)), (4, .int mx), (5, .int (nI (mayS T h S been mu))), (9, .int (nI q)), (11, .int a1), (12, .int a2)]) h0 dX6_next_211 (by decide) rfl ?_
              refine xiinc (v := (nI (q + 1))) (lv' := [(9, .int (nI (q + 1))), (8, .int a2), (7, .int a1), (6, .int (nI q)), (0, .ref (md 1)), (1, .int (nI h)), (2, .int (nI S)), (3, .int (nI been)), (4, .int mx), (5, .int (nI (mayS T h S been mu))), (11, .int a1), (12, .int a2)]) h0 9 dX6_next_213 rfl (nI_add _ _) (by decide) rfl ?_
              refine xgoto (tgt := 23) h0 dX6_next_216 (by decide) ?_
              refine xlv [4, 5, 6, 7, 8, 9, 3, 2, 1, 0] rfl ?_
              exact ih_lp (q + 1) (some q) a1 a2 (by omega) (by omega) (by first | (rw [bsS_no (by assumption)]; exact hbs) | exact (hst trivial).symm | exact hno) (by first | exact hf | (intro c e; cases e; exact ⟨ha, hb2⟩))
            · skip
              obtain ⟨c0, hc0⟩ := oI_ge c_7
              obtain ⟨hf1, hf2⟩ := hf c0 hc0
              have hb0 := hbs.symm.trans hc0
              refine xiload h0 10 dX6_next_180 rfl ?_
              refine xiload h0 7 dX6_next_182 rfl ?_
              refine xicmp_lt (tgt := 201) h0 dX6_next_184 (by decide)  (fun c_8 => ?_) (fun c_8 => ?_)
              · skip
                have hst : True → bsS T h S been mu (q + 1) = some q := fun _ => bsS_2 hbit hb0 (Or.inl (by rw [← ha, ← hf1]; exact c_8))
                refine xiload h0 9 dX6_next_201 rfl ?_
                refine xistore (lv' := [(6, .int (nI q)), (0, .ref (md 1)), (1, .int (nI h)), (2, .int (nI S)), (3, .int (nI been)), (4, .int mx), (5, .int (nI (mayS T h S been mu))), (7, .int f1), (8, .int f2), (9, .int (nI q)), (11, .int a1), (12, .int a2)]) h0 dX6_next_203 (by decide) rfl ?_
                refine xiload h0 10 dX6_next_205 rfl ?_
                refine xistore (lv' := [(7, .int a1), (6, .int (nI q)), (0, .ref (md 1)), (1, .int (nI h)), (2, .int (nI S)), (3, .int (nI been)), (4, .int mx), (5, .int (nI (mayS T h S been mu))), (8, .int f2), (9, .int (nI q)), (11, .int a1), (12, .int a2)]) h0 dX6_next_207 (by decide) rfl ?_
                refine xiload h0 11 dX6_next_209 rfl ?_
                refine xistore (lv' := [(8, .int a2), (7, .int a1), (6, .int (nI q)), (0, .ref (md 1)), (1, .int (nI h)), (2, .int (nI S)), (3, .int (nI been)), (4, .int mx), (5, .int (nI (mayS T h S been mu))), (9, .int (nI q)), (11, .int a1), (12, .int a2)]) h0 dX6_next_211 (by decide) rfl ?_
                refine xiinc (v := (nI (q + 1))) (lv' := [(9, .int (nI (q + 1))), (8, .int a2), (7, .int a1), (6, .int (nI q)), (0, .ref (md 1)), (1, .int (nI h)), (2, .int (nI S)), (3, .int (nI been)), (4, .int mx), (5, .int (nI (mayS T h S been mu))), (11, .int a1), (12, .int a2)]) h0 9 dX6_next_213 rfl (nI_add _ _) (by decide) rfl ?_
                refine xgoto (tgt := 23) h0 dX6_next_216 (by decide) ?_
                refine xlv [4, 5, 6, 7, 8, 9, 3, 2, 1, 0] rfl ?_
                exact ih_lp (q + 1) (some q) a1 a2 (by omega) (by omega) (by first | (rw [bsS_no (by assumption)]; exact hbs) | exact (hst trivial).symm | exact hno) (by first | exact hf | (intro c e; cases e; exact ⟨ha, hb2⟩))
              · skip
                have hna := c_8
                refine xiload h0 10 dX6_next_187 rfl ?_
                refine xiload h0 7 dX6_next_189 rfl ?_
                refine xicmp_ne (tgt := 213) h0 dX6_next_191 (by decide)  (fun c_9 => ?_) (fun c_9 => ?_)
                · skip
                  have hno : b = bsS T h S been mu (q + 1) := by rw [bsS_3 hbit hb0 (fun z => z.elim (fun y => hna (by rw [ha, hf1]; exact y)) (fun y => c_9 (by rw [ha, hf1]; exact y.1)))]; exact hc0
                  refine xiinc (v := (nI (q + 1))) (lv' := [(9, .int (nI (q + 1))), (0, .ref (md 1)), (1, .int (nI h)), (2, .int (nI S)), (3, .int (nI been)), (4, .int mx), (5, .int (nI (mayS T h S been mu))), (6, .int (oI b)), (7, .int f1), (8, .int f2), (11, .int a1), (12, .int a2)]) h0 9 dX6_next_213 rfl (nI_add _ _) (by decide) rfl ?_
                  refine xgoto (tgt := 23) h0 dX6_next_216 (by decide) ?_
                  refine xlv [1, 2, 3, 4, 5, 6, 7, 8, 9, 0] rfl ?_
                  exact ih_lp (q + 1) b f1 f2 (by omega) (by omega) (by first | (rw [bsS_no (by assumption)]; exact hbs) | exact (hst trivial).symm | exact hno) (by first | exact hf | (intro c e; cases e; exact ⟨ha, hb2⟩))
                · skip
                  have heq := c_9
                  refine xiload h0 11 dX6_next_194 rfl ?_
                  refine xiload h0 8 dX6_next_196 rfl ?_
                  refine xicmp_ge (tgt := 213) h0 dX6_next_198 (by decide)  (fun c_10 => ?_) (fun c_10 => ?_)
                  · skip
                    have hno : b = bsS T h S been mu (q + 1) := by rw [bsS_3 hbit hb0 (fun z => z.elim (fun y => hna (by rw [ha, hf1]; exact y)) (fun y => absurd y.2 (by rw [← hb2, ← hf2]; exact Int32.not_lt.mpr c_10)))]; exact hc0
                    refine xiinc (v := (nI (q + 1))) (lv' := [(9, .int (nI (q + 1))), (0, .ref (md 1)), (1, .int (nI h)), (2, .int (nI S)), (3, .int (nI been)), (4, .int mx), (5, .int (nI (mayS T h S been mu))), (6, .int (oI b)), (7, .int f1), (8, .int f2), (11, .int a1), (12, .int a2)]) h0 9 dX6_next_213 rfl (nI_add _ _) (by decide) rfl ?_
                    refine xgoto (tgt := 23) h0 dX6_next_216 (by decide) ?_
                    refine xlv [1, 2, 3, 4, 5, 6, 7, 8, 9, 0] rfl ?_
                    exact ih_lp (q + 1) b f1 f2 (by omega) (by omega) (by first | (rw [bsS_no (by assumption)]; exact hbs) | exact (hst trivial).symm | exact hno) (by first | exact hf | (intro c e; cases e; exact ⟨ha, hb2⟩))
                  · skip
                    have hst : True → bsS T h S been mu (q + 1) = some q := fun _ => bsS_2 hbit hb0 (Or.inr ⟨by rw [← ha, ← hf1]; exact heq, by rw [← hb2, ← hf2]; exact Int32.not_le.mp c_10⟩)
                    refine xiload h0 9 dX6_next_201 rfl ?_
                    refine xistore (lv' := [(6, .int (nI q)), (0, .ref (md 1)), (1, .int (nI h)), (2, .int (nI S)), (3, .int (nI been)), (4, .int mx), (5, .int (nI (mayS T h S been mu))), (7, .int f1), (8, .int f2), (9, .int (nI q)), (11, .int a1), (12, .int a2)]) h0 dX6_next_203 (by decide) rfl ?_
                    refine xiload h0 10 dX6_next_205 rfl ?_
                    refine xistore (lv' := [(7, .int a1), (6, .int (nI q)), (0, .ref (md 1)), (1, .int (nI h)), (2, .int (nI S)), (3, .int (nI been)), (4, .int mx), (5, .int (nI (mayS T h S been mu))), (8, .int f2), (9, .int (nI q)), (11, .int a1), (12, .int a2)]) h0 dX6_next_207 (by decide) rfl ?_
                    refine xiload h0 11 dX6_next_209 rfl ?_
                    refine xistore (lv' := [(8, .int a2), (7, .int a1), (6, .int (nI q)), (0, .ref (md 1)), (1, .int (nI h)), (2, .int (nI S)), (3, .int (nI been)), (4, .int mx), (5, .int (nI (mayS T h S been mu))), (9, .int (nI q)), (11, .int a1), (12, .int a2)]) h0 dX6_next_211 (by decide) rfl ?_
                    refine xiinc (v := (nI (q + 1))) (lv' := [(9, .int (nI (q + 1))), (8, .int a2), (7, .int a1), (6, .int (nI q)), (0, .ref (md 1)), (1, .int (nI h)), (2, .int (nI S)), (3, .int (nI been)), (4, .int mx), (5, .int (nI (mayS T h S been mu))), (11, .int a1), (12, .int a2)]) h0 9 dX6_next_213 rfl (nI_add _ _) (by decide) rfl ?_
                    refine xgoto (tgt := 23) h0 dX6_next_216 (by decide) ?_
                    refine xlv [4, 5, 6, 7, 8, 9, 3, 2, 1, 0] rfl ?_
                    exact ih_lp (q + 1) (some q) a1 a2 (by omega) (by omega) (by first | (rw [bsS_no (by assumption)]; exact hbs) | exact (hst trivial).symm | exact hno) (by first | exact hf | (intro c e; cases e; exact ⟨ha, hb2⟩))
          refine xaload_n h0 0 dX6_next_42 rfl rfl ?_
          refine xget (C := RX6) (T := TX6) (N := 52) (ci := 6) (v := .ref (md 10)) h0 hiX6 0 rfl rfl 10 (by decide) (List.mem_of_getElem? (i := 2) rfl) rfl dX6_next_43 ?_
          refine xbipush (v := (nI 8)) h0 dX6_next_46 (by decide) ?_
          refine xiload_n h0 1 dX6_next_48 rfl rfl ?_
          refine ximul (v := (nI (8 * h))) h0 dX6_next_49 (pk_mul _ _) ?_
          refine xiload h0 9 dX6_next_50 rfl ?_
          refine xiadd (v := (nI ((8 * h) + q))) h0 dX6_next_52 (nI_add _ _) ?_
          refine xiald (v := (nI (T 4 ((8 * h) + q)))) h0 6 0 rfl rfl (by omega) (by decide) dX6_next_53 (rfl) ?_
          refine xistore (lv' := [(10, .int (nI (T 4 ((8 * h) + q)))), (0, .ref (md 1)), (1, .int (nI h)), (2, .int (nI S)), (3, .int (nI been)), (4, .int mx), (5, .int (nI (mayS T h S been mu))), (6, .int (oI b)), (7, .int f1), (8, .int f2), (9, .int (nI q))]) h0 dX6_next_54 (by decide) rfl ?_
          refine xiconst (v := (nI 0)) h0 dX6_next_56 (by decide) ?_
          refine xistore (lv' := [(11, .int (nI 0)), (10, .int (nI (T 4 ((8 * h) + q)))), (0, .ref (md 1)), (1, .int (nI h)), (2, .int (nI S)), (3, .int (nI been)), (4, .int mx), (5, .int (nI (mayS T h S been mu))), (6, .int (oI b)), (7, .int f1), (8, .int f2), (9, .int (nI q))]) h0 dX6_next_57 (by decide) rfl ?_
          refine xiconst (v := (nI 0)) h0 dX6_next_59 (by decide) ?_
          refine xistore (lv' := [(12, .int (nI 0)), (11, .int (nI 0)), (10, .int (nI (T 4 ((8 * h) + q)))), (0, .ref (md 1)), (1, .int (nI h)), (2, .int (nI S)), (3, .int (nI been)), (4, .int mx), (5, .int (nI (mayS T h S been mu))), (6, .int (oI b)), (7, .int f1), (8, .int f2), (9, .int (nI q))]) h0 dX6_next_60 (by decide) rfl ?_
          refine xaload_n h0 3 dX6_next_62 rfl rfl ?_
          refine xget (C := RX6) (T := TX6) (N := 52) (ci := 6) (v := .ref (md 6)) h0 hiX6 0 rfl rfl 6 (by decide) (List.mem_of_getElem? (i := 3) rfl) rfl dX6_next_63 ?_
          refine xiload_n h0 4 dX6_next_66 rfl rfl ?_
          refine xiald (v := (nI (T 0 h))) h0 2 0 rfl rfl (by omega) (by decide) dX6_next_67 (rfl) ?_
          rcases (Decidable.em (T 0 h = 0)) with k_11 | k_11
          · skip
            refine xtabN (j := 0) (off := 32) (tgt := 100) h0 dX6_next_68 k_11 (by decide) (by decide) rfl (by decide) ?_
            refine xiload h0 2 dX6_next_100 rfl ?_
            refine xistore (lv' := [(11, .int (nI (T 4 ((8 * h) + q)))), (12, .int (nI 0)), (10, .int (nI (T 4 ((8 * h) + q)))), (0, .ref (md 1)), (1, .int (nI h)), (2, .int (nI S)), (3, .int (nI been)), (4, .int mx), (5, .int (nI (mayS T h S been mu))), (6, .int (oI b)), (7, .int f1), (8, .int f2), (9, .int (nI q))]) h0 dX6_next_102 (by decide) rfl ?_
            refine xgoto (tgt := 175) h0 dX6_next_104 (by decide) ?_
            refine xlv [3, 4, 5, 6, 7, 8, 9, 10, 11, 12, 0, 1] rfl ?_
            exact jk (nI (T 4 ((8 * h) + q))) (nI 0) (by (unfold kA; (repeat' split) <;> first | (exfalso; omega) | rfl)) (by (unfold kB; (repeat' split) <;> first | (exfalso; omega) | rfl))
          rcases (Decidable.em (T 0 h = 1)) with k_12 | k_12
          · skip
            refine xtabN (j := 1) (off := 39) (tgt := 107) h0 dX6_next_68 k_12 (by decide) (by decide) rfl (by decide) ?_
            refine xaload_n h0 3 dX6_next_107 rfl rfl ?_
            refine xget (C := RX6) (T := TX6) (N := 52) (ci := 6) (v := .ref (md 8)) h0 hiX6 0 rfl rfl 8 (by decide) (List.mem_of_getElem? (i := 4) rfl) rfl dX6_next_108 ?_
            refine xiload h0 12 dX6_next_111 rfl ?_
            refine xiald (v := (nI (T 2 q))) h0 4 0 rfl rfl (by omega) (by decide) dX6_next_113 (rfl) ?_
            refine xineg (v := (-(nI (T 2 q)))) h0 dX6_next_114 (rfl) ?_
            refine xistore (lv' := [(11, .int (-(nI (T 2 q)))), (12, .int (nI 0)), (10, .int (nI (T 4 ((8 * h) + q)))), (0, .ref (md 1)), (1, .int (nI h)), (2, .int (nI S)), (3, .int (nI been)), (4, .int mx), (5, .int (nI (mayS T h S been mu))), (6, .int (oI b)), (7, .int f1), (8, .int f2), (9, .int (nI q))]) h0 dX6_next_115 (by decide) rfl ?_
            refine xgoto (tgt := 175) h0 dX6_next_117 (by decide) ?_
            refine xlv [3, 4, 5, 6, 7, 8, 9, 10, 11, 12, 0, 1] rfl ?_
            exact jk (-(nI (T 2 q))) (nI 0) (by (unfold kA; (repeat' split) <;> first | (exfalso; omega) | rfl)) (by (unfold kB; (repeat' split) <;> first | (exfalso; omega) | rfl))
          rcases (Decidable.em (T 0 h = 2)) with k_13 | k_13
          · skip
            refine xtabN (j := 2) (off := 52) (tgt := 120) h0 dX6_next_68 k_13 (by decide) (by decide) rfl (by decide) ?_
            refine xaload_n h0 3 dX6_next_120 rfl rfl ?_
            refine xiload h0 12 dX6_next_121 rfl ?_
            refine xiload_n h0 5 dX6_next_123 rfl rfl ?_
            refine xiconst (v := (nI 1)) h0 dX6_next_124 (by decide) ?_
            refine xiload h0 12 dX6_next_125 rfl ?_
            refine xishl (v := (nI (2 ^ q))) h0 dX6_next_127 (nI_shl1 q (by omega)) ?_
            refine xior (v := (nI (S ||| (2 ^ q)))) h0 dX6_next_128 (nx_or _ _) ?_
            refine xiload_n h0 6 dX6_next_129 rfl rfl ?_
            refine xiload h0 7 dX6_next_130 rfl ?_
            refine xcallV_i (nn := 4) (w2 := fun u_ => (wM cI cC md T k tm dy P pk ptm pdy hpi tg tl R sg sl u0)) (wr := []) (rest := []) h0 (c_X6_mayTo (xL κ) D cI cC md T k tm dy P pk ptm pdy hpi tg tl R sg sl u0 q (S ||| (2 ^ q)) been mu mx hT (by exact hqn) (by exact hS2) (by exact hc2) (by omega) hmx) gX6_next_X6_mayTo (by decide +kernel) rfl rfl rfl ⟨Nat.le_of_ble_eq_true rfl, Nat.le_of_ble_eq_true rfl⟩ ⟨by decide, by decide⟩ (fun _ _ _ _ h => h) (fun _ _ _ _ _ _ _ => trivial) rfl (Nat.le_of_ble_eq_true rfl) (q0 := 0) rfl rfl rfl [0, 1, 2, 3, 4, 5, 6, 7, 8, 9, 10, 11, 12, 13, 14, 15, 16, 17, 18, 19, 20, 21] [] [0, 1, 2, 3, 4, 5, 6, 7, 8, 9, 10, 11, 12, 13, 14, 15, 16, 17, 18, 19, 20, 21] ⟨rfl, rfl, rfl, rfl, rfl⟩ (fun _ => ⟨rfl, rfl⟩) dX6_next_132 (fun r_15 u_ hr_14 => ?_)
            subst hr_14
            refine xcallS_i (nn := 1) (w2 := fun u_ => (wM cI cC md T k tm dy P pk ptm pdy hpi tg tl R sg sl u0)) (wr := [(md 1, .inr (6, [.ref (md 0), .int (nI (T 5 0)), .int (nI (T 5 1)), .int (nI k), .int (nI tm), .int (nI dy), .ref (md 6), .ref (md 7), .ref (md 8), .ref (md 9), .ref (md 10), .int (nI hpi), .int (nI (P 5 0)), .int (nI (P 5 1)), .int (nI pk), .int (nI ptm), .int (nI pdy), .ref (md 17), .ref (md 18), .ref (md 19), .ref (md 20), .ref (md 21), .ref (md 22), .int (nI sl), .int (nI (u0.1 24)), .int (nI (u0.1 25)), .ref (md 26), .ref (md 27), .ref (md 28), .int (nI (u0.1 29)), .ref (md 30), .ref (md 31), .int (nI (u0.1 32)), .int (nI (u0.1 33)), .int (nI (u0.1 34)), .int (oI u0.2.2), .int (nI (u0.1 36)), .int (nI (u0.1 37)), .int (nI (u0.1 38)), .int (nI (u0.1 39)), .ref (md 40), .int (nI (u0.1 41)), .int (nI (u0.1 42)), .int (nI (u0.1 43)), .ref (md 44), .int (nI (u0.1 45)), .int (nI (u0.1 46)), .ref (md 47), .int (nI (u0.1 48)), .int (nI (u0.1 49)), .ref (md 50), .int (nI tl)])), (md 0, .inl (cI, 7, .inl (fun i_ => nI (R i_)))), (md 6, .inl (cI, 8, .inl (fun i_ => nI (T 0 i_)))), (md 7, .inl (cI, 8, .inl (fun i_ => nI (T 1 i_)))), (md 8, .inl (cI, 8, .inl (fun i_ => nI (T 2 i_)))), (md 9, .inl (cI, 8, .inl (fun i_ => nI (T 3 i_)))), (md 10, .inl (cI, 64, .inl (fun i_ => nI (T 4 i_)))), (md 17, .inl (cI, 8, .inl (fun i_ => nI (P 0 i_)))), (md 18, .inl (cI, 8, .inl (fun i_ => nI (P 1 i_)))), (md 19, .inl (cI, 8, .inl (fun i_ => nI (P 2 i_)))), (md 20, .inl (cI, 8, .inl (fun i_ => nI (P 3 i_)))), (md 21, .inl (cI, 64, .inl (fun i_ => nI (P 4 i_)))), (md 22, .inl (cI, 64, .inl (fun i_ => nI (sg i_)))), (md 26, .inl (cC, 4, .inl (fun i_ => nI (sortsN i_)))), (md 27, .inl (cC, 5, .inl (fun i_ => nI (askersN i_)))), (md 28, .inl (cC, 5, .inl (fun i_ => nI (sayersN i_)))), (md 30, .inl (cI, 4, .inl (fun i_ => nI ((u0.2.1 30) i_)))), (md 31, .inl (cI, 8, .inl (fun i_ => nI ((u0.2.1 31) i_)))), (md 40, .inl (cI, 8, .inl (fun i_ => nI ((u0.2.1 40) i_)))), (md 44, .inl (cI, 8, .inl (fun i_ => nI ((u0.2.1 44) i_)))), (md 47, .inl (cI, 8, .inl (fun i_ => nI ((u0.2.1 47) i_)))), (md 50, .inl (cI, 8, .inl (fun i_ => nI (tg i_))))]) (rest := []) h0 (c_X6_size (xL κ) D cI cC (mayS T q (S ||| (2 ^ q)) been mu) (by exact Nat.lt_trans (mayS_lt hT _ _ _ _) (by decide))) gX6_next_X6_size (by decide +kernel) rfl rfl rfl ⟨Nat.le_of_ble_eq_true rfl, Nat.le_of_ble_eq_true rfl⟩ ⟨by decide, by decide⟩ (fun _ _ _ _ h => h) (fun _ _ _ _ _ _ _ => trivial) rfl (Nat.le_of_ble_eq_true rfl) rfl [] [0, 1, 2, 3, 4, 5, 6, 7, 8, 9, 10, 11, 12, 13, 14, 15, 16, 17, 18, 19, 20, 21] [0, 1, 2, 3, 4, 5, 6, 7, 8, 9, 10, 11, 12, 13, 14, 15, 16, 17, 18, 19, 20, 21] ⟨rfl, rfl, rfl, rfl, rfl⟩ (fun _ => ⟨rfl, rfl⟩) dX6_next_135 (fun r_17 u_ hr_16 => ?_)
            subst hr_16
            refine xistore (lv' := [(11, .int (nI (cdS (mayS T q (S ||| (2 ^ q)) been mu)))), (12, .int (nI 0)), (10, .int (nI (T 4 ((8 * h) + q)))), (0, .ref (md 1)), (1, .int (nI h)), (2, .int (nI S)), (3, .int (nI been)), (4, .int mx), (5, .int (nI (mayS T h S been mu))), (6, .int (oI b)), (7, .int f1), (8, .int f2), (9, .int (nI q))]) h0 dX6_next_138 (by decide) rfl ?_
            refine xiload h0 2 dX6_next_140 rfl ?_
            refine xistore (lv' := [(12, .int (nI (T 4 ((8 * h) + q)))), (11, .int (nI (cdS (mayS T q (S ||| (2 ^ q)) been mu)))), (10, .int (nI (T 4 ((8 * h) + q)))), (0, .ref (md 1)), (1, .int (nI h)), (2, .int (nI S)), (3, .int (nI been)), (4, .int mx), (5, .int (nI (mayS T h S been mu))), (6, .int (oI b)), (7, .int f1), (8, .int f2), (9, .int (nI q))]) h0 dX6_next_142 (by decide) rfl ?_
            refine xgoto (tgt := 175) h0 dX6_next_144 (by decide) ?_
            refine xlv [3, 4, 5, 6, 7, 8, 9, 10, 11, 12, 1, 0] rfl ?_
            exact jk (nI (cdS (mayS T q (S ||| (2 ^ q)) been mu))) (nI (T 4 ((8 * h) + q))) (by (unfold kA; (repeat' split) <;> first | (exfalso; omega) | rfl)) (by (unfold kB; (repeat' split) <;> first | (exfalso; omega) | rfl))
          rcases (Decidable.em (T 0 h = 3)) with k_18 | k_18
          · skip
            refine xtabN (j := 3) (off := 79) (tgt := 147) h0 dX6_next_68 k_18 (by decide) (by decide) rfl (by decide) ?_
            refine xaload_n h0 3 dX6_next_147 rfl rfl ?_
            refine xiload h0 12 dX6_next_148 rfl ?_
            refine xiload_n h0 5 dX6_next_150 rfl rfl ?_
            refine xiconst (v := (nI 1)) h0 dX6_next_151 (by decide) ?_
            refine xiload h0 12 dX6_next_152 rfl ?_
            refine xishl (v := (nI (2 ^ q))) h0 dX6_next_154 (nI_shl1 q (by omega)) ?_
            refine xior (v := (nI (S ||| (2 ^ q)))) h0 dX6_next_155 (nx_or _ _) ?_
            refine xiload_n h0 6 dX6_next_156 rfl rfl ?_
            refine xiload h0 7 dX6_next_157 rfl ?_
            refine xcallV_i (nn := 4) (w2 := fun u_ => (wM cI cC md T k tm dy P pk ptm pdy hpi tg tl R sg sl u0)) (wr := []) (rest := []) h0 (c_X6_mayTo (xL κ) D cI cC md T k tm dy P pk ptm pdy hpi tg tl R sg sl u0 q (S ||| (2 ^ q)) been mu mx hT (by exact hqn) (by exact hS2) (by exact hc2) (by omega) hmx) gX6_next_X6_mayTo (by decide +kernel) rfl rfl rfl ⟨Nat.le_of_ble_eq_true rfl, Nat.le_of_ble_eq_true rfl⟩ ⟨by decide, by decide⟩ (fun _ _ _ _ h => h) (fun _ _ _ _ _ _ _ => trivial) rfl (Nat.le_of_ble_eq_true rfl) (q0 := 0) rfl rfl rfl [0, 1, 2, 3, 4, 5, 6, 7, 8, 9, 10, 11, 12, 13, 14, 15, 16, 17, 18, 19, 20, 21] [] [0, 1, 2, 3, 4, 5, 6, 7, 8, 9, 10, 11, 12, 13, 14, 15, 16, 17, 18, 19, 20, 21] ⟨rfl, rfl, rfl, rfl, rfl⟩ (fun _ => ⟨rfl, rfl⟩) dX6_next_159 (fun r_20 u_ hr_19 => ?_)
            subst hr_19
            refine xcallS_i (nn := 1) (w2 := fun u_ => (wM cI cC md T k tm dy P pk ptm pdy hpi tg tl R sg sl u0)) (wr := [(md 1, .inr (6, [.ref (md 0), .int (nI (T 5 0)), .int (nI (T 5 1)), .int (nI k), .int (nI tm), .int (nI dy), .ref (md 6), .ref (md 7), .ref (md 8), .ref (md 9), .ref (md 10), .int (nI hpi), .int (nI (P 5 0)), .int (nI (P 5 1)), .int (nI pk), .int (nI ptm), .int (nI pdy), .ref (md 17), .ref (md 18), .ref (md 19), .ref (md 20), .ref (md 21), .ref (md 22), .int (nI sl), .int (nI (u0.1 24)), .int (nI (u0.1 25)), .ref (md 26), .ref (md 27), .ref (md 28), .int (nI (u0.1 29)), .ref (md 30), .ref (md 31), .int (nI (u0.1 32)), .int (nI (u0.1 33)), .int (nI (u0.1 34)), .int (oI u0.2.2), .int (nI (u0.1 36)), .int (nI (u0.1 37)), .int (nI (u0.1 38)), .int (nI (u0.1 39)), .ref (md 40), .int (nI (u0.1 41)), .int (nI (u0.1 42)), .int (nI (u0.1 43)), .ref (md 44), .int (nI (u0.1 45)), .int (nI (u0.1 46)), .ref (md 47), .int (nI (u0.1 48)), .int (nI (u0.1 49)), .ref (md 50), .int (nI tl)])), (md 0, .inl (cI, 7, .inl (fun i_ => nI (R i_)))), (md 6, .inl (cI, 8, .inl (fun i_ => nI (T 0 i_)))), (md 7, .inl (cI, 8, .inl (fun i_ => nI (T 1 i_)))), (md 8, .inl (cI, 8, .inl (fun i_ => nI (T 2 i_)))), (md 9, .inl (cI, 8, .inl (fun i_ => nI (T 3 i_)))), (md 10, .inl (cI, 64, .inl (fun i_ => nI (T 4 i_)))), (md 17, .inl (cI, 8, .inl (fun i_ => nI (P 0 i_)))), (md 18, .inl (cI, 8, .inl (fun i_ => nI (P 1 i_)))), (md 19, .inl (cI, 8, .inl (fun i_ => nI (P 2 i_)))), (md 20, .inl (cI, 8, .inl (fun i_ => nI (P 3 i_)))), (md 21, .inl (cI, 64, .inl (fun i_ => nI (P 4 i_)))), (md 22, .inl (cI, 64, .inl (fun i_ => nI (sg i_)))), (md 26, .inl (cC, 4, .inl (fun i_ => nI (sortsN i_)))), (md 27, .inl (cC, 5, .inl (fun i_ => nI (askersN i_)))), (md 28, .inl (cC, 5, .inl (fun i_ => nI (sayersN i_)))), (md 30, .inl (cI, 4, .inl (fun i_ => nI ((u0.2.1 30) i_)))), (md 31, .inl (cI, 8, .inl (fun i_ => nI ((u0.2.1 31) i_)))), (md 40, .inl (cI, 8, .inl (fun i_ => nI ((u0.2.1 40) i_)))), (md 44, .inl (cI, 8, .inl (fun i_ => nI ((u0.2.1 44) i_)))), (md 47, .inl (cI, 8, .inl (fun i_ => nI ((u0.2.1 47) i_)))), (md 50, .inl (cI, 8, .inl (fun i_ => nI (tg i_))))]) (rest := []) h0 (c_X6_size (xL κ) D cI cC (mayS T q (S ||| (2 ^ q)) been mu) (by exact Nat.lt_trans (mayS_lt hT _ _ _ _) (by decide))) gX6_next_X6_size (by decide +kernel) rfl rfl rfl ⟨Nat.le_of_ble_eq_true rfl, Nat.le_of_ble_eq_true rfl⟩ ⟨by decide, by decide⟩ (fun _ _ _ _ h => h) (fun _ _ _ _ _ _ _ => trivial) rfl (Nat.le_of_ble_eq_true rfl) rfl [] [0, 1, 2, 3, 4, 5, 6, 7, 8, 9, 10, 11, 12, 13, 14, 15, 16, 17, 18, 19, 20, 21] [0, 1, 2, 3, 4, 5, 6, 7, 8, 9, 10, 11, 12, 13, 14, 15, 16, 17, 18, 19, 20, 21] ⟨rfl, rfl, rfl, rfl, rfl⟩ (fun _ => ⟨rfl, rfl⟩) dX6_next_162 (fun r_22 u_ hr_21 => ?_)
            subst hr_21
            refine xineg (v := (-(nI (cdS (mayS T q (S ||| (2 ^ q)) been mu))))) h0 dX6_next_165 (rfl) ?_
            refine xistore (lv' := [(11, .int (-(nI (cdS (mayS T q (S ||| (2 ^ q)) been mu))))), (12, .int (nI 0)), (10, .int (nI (T 4 ((8 * h) + q)))), (0, .ref (md 1)), (1, .int (nI h)), (2, .int (nI S)), (3, .int (nI been)), (4, .int mx), (5, .int (nI (mayS T h S been mu))), (6, .int (oI b)), (7, .int f1), (8, .int f2), (9, .int (nI q))]) h0 dX6_next_166 (by decide) rfl ?_
            refine xiload h0 2 dX6_next_168 rfl ?_
            refine xistore (lv' := [(12, .int (nI (T 4 ((8 * h) + q)))), (11, .int (-(nI (cdS (mayS T q (S ||| (2 ^ q)) been mu))))), (10, .int (nI (T 4 ((8 * h) + q)))), (0, .ref (md 1)), (1, .int (nI h)), (2, .int (nI S)), (3, .int (nI been)), (4, .int mx), (5, .int (nI (mayS T h S been mu))), (6, .int (oI b)), (7, .int f1), (8, .int f2), (9, .int (nI q))]) h0 dX6_next_170 (by decide) rfl ?_
            refine xgoto (tgt := 175) h0 dX6_next_172 (by decide) ?_
            refine xlv [3, 4, 5, 6, 7, 8, 9, 10, 11, 12, 1, 0] rfl ?_
            exact jk (-(nI (cdS (mayS T q (S ||| (2 ^ q)) been mu)))) (nI (T 4 ((8 * h) + q))) (by (unfold kA; (repeat' split) <;> first | (exfalso; omega) | rfl)) (by (unfold kB; (repeat' split) <;> first | (exfalso; omega) | rfl))
          · skip
            refine xtabNo (tgt := 175) h0 dX6_next_68 (by omega) (by omega) (by decide) ?_
            refine xlv [3, 4, 5, 6, 7, 8, 9, 10, 11, 12, 1, 0] rfl ?_
            exact jk (nI 0) (nI 0) (by (unfold kA; (repeat' split) <;> first | (exfalso; omega) | rfl)) (by (unfold kB; (repeat' split) <;> first | (exfalso; omega) | rfl))
  refine xlv [5, 6, 7, 8, 9, 4, 3, 2, 1, 0] rfl ?_
  exact lp (9) 0 none (nI 0) (nI 0) (by omega) (by omega) (by rfl) (by intro c e; cases e)
set_option maxHeartbeats 4000000 in
set_option maxRecDepth 100000 in
theorem c_X6_says (l : Launch) (D : va_G) (cI cC : ClassId) (md : Nat → Nat) (T : TT) (k tm dy : Nat) (P : TT) (pk ptm pdy hpi : Nat) (tg : Nat → Nat) (tl : Nat) (R : Nat → Nat) (sg : Nat → Nat) (sl : Nat) (u0 : ScmT) (p he hv : Nat) (o : Option Nat) (hT : TOK T) (hp : p < 8) (ho : (he = 0 ∧ o = none) ∨ (he = 1 ∧ o = some hv)) (hv1 : hv ≤ 100) : XMi l yX6_says wsX6_says ({ frames := 0, cells := 0, slots := 0, locals := 0 } : Room) D (xT cI cC) xE0 (wM cI cC md T k tm dy P pk ptm pdy hpi tg tl R sg sl u0) [.ref (md 1), .int (nI p), .int (nI he), .int (nI hv)] (S := Unit) (fun r _ => r = nI (sdS T p o)) (fun _ => (wM cI cC md T k tm dy P pk ptm pdy hpi tg tl R sg sl u0)) 0 0 := by
  refine xMet_i (cc := cX6_says) (nL := 5) (ret := some .int) (by decide +kernel) rfl (Nat.le_of_ble_eq_true rfl) (fun κ A h0 hn0 hE => ?_)
  have hiX6 : ∀ w ∈ u_ws RX6 TX6 52, w ∈ wsX6_says := by decide +kernel
  refine xlv (lv' := [(0, .ref (md 1)), (1, .int (nI p)), (2, .int (nI he)), (3, .int (nI hv))]) [0, 1, 2, 3] rfl ?_
  have hs := hT.2.2.2.1 p
  have hkn := hT.2.2.2.2.1 p
  refine xaload_n h0 0 dX6_says_0 rfl rfl ?_
  refine xget (C := RX6) (T := TX6) (N := 52) (ci := 6) (v := .ref (md 8)) h0 hiX6 0 rfl rfl 8 (by decide) (List.mem_of_getElem? (i := 1) rfl) rfl dX6_says_1 ?_
  refine xiload_n h0 1 dX6_says_4 rfl rfl ?_
  refine xiald (v := (nI (T 2 p))) h0 4 0 rfl rfl (by omega) (by decide) dX6_says_5 (rfl) ?_
  refine xistore (lv' := [(4, .int (nI (T 2 p))), (0, .ref (md 1)), (1, .int (nI p)), (2, .int (nI he)), (3, .int (nI hv))]) h0 dX6_says_6 (by decide) rfl ?_
  refine xaload_n h0 1 dX6_says_8 rfl rfl ?_
  refine xget (C := RX6) (T := TX6) (N := 52) (ci := 6) (v := .ref (md 7)) h0 hiX6 0 rfl rfl 7 (by decide) (List.mem_of_getElem? (i := 2) rfl) rfl dX6_says_9 ?_
  refine xiload_n h0 2 dX6_says_12 rfl rfl ?_
  refine xiald (v := (nI (T 1 p))) h0 3 0 rfl rfl (by omega) (by decide) dX6_says_13 (rfl) ?_
  rcases (Decidable.em (T 1 p = 0)) with k_1 | k_1
  · skip
    refine xtabN (j := 0) (off := 30) (tgt := 44) h0 dX6_says_14 k_1 (by decide) (by decide) rfl (by decide) ?_
    refine xiload_n h0 3 dX6_says_44 rfl rfl ?_
    refine xnif_eq (tgt := 58) h0 dX6_says_45 (by decide) (by omega) (fun c_2 => ?_) (fun c_2 => ?_)
    · skip
      refine xiload h0 0 dX6_says_58 rfl ?_
      exact xiret h0 dX6_says_60 () (by rcases ho with ⟨h1, h2⟩ | ⟨h1, h2⟩ <;> first | (exfalso; omega) | (rw [h2, sdS_n]; (repeat' split) <;> first | rfl | (exfalso; omega)) | (rw [h2, sdS_h]; (repeat' split) <;> first | rfl | (exfalso; omega) | exact congrArg nI (mx_l (by omega)) | exact congrArg nI (mx_r (by omega)))) rfl
    · skip
      refine xiload_n h0 4 dX6_says_48 rfl rfl ?_
      refine xiload h0 0 dX6_says_49 rfl ?_
      refine xncmp_le (tgt := 58) h0 dX6_says_51 (by decide) (by omega) (by omega) (fun c_3 => ?_) (fun c_3 => ?_)
      · skip
        refine xiload h0 0 dX6_says_58 rfl ?_
        exact xiret h0 dX6_says_60 () (by rcases ho with ⟨h1, h2⟩ | ⟨h1, h2⟩ <;> first | (exfalso; omega) | (rw [h2, sdS_n]; (repeat' split) <;> first | rfl | (exfalso; omega)) | (rw [h2, sdS_h]; (repeat' split) <;> first | rfl | (exfalso; omega) | exact congrArg nI (mx_l (by omega)) | exact congrArg nI (mx_r (by omega)))) rfl
      · skip
        refine xiload_n h0 4 dX6_says_54 rfl rfl ?_
        refine xgoto (tgt := 60) h0 dX6_says_55 (by decide) ?_
        exact xiret h0 dX6_says_60 () (by rcases ho with ⟨h1, h2⟩ | ⟨h1, h2⟩ <;> first | (exfalso; omega) | (rw [h2, sdS_n]; (repeat' split) <;> first | rfl | (exfalso; omega)) | (rw [h2, sdS_h]; (repeat' split) <;> first | rfl | (exfalso; omega) | exact congrArg nI (mx_l (by omega)) | exact congrArg nI (mx_r (by omega)))) rfl
  rcases (Decidable.em (T 1 p = 1)) with k_4 | k_4
  · skip
    refine xtabN (j := 1) (off := 47) (tgt := 61) h0 dX6_says_14 k_4 (by decide) (by decide) rfl (by decide) ?_
    refine xiload h0 0 dX6_says_61 rfl ?_
    exact xiret h0 dX6_says_63 () (by rcases ho with ⟨h1, h2⟩ | ⟨h1, h2⟩ <;> first | (exfalso; omega) | (rw [h2, sdS_n]; (repeat' split) <;> first | rfl | (exfalso; omega)) | (rw [h2, sdS_h]; (repeat' split) <;> first | rfl | (exfalso; omega) | exact congrArg nI (mx_l (by omega)) | exact congrArg nI (mx_r (by omega)))) rfl
  rcases (Decidable.em (T 1 p = 2)) with k_5 | k_5
  · skip
    refine xtabN (j := 2) (off := 50) (tgt := 64) h0 dX6_says_14 k_5 (by decide) (by decide) rfl (by decide) ?_
    refine xiload_n h0 3 dX6_says_64 rfl rfl ?_
    refine xnif_eq (tgt := 72) h0 dX6_says_65 (by decide) (by omega) (fun c_6 => ?_) (fun c_6 => ?_)
    · skip
      refine xiload h0 0 dX6_says_72 rfl ?_
      exact xiret h0 dX6_says_74 () (by rcases ho with ⟨h1, h2⟩ | ⟨h1, h2⟩ <;> first | (exfalso; omega) | (rw [h2, sdS_n]; (repeat' split) <;> first | rfl | (exfalso; omega)) | (rw [h2, sdS_h]; (repeat' split) <;> first | rfl | (exfalso; omega) | exact congrArg nI (mx_l (by omega)) | exact congrArg nI (mx_r (by omega)))) rfl
    · skip
      refine xiload_n h0 4 dX6_says_68 rfl rfl ?_
      refine xgoto (tgt := 74) h0 dX6_says_69 (by decide) ?_
      exact xiret h0 dX6_says_74 () (by rcases ho with ⟨h1, h2⟩ | ⟨h1, h2⟩ <;> first | (exfalso; omega) | (rw [h2, sdS_n]; (repeat' split) <;> first | rfl | (exfalso; omega)) | (rw [h2, sdS_h]; (repeat' split) <;> first | rfl | (exfalso; omega) | exact congrArg nI (mx_l (by omega)) | exact congrArg nI (mx_r (by omega)))) rfl
  rcases (Decidable.em (T 1 p = 3)) with k_7 | k_7
  · skip
    refine xtabN (j := 3) (off := 61) (tgt := 75) h0 dX6_says_14 k_7 (by decide) (by decide) rfl (by decide) ?_
    refine xbipush (v := (nI 100)) h0 dX6_says_75 (by decide) ?_
    refine xiload_n h0 3 dX6_says_77 rfl rfl ?_
    refine xnif_eq (tgt := 85) h0 dX6_says_78 (by decide) (by omega) (fun c_8 => ?_) (fun c_8 => ?_)
    · skip
      refine xiload h0 0 dX6_says_85 rfl ?_
      refine xisub (v := (nI (100 - (T 2 p)))) h0 dX6_says_87 (pk_sub (by omega)) ?_
      exact xiret h0 dX6_says_88 () (by rcases ho with ⟨h1, h2⟩ | ⟨h1, h2⟩ <;> first | (exfalso; omega) | (rw [h2, sdS_n]; (repeat' split) <;> first | rfl | (exfalso; omega)) | (rw [h2, sdS_h]; (repeat' split) <;> first | rfl | (exfalso; omega) | exact congrArg nI (mx_l (by omega)) | exact congrArg nI (mx_r (by omega)))) rfl
    · skip
      refine xiload_n h0 4 dX6_says_81 rfl rfl ?_
      refine xgoto (tgt := 87) h0 dX6_says_82 (by decide) ?_
      refine xisub (v := (nI (100 - hv))) h0 dX6_says_87 (pk_sub (by omega)) ?_
      exact xiret h0 dX6_says_88 () (by rcases ho with ⟨h1, h2⟩ | ⟨h1, h2⟩ <;> first | (exfalso; omega) | (rw [h2, sdS_n]; (repeat' split) <;> first | rfl | (exfalso; omega)) | (rw [h2, sdS_h]; (repeat' split) <;> first | rfl | (exfalso; omega) | exact congrArg nI (mx_l (by omega)) | exact congrArg nI (mx_r (by omega)))) rfl
  · skip
    refine xtabNo (tgt := 89) h0 dX6_says_14 (by omega) (by omega) (by decide) ?_
    refine xiload_n h0 3 dX6_says_89 rfl rfl ?_
    refine xnif_eq (tgt := 102) h0 dX6_says_90 (by decide) (by omega) (fun c_9 => ?_) (fun c_9 => ?_)
    · skip
      refine xiload h0 0 dX6_says_102 rfl ?_
      exact xiret h0 dX6_says_104 () (by rcases ho with ⟨h1, h2⟩ | ⟨h1, h2⟩ <;> first | (exfalso; omega) | (rw [h2, sdS_n]; (repeat' split) <;> first | rfl | (exfalso; omega)) | (rw [h2, sdS_h]; (repeat' split) <;> first | rfl | (exfalso; omega) | exact congrArg nI (mx_l (by omega)) | exact congrArg nI (mx_r (by omega)))) rfl
    · skip
      refine xiload h0 0 dX6_says_93 rfl ?_
      refine xiload_n h0 4 dX6_says_95 rfl rfl ?_
      refine xiadd (v := (nI ((T 2 p) + hv))) h0 dX6_says_96 (nI_add _ _) ?_
      refine xiconst (v := (nI 2)) h0 dX6_says_97 (by decide) ?_
      refine xidiv (v := (nI ((T 2 p + hv) / 2))) h0 dX6_says_98 (by decide) (pk_div (by omega) (by decide) (by decide)) ?_
      refine xgoto (tgt := 104) h0 dX6_says_99 (by decide) ?_
      exact xiret h0 dX6_says_104 () (by rcases ho with ⟨h1, h2⟩ | ⟨h1, h2⟩ <;> first | (exfalso; omega) | (rw [h2, sdS_n]; (repeat' split) <;> first | rfl | (exfalso; omega)) | (rw [h2, sdS_h]; (repeat' split) <;> first | rfl | (exfalso; omega) | exact congrArg nI (mx_l (by omega)) | exact congrArg nI (mx_r (by omega)))) rfl
set_option maxHeartbeats 4000000 in
set_option maxRecDepth 100000 in
theorem c_X6_go (l : Launch) (D : va_G) (cI cC : ClassId) (md : Nat → Nat) (T : TT) (k tm dy : Nat) (P : TT) (pk ptm pdy hpi : Nat) (tg : Nat → Nat) (tl : Nat) (R : Nat → Nat) (sg : Nat → Nat) (sl : Nat) (u0 : ScmT) (p been mu : Nat) (mx : Int32) (hT : TOK T) (hp : p < T 5 0) (hb : been < 256) (hmx : mxI mx mu) : XMv l yX6_go wsX6_go ({ frames := 4, cells := 0, slots := 0, locals := 105 } : Room) D (xT cI cC) xE0 (wM cI cC md T k tm dy P pk ptm pdy hpi tg tl R sg sl u0) [.ref (md 1), .int (nI p), .int (nI been), .int mx] (S := Nat → Nat) (fun G2 => okW (wkS T p been mu) G2) (fun G2 => wM cI cC md T k tm dy P pk ptm pdy hpi tg tl R sg sl (upN u0.1 32 ((wkS T p been mu).length), upA u0.2.1 31 G2, u0.2.2)) 0 0 := by
  refine xMet_v (cc := cX6_go) (nL := 6)  (by decide +kernel) rfl (Nat.le_of_ble_eq_true rfl) (fun κ A h0 hn0 hE => ?_)
  have hiX6 : ∀ w ∈ u_ws RX6 TX6 52, w ∈ wsX6_go := by decide +kernel
  refine xlv (lv' := [(0, .ref (md 1)), (1, .int (nI p)), (2, .int (nI been)), (3, .int mx)]) [0, 1, 2, 3] rfl ?_
  have hn := hT.1
  refine xaload_n h0 0 dX6_go_0 rfl rfl ?_
  refine xiconst (v := (nI 0)) h0 dX6_go_1 (by decide) ?_
  refine xput (ws' := (wM cI cC md T k tm dy P pk ptm pdy hpi tg tl R sg sl (upN u0.1 32 0, u0.2.1, u0.2.2))) (C := RX6) (T := TX6) (N := 52) (ci := 6) (ty := tyX6 32) h0 hiX6 tyX6 tyX6_ok nmX6 0 rfl rfl 32 (by decide) (List.mem_of_getElem? (i := 1) rfl) rfl (by decide +kernel) (rfl) (rfl) (Nat.le_of_ble_eq_true rfl) dX6_go_2 rfl ?_
  refine xiconst (v := (nI 0)) h0 dX6_go_5 (by decide) ?_
  refine xistore (lv' := [(4, .int (nI 0)), (0, .ref (md 1)), (1, .int (nI p)), (2, .int (nI been)), (3, .int mx)]) h0 dX6_go_6 (by decide) rfl ?_
  refine xiload_n h0 2 dX6_go_8 rfl rfl ?_
  refine xistore (lv' := [(5, .int (nI p)), (4, .int (nI 0)), (0, .ref (md 1)), (1, .int (nI p)), (2, .int (nI been)), (3, .int mx)]) h0 dX6_go_9 (by decide) rfl ?_
  have lp : ∀ (d_ : Nat) (o : Option Nat) (w : List Nat) (G : Nat → Nat), (9 - w.length ≤ d_) → (okP T w) → (∀ z, o = some z → z < T 5 0 ∧ z ∉ w) → (goO T been mu (8 - w.length) w o = wkS T p been mu) → (okW w G) → XG κ 6 D (xT cI cC) A (xQv (S := Nat → Nat) κ D (xT cI cC) A (fun G2 => okW (wkS T p been mu) G2) (fun G2 => wM cI cC md T k tm dy P pk ptm pdy hpi tg tl R sg sl (upN u0.1 32 ((wkS T p been mu).length), upA u0.2.1 31 G2, u0.2.2)) 0 0) (wM cI cC md T k tm dy P pk ptm pdy hpi tg tl R sg sl (upN u0.1 32 ((w).length), upA u0.2.1 31 G, u0.2.2)) 0 0 11 [(0, .ref (md 1)), (1, .int (nI p)), (2, .int (nI been)), (3, .int mx), (4, .int (nI (mskL w))), (5, .int (oI o))] [] := by
    intro d_
    induction d_ with
    | zero => intro o w G hm_ hw ho hr hG; exact absurd hm_ (by have := len_le8 (okP_8 hT hw) hw.2; omega)
    | succ d_ ih_lp =>
      intro o w G hm_ hw ho hr hG
      refine xiload h0 5 dX6_go_11 rfl ?_
      refine xif_lt (tgt := 61) h0 dX6_go_13 (by decide)  (fun c_1 => ?_) (fun c_1 => ?_)
      · skip
        have hon : o = none := oI_lt (fun z e => by have := (ho z e).1; omega) c_1
        have ew : w = wkS T p been mu := by rw [← hr, hon]; rfl
        subst ew
        exact xvret h0 dX6_go_61 G (by exact hG) rfl
      · skip
        obtain ⟨q, hoq⟩ := oI_ge c_1
        subst hoq
        obtain ⟨hq, hqw⟩ := ho q rfl
        have hw2 := okP_snoc hw hq hqw
        have h8w := okP_8 hT hw2
        have hl8 := len_le8 h8w hw2.2
        rw [List.length_append, List.length_singleton] at hl8
        refine xaload_n h0 0 dX6_go_16 rfl rfl ?_
        refine xget (C := RX6) (T := TX6) (N := 52) (ci := 6) (v := .ref (md 31)) h0 hiX6 0 rfl rfl 31 (by decide) (List.mem_of_getElem? (i := 2) rfl) rfl dX6_go_17 ?_
        refine xaload_n h0 0 dX6_go_20 rfl rfl ?_
        refine xget (C := RX6) (T := TX6) (N := 52) (ci := 6) (v := .int (nI ((w).length))) h0 hiX6 0 rfl rfl 32 (by decide) (List.mem_of_getElem? (i := 1) rfl) rfl dX6_go_21 ?_
        refine xiload h0 5 dX6_go_24 rfl ?_
        refine xiastN (ws' := (wM cI cC md T k tm dy P pk ptm pdy hpi tg tl R sg sl (upN u0.1 32 ((w).length), upA u0.2.1 31 (upN G ((w).length) q), u0.2.2))) h0 17 0 rfl rfl (by omega) (by decide) dX6_go_26 rfl ?_
        refine xaload_n h0 0 dX6_go_27 rfl rfl ?_
        refine xdup h0 dX6_go_28 rfl ?_
        refine xget (C := RX6) (T := TX6) (N := 52) (ci := 6) (v := .int (nI ((w).length))) h0 hiX6 0 rfl rfl 32 (by decide) (List.mem_of_getElem? (i := 1) rfl) rfl dX6_go_29 ?_
        refine xiconst (v := (nI 1)) h0 dX6_go_32 (by decide) ?_
        refine xiadd (v := (nI (((w).length) + 1))) h0 dX6_go_33 (nI_add _ _) ?_
        refine xput (ws' := (wM cI cC md T k tm dy P pk ptm pdy hpi tg tl R sg sl (upN u0.1 32 (((w).length) + 1), upA u0.2.1 31 (upN G ((w).length) q), u0.2.2))) (C := RX6) (T := TX6) (N := 52) (ci := 6) (ty := tyX6 32) h0 hiX6 tyX6 tyX6_ok nmX6 0 rfl rfl 32 (by decide) (List.mem_of_getElem? (i := 1) rfl) rfl (by decide +kernel) (rfl) (rfl) (Nat.le_of_ble_eq_true rfl) dX6_go_34 rfl ?_
        refine xiload h0 4 dX6_go_37 rfl ?_
        refine xiconst (v := (nI 1)) h0 dX6_go_39 (by decide) ?_
        refine xiload h0 5 dX6_go_40 rfl ?_
        refine xishl (v := (nI (2 ^ q))) h0 dX6_go_42 (nI_shl1 q (by omega)) ?_
        refine xior (v := (nI ((mskL w) ||| (2 ^ q)))) h0 dX6_go_43 (nx_or _ _) ?_
        refine xistore (lv' := [(4, .int (nI ((mskL w) ||| (2 ^ q)))), (0, .ref (md 1)), (1, .int (nI p)), (2, .int (nI been)), (3, .int mx), (5, .int (nI q))]) h0 dX6_go_44 (by decide) rfl ?_
        have hG2 := okW_snoc hG q
        have hlen2 : (w ++ [q]).length = w.length + 1 := by simp
        rw [← mskL_snoc, ← hlen2]
        refine xaload_n h0 1 dX6_go_46 rfl rfl ?_
        refine xiload h0 5 dX6_go_47 rfl ?_
        refine xiload h0 0 dX6_go_49 rfl ?_
        refine xiload_n h0 3 dX6_go_51 rfl rfl ?_
        refine xiload_n h0 4 dX6_go_52 rfl rfl ?_
        refine xcallV_i (nn := 4) (w2 := fun u_ => (wM cI cC md T k tm dy P pk ptm pdy hpi tg tl R sg sl (upN u0.1 32 ((w ++ [q]).length), upA u0.2.1 31 (upN G w.length q), u0.2.2))) (wr := []) (rest := []) h0 (c_X6_next (xL κ) D cI cC md T k tm dy P pk ptm pdy hpi tg tl R sg sl (upN u0.1 32 ((w ++ [q]).length), upA u0.2.1 31 (upN G w.length q), u0.2.2) q (mskL (w ++ [q])) been mu mx hT (by exact hq) (by exact mskL_lt _ h8w) (by exact cd_msk h8w) (by exact hb) hmx) gX6_go_X6_next (by decide +kernel) rfl rfl rfl ⟨Nat.le_of_ble_eq_true rfl, Nat.le_of_ble_eq_true rfl⟩ ⟨by decide, by decide⟩ (fun _ _ _ _ h => h) (fun _ _ _ _ _ _ _ => trivial) rfl (Nat.le_of_ble_eq_true rfl) (q0 := 0) rfl rfl rfl [0, 1, 2, 3, 4, 5, 6, 7, 8, 9, 10, 11, 12, 13, 14, 15, 16, 17, 18, 19, 20, 21] [] [0, 1, 2, 3, 4, 5, 6, 7, 8, 9, 10, 11, 12, 13, 14, 15, 16, 17, 18, 19, 20, 21] ⟨rfl, rfl, rfl, rfl, rfl⟩ (fun _ => ⟨rfl, rfl⟩) dX6_go_53 (fun r_3 u_ hr_2 => ?_)
        subst hr_2
        refine xistore (lv' := [(5, .int (oI (nextS T q (mskL (w ++ [q])) been mu))), (4, .int (nI (mskL (w ++ [q])))), (0, .ref (md 1)), (1, .int (nI p)), (2, .int (nI been)), (3, .int mx)]) h0 dX6_go_56 (by decide) rfl ?_
        refine xgoto (tgt := 11) h0 dX6_go_58 (by decide) ?_
        refine xlv [2, 3, 4, 5, 1, 0] rfl ?_
        exact ih_lp (nextS T q (mskL (w ++ [q])) been mu) (w ++ [q]) (upN G w.length q) (by rw [List.length_append, List.length_singleton]; omega) (by exact hw2) (by intro z e; exact next_out e) (by rw [← hr, List.length_append, List.length_singleton, show 8 - w.length = (8 - (w.length + 1)) + 1 by omega]; exact (goS_s T been mu _ w q).symm) (by exact hG2)
  refine xlv [2, 3, 4, 5, 1, 0] rfl ?_
  exact lp (9) (some p) ([]) (u0.2.1 31) (by omega) (by exact okP_nil T) (by intro z e; cases e; exact ⟨hp, by simp⟩) (by rfl) (by intro i hi; exact absurd hi (Nat.not_lt_zero i))
set_option maxHeartbeats 4000000 in
set_option maxRecDepth 100000 in
theorem c_X6_time (l : Launch) (D : va_G) (cI cC : ClassId) (md : Nat → Nat) (T : TT) (k tm dy : Nat) (P : TT) (pk ptm pdy hpi : Nat) (tg : Nat → Nat) (tl : Nat) (R : Nat → Nat) (sg : Nat → Nat) (sl : Nat) (u0 : ScmT) (w : List Nat) (G : Nat → Nat) (hT : TOK T) (hG : okW w G) (h1 : 1 ≤ w.length) (h8 : w.length ≤ 8) (hwn : ∀ q ∈ w, q < T 5 0) : XMi l yX6_time wsX6_time ({ frames := 0, cells := 0, slots := 0, locals := 0 } : Room) D (xT cI cC) xE0 (wM cI cC md T k tm dy P pk ptm pdy hpi tg tl R sg sl (upN u0.1 32 ((w).length), upA u0.2.1 31 G, u0.2.2)) [.ref (md 1)] (S := Unit) (fun r _ => r = nI (tmS T w)) (fun _ => (wM cI cC md T k tm dy P pk ptm pdy hpi tg tl R sg sl (upN u0.1 32 ((w).length), upA u0.2.1 31 G, u0.2.2))) 0 0 := by
  refine xMet_i (cc := cX6_time) (nL := 3) (ret := some .int) (by decide +kernel) rfl (Nat.le_of_ble_eq_true rfl) (fun κ A h0 hn0 hE => ?_)
  have hiX6 : ∀ w ∈ u_ws RX6 TX6 52, w ∈ wsX6_time := by decide +kernel
  refine xlv (lv' := [(0, .ref (md 1))]) [0] rfl ?_
  have hn := hT.1
  refine xiconst (v := (nI 0)) h0 dX6_time_0 (by decide) ?_
  refine xistore_n (lv' := [(1, .int (nI 0)), (0, .ref (md 1))]) h0 dX6_time_1 rfl (by decide) rfl ?_
  refine xiconst (v := (nI 1)) h0 dX6_time_2 (by decide) ?_
  refine xistore_n (lv' := [(2, .int (nI 1)), (1, .int (nI 0)), (0, .ref (md 1))]) h0 dX6_time_3 rfl (by decide) rfl ?_
  have lp : ∀ (d_ : Nat) (i v : Nat), (9 - i ≤ d_) → (1 ≤ i) → (i ≤ w.length) → (v = 2 * lgS T w i) → XG κ 3 D (xT cI cC) A (xQi (S := Unit) κ D (xT cI cC) A (fun r _ => r = nI (tmS T w)) (fun _ => (wM cI cC md T k tm dy P pk ptm pdy hpi tg tl R sg sl (upN u0.1 32 ((w).length), upA u0.2.1 31 G, u0.2.2))) 0 0) (wM cI cC md T k tm dy P pk ptm pdy hpi tg tl R sg sl (upN u0.1 32 ((w).length), upA u0.2.1 31 G, u0.2.2)) 0 0 4 [(0, .ref (md 1)), (1, .int (nI v)), (2, .int (nI i))] [] := by
    intro d_
    induction d_ with
    | zero => intro i v hm_ hi1 hi hv; exact absurd hm_ (by omega)
    | succ d_ ih_lp =>
      intro i v hm_ hi1 hi hv
      refine xiload_n h0 2 dX6_time_4 rfl rfl ?_
      refine xaload_n h0 0 dX6_time_5 rfl rfl ?_
      refine xget (C := RX6) (T := TX6) (N := 52) (ci := 6) (v := .int (nI ((w).length))) h0 hiX6 0 rfl rfl 32 (by decide) (List.mem_of_getElem? (i := 1) rfl) rfl dX6_time_6 ?_
      refine xncmp_ge (tgt := 46) h0 dX6_time_9 (by decide) (by omega) (by omega) (fun c_1 => ?_) (fun c_1 => ?_)
      · skip
        refine xiload_n h0 1 dX6_time_46 rfl rfl ?_
        exact xiret h0 dX6_time_47 () (by rw [hv, show i = w.length by omega]; rfl) rfl
      · skip
        refine xiload_n h0 1 dX6_time_12 rfl rfl ?_
        refine xiconst (v := (nI 2)) h0 dX6_time_13 (by decide) ?_
        refine xaload_n h0 0 dX6_time_14 rfl rfl ?_
        refine xget (C := RX6) (T := TX6) (N := 52) (ci := 6) (v := .ref (md 10)) h0 hiX6 0 rfl rfl 10 (by decide) (List.mem_of_getElem? (i := 2) rfl) rfl dX6_time_15 ?_
        refine xbipush (v := (nI 8)) h0 dX6_time_18 (by decide) ?_
        refine xaload_n h0 0 dX6_time_20 rfl rfl ?_
        refine xget (C := RX6) (T := TX6) (N := 52) (ci := 6) (v := .ref (md 31)) h0 hiX6 0 rfl rfl 31 (by decide) (List.mem_of_getElem? (i := 3) rfl) rfl dX6_time_21 ?_
        refine xiload_n h0 2 dX6_time_24 rfl rfl ?_
        refine xiconst (v := (nI 1)) h0 dX6_time_25 (by decide) ?_
        refine xisub (v := (nI (i - 1))) h0 dX6_time_26 (pk_sub (by omega)) ?_
        refine xiald (v := (nI (w.getD (i - 1) 0))) h0 17 0 rfl rfl (by omega) (by decide) dX6_time_27 (congrArg nI (hG _ (by omega))) ?_
        refine ximul (v := (nI (8 * (w.getD (i - 1) 0)))) h0 dX6_time_28 (pk_mul _ _) ?_
        refine xaload_n h0 0 dX6_time_29 rfl rfl ?_
        refine xget (C := RX6) (T := TX6) (N := 52) (ci := 6) (v := .ref (md 31)) h0 hiX6 0 rfl rfl 31 (by decide) (List.mem_of_getElem? (i := 3) rfl) rfl dX6_time_30 ?_
        refine xiload_n h0 2 dX6_time_33 rfl rfl ?_
        refine xiald (v := (nI (w.getD i 0))) h0 17 0 rfl rfl (by omega) (by decide) dX6_time_34 (congrArg nI (hG _ (by omega))) ?_
        refine xiadd (v := (nI ((8 * (w.getD (i - 1) 0)) + (w.getD i 0)))) h0 dX6_time_35 (nI_add _ _) ?_
        refine xiald (v := (nI (T 4 ((8 * (w.getD (i - 1) 0)) + (w.getD i 0))))) h0 6 0 rfl rfl (by have a1 := hwn _ (getD_mem (w := w) (i := i - 1) (by omega)); have a2 := hwn _ (getD_mem (w := w) (i := i) (by omega)); omega) (by decide) dX6_time_36 (rfl) ?_
        refine ximul (v := (nI (2 * (T 4 ((8 * (w.getD (i - 1) 0)) + (w.getD i 0)))))) h0 dX6_time_37 (pk_mul _ _) ?_
        refine xiadd (v := (nI (v + (2 * (T 4 ((8 * (w.getD (i - 1) 0)) + (w.getD i 0))))))) h0 dX6_time_38 (nI_add _ _) ?_
        refine xistore_n (lv' := [(1, .int (nI (v + (2 * (T 4 ((8 * (w.getD (i - 1) 0)) + (w.getD i 0))))))), (0, .ref (md 1)), (2, .int (nI i))]) h0 dX6_time_39 rfl (by decide) rfl ?_
        refine xiinc (v := (nI (i + 1))) (lv' := [(2, .int (nI (i + 1))), (1, .int (nI (v + (2 * (T 4 ((8 * (w.getD (i - 1) 0)) + (w.getD i 0))))))), (0, .ref (md 1))]) h0 2 dX6_time_40 rfl (nI_add _ _) (by decide) rfl ?_
        refine xgoto (tgt := 4) h0 dX6_time_43 (by decide) ?_
        refine xlv [2, 1, 0] rfl ?_
        exact ih_lp (i + 1) (v + (2 * (T 4 ((8 * (w.getD (i - 1) 0)) + (w.getD i 0))))) (by omega) (by omega) (by omega) (by rw [lgS, if_neg (by omega), hv]; omega)
  refine xlv [2, 1, 0] rfl ?_
  exact lp (9) 1 0 (by omega) (by omega) (by omega) (by rfl)
set_option maxHeartbeats 4000000 in
set_option maxRecDepth 100000 in
theorem c_X6_right (l : Launch) (D : va_G) (cI cC : ClassId) (md : Nat → Nat) (T : TT) (k tm dy : Nat) (P : TT) (pk ptm pdy hpi : Nat) (tg : Nat → Nat) (tl : Nat) (R : Nat → Nat) (sg : Nat → Nat) (sl : Nat) (u0 : ScmT) (w : List Nat) (G : Nat → Nat) (hT : TOK T) (hG : okW w G) (h1 : 1 ≤ w.length) (h8 : w.length ≤ 8) (hwn : ∀ q ∈ w, q < T 5 0) : XMi l yX6_right wsX6_right ({ frames := 1, cells := 0, slots := 0, locals := 24 } : Room) D (xT cI cC) xE0 (wM cI cC md T k tm dy P pk ptm pdy hpi tg tl R sg sl (upN u0.1 32 ((w).length), upA u0.2.1 31 G, u0.2.2)) [.ref (md 1)] (S := Unit) (fun r _ => r = nI (rgS T w)) (fun _ => (wM cI cC md T k tm dy P pk ptm pdy hpi tg tl R sg sl (upN u0.1 32 ((w).length), upA u0.2.1 31 G, u0.2.2))) 0 0 := by
  refine xMet_i (cc := cX6_right) (nL := 3) (ret := some .int) (by decide +kernel) rfl (Nat.le_of_ble_eq_true rfl) (fun κ A h0 hn0 hE => ?_)
  have hiX6 : ∀ w ∈ u_ws RX6 TX6 52, w ∈ wsX6_right := by decide +kernel
  refine xlv (lv' := [(0, .ref (md 1))]) [0] rfl ?_
  have hn := hT.1
  refine xiconst (v := (nI 0)) h0 dX6_right_0 (by decide) ?_
  refine xistore_n (lv' := [(1, .int (nI 0)), (0, .ref (md 1))]) h0 dX6_right_1 rfl (by decide) rfl ?_
  refine xaload_n h0 1 dX6_right_2 rfl rfl ?_
  refine xget (C := RX6) (T := TX6) (N := 52) (ci := 6) (v := .int (nI ((w).length))) h0 hiX6 0 rfl rfl 32 (by decide) (List.mem_of_getElem? (i := 1) rfl) rfl dX6_right_3 ?_
  refine xiconst (v := (nI 1)) h0 dX6_right_6 (by decide) ?_
  refine xisub (v := (oJ w.length)) h0 dX6_right_7 (oJ_sub h1) ?_
  refine xistore_n (lv' := [(2, .int (oJ w.length)), (1, .int (nI 0)), (0, .ref (md 1))]) h0 dX6_right_8 rfl (by decide) rfl ?_
  have lp : ∀ (d_ : Nat) (j hv : Nat) (o : Option Nat), (j + 1 ≤ d_) → (j ≤ w.length) → (o = rtS T (w.drop j)) → (∀ z, o = some z → hv = z) → (hv ≤ 100) → XG κ 3 D (xT cI cC) A (xQi (S := Unit) κ D (xT cI cC) A (fun r _ => r = nI (rgS T w)) (fun _ => (wM cI cC md T k tm dy P pk ptm pdy hpi tg tl R sg sl (upN u0.1 32 ((w).length), upA u0.2.1 31 G, u0.2.2))) 0 0) (wM cI cC md T k tm dy P pk ptm pdy hpi tg tl R sg sl (upN u0.1 32 ((w).length), upA u0.2.1 31 G, u0.2.2)) 0 0 9 [(0, .ref (md 1)), (1, .int (nI hv)), (2, .int (oJ j))] [] := by
    intro d_
    induction d_ with
    | zero => intro j hv o hm_ hj ho hh hv1; exact absurd hm_ (by omega)
    | succ d_ ih_lp =>
      intro j hv o hm_ hj ho hh hv1
      refine xiload_n h0 2 dX6_right_9 rfl rfl ?_
      refine xif_lt (tgt := 46) h0 dX6_right_10 (by decide)  (fun c_1 => ?_) (fun c_1 => ?_)
      · skip
        have hj0 : j = 0 := oJ_neg (by omega) c_1
        refine xiload_n h0 1 dX6_right_46 rfl rfl ?_
        exact xiret h0 dX6_right_47 () (by rw [ri_end h1 (hj0 ▸ ho) hh]) rfl
      · skip
        obtain ⟨i, rfl⟩ := oJ_pos c_1
        refine xaload_n h0 0 dX6_right_13 rfl rfl ?_
        refine xaload_n h0 0 dX6_right_14 rfl rfl ?_
        refine xget (C := RX6) (T := TX6) (N := 52) (ci := 6) (v := .ref (md 31)) h0 hiX6 0 rfl rfl 31 (by decide) (List.mem_of_getElem? (i := 2) rfl) rfl dX6_right_15 ?_
        refine xiload_n h0 2 dX6_right_18 rfl rfl ?_
        refine xiald (v := (nI (w.getD i 0))) h0 17 0 rfl rfl (by omega) (by decide) dX6_right_19 (congrArg nI (hG _ (by omega))) ?_
        refine xiload_n h0 2 dX6_right_20 rfl rfl ?_
        refine xaload_n h0 0 dX6_right_21 rfl rfl ?_
        refine xget (C := RX6) (T := TX6) (N := 52) (ci := 6) (v := .int (nI ((w).length))) h0 hiX6 0 rfl rfl 32 (by decide) (List.mem_of_getElem? (i := 1) rfl) rfl dX6_right_22 ?_
        refine xiconst (v := (nI 1)) h0 dX6_right_25 (by decide) ?_
        refine xisub (v := (nI (((w).length) - 1))) h0 dX6_right_26 (pk_sub (by omega)) ?_
        refine xncmp_ge (tgt := 34) h0 dX6_right_27 (by decide) (by omega) (by omega) (fun c_2 => ?_) (fun c_2 => ?_)
        · skip
          have hso : (0 = 0 ∧ o = none) ∨ (0 = 1 ∧ o = some hv) := Or.inl ⟨rfl, by rw [ho, List.drop_eq_nil_of_le (by omega)]; rfl⟩
          refine xiconst (v := (nI 0)) h0 dX6_right_34 (by decide) ?_
          refine xiload_n h0 1 dX6_right_35 rfl rfl ?_
          refine xcallV_i (nn := 3) (w2 := fun u_ => (wM cI cC md T k tm dy P pk ptm pdy hpi tg tl R sg sl (upN u0.1 32 ((w).length), upA u0.2.1 31 G, u0.2.2))) (wr := []) (rest := []) h0 (c_X6_says (xL κ) D cI cC md T k tm dy P pk ptm pdy hpi tg tl R sg sl (upN u0.1 32 ((w).length), upA u0.2.1 31 G, u0.2.2) (w.getD i 0) 0 hv o hT (by have := hwn _ (getD_mem (w := w) (i := i) (by omega)); omega) (by exact hso) (by exact hv1)) gX6_right_X6_says (by decide +kernel) rfl rfl rfl ⟨Nat.le_of_ble_eq_true rfl, Nat.le_of_ble_eq_true rfl⟩ ⟨by decide, by decide⟩ (fun _ _ _ _ h => h) (fun _ _ _ _ _ _ _ => trivial) rfl (Nat.le_of_ble_eq_true rfl) (q0 := 0) rfl rfl rfl [0, 1, 2, 3, 4, 5, 6, 7, 8, 9, 10, 11, 12, 13, 14, 15, 16, 17, 18, 19, 20, 21] [] [0, 1, 2, 3, 4, 5, 6, 7, 8, 9, 10, 11, 12, 13, 14, 15, 16, 17, 18, 19, 20, 21] ⟨rfl, rfl, rfl, rfl, rfl⟩ (fun _ => ⟨rfl, rfl⟩) dX6_right_36 (fun r_4 u_ hr_3 => ?_)
          subst hr_3
          refine xistore_n (lv' := [(1, .int (nI (sdS T (w.getD i 0) o))), (0, .ref (md 1)), (2, .int (nI i))]) h0 dX6_right_39 rfl (by decide) rfl ?_
          refine xiinc (v := (oJ i)) (lv' := [(2, .int (oJ i)), (1, .int (nI (sdS T (w.getD i 0) o))), (0, .ref (md 1))]) h0 2 dX6_right_40 rfl (oJ_pred _) (by decide) rfl ?_
          refine xgoto (tgt := 9) h0 dX6_right_43 (by decide) ?_
          refine xlv [2, 1, 0] rfl ?_
          exact ih_lp i (sdS T (w.getD i 0) o) (some (sdS T (w.getD i 0) o)) (by omega) (by omega) (by rw [drop_at (show i < w.length by omega), rtS, ← ho]) (by intro z e; cases e; rfl) (by exact sdS_le hT _ (fun z e => rtS_le hT _ z (ho ▸ e)))
        · skip
          have hso : (1 = 0 ∧ o = none) ∨ (1 = 1 ∧ o = some hv) := Or.inr ⟨rfl, by have hd := drop_at (w := w) (i := i + 1) (by omega); rw [hd, rtS] at ho; rw [ho]; exact congrArg some (hh _ ho).symm⟩
          refine xiconst (v := (nI 1)) h0 dX6_right_30 (by decide) ?_
          refine xgoto (tgt := 35) h0 dX6_right_31 (by decide) ?_
          refine xiload_n h0 1 dX6_right_35 rfl rfl ?_
          refine xcallV_i (nn := 3) (w2 := fun u_ => (wM cI cC md T k tm dy P pk ptm pdy hpi tg tl R sg sl (upN u0.1 32 ((w).length), upA u0.2.1 31 G, u0.2.2))) (wr := []) (rest := []) h0 (c_X6_says (xL κ) D cI cC md T k tm dy P pk ptm pdy hpi tg tl R sg sl (upN u0.1 32 ((w).length), upA u0.2.1 31 G, u0.2.2) (w.getD i 0) 1 hv o hT (by have := hwn _ (getD_mem (w := w) (i := i) (by omega)); omega) (by exact hso) (by exact hv1)) gX6_right_X6_says (by decide +kernel) rfl rfl rfl ⟨Nat.le_of_ble_eq_true rfl, Nat.le_of_ble_eq_true rfl⟩ ⟨by decide, by decide⟩ (fun _ _ _ _ h => h) (fun _ _ _ _ _ _ _ => trivial) rfl (Nat.le_of_ble_eq_true rfl) (q0 := 0) rfl rfl rfl [0, 1, 2, 3, 4, 5, 6, 7, 8, 9, 10, 11, 12, 13, 14, 15, 16, 17, 18, 19, 20, 21] [] [0, 1, 2, 3, 4, 5, 6, 7, 8, 9, 10, 11, 12, 13, 14, 15, 16, 17, 18, 19, 20, 21] ⟨rfl, rfl, rfl, rfl, rfl⟩ (fun _ => ⟨rfl, rfl⟩) dX6_right_36 (fun r_6 u_ hr_5 => ?_)
          subst hr_5
          refine xistore_n (lv' := [(1, .int (nI (sdS T (w.getD i 0) o))), (0, .ref (md 1)), (2, .int (nI i))]) h0 dX6_right_39 rfl (by decide) rfl ?_
          refine xiinc (v := (oJ i)) (lv' := [(2, .int (oJ i)), (1, .int (nI (sdS T (w.getD i 0) o))), (0, .ref (md 1))]) h0 2 dX6_right_40 rfl (oJ_pred _) (by decide) rfl ?_
          refine xgoto (tgt := 9) h0 dX6_right_43 (by decide) ?_
          refine xlv [2, 1, 0] rfl ?_
          exact ih_lp i (sdS T (w.getD i 0) o) (some (sdS T (w.getD i 0) o)) (by omega) (by omega) (by rw [drop_at (show i < w.length by omega), rtS, ← ho]) (by intro z e; cases e; rfl) (by exact sdS_le hT _ (fun z e => rtS_le hT _ z (ho ▸ e)))
  refine xlv [2, 1, 0] rfl ?_
  exact lp (w.length + 1) w.length 0 none (by omega) (by omega) (by rw [List.drop_length]; rfl) (by intro z e; cases e) (by decide)
set_option maxHeartbeats 4000000 in
set_option maxRecDepth 100000 in
theorem c_X6_onWay (l : Launch) (D : va_G) (cI cC : ClassId) (md : Nat → Nat) (T : TT) (k tm dy : Nat) (P : TT) (pk ptm pdy hpi : Nat) (tg : Nat → Nat) (tl : Nat) (R : Nat → Nat) (sg : Nat → Nat) (sl : Nat) (u0 : ScmT) (w : List Nat) (G : Nat → Nat) (hT : TOK T) (hG : okW w G) (h1 : 1 ≤ w.length) (h8 : w.length ≤ 8) (hwn : ∀ q ∈ w, q < T 5 0) : XMi l yX6_onWay wsX6_onWay ({ frames := 0, cells := 0, slots := 0, locals := 0 } : Room) D (xT cI cC) xE0 (wM cI cC md T k tm dy P pk ptm pdy hpi tg tl R sg sl (upN u0.1 32 ((w).length), upA u0.2.1 31 G, u0.2.2)) [.ref (md 1)] (S := Unit) (fun r _ => r = nI (mskL w)) (fun _ => (wM cI cC md T k tm dy P pk ptm pdy hpi tg tl R sg sl (upN u0.1 32 ((w).length), upA u0.2.1 31 G, u0.2.2))) 0 0 := by
  refine xMet_i (cc := cX6_onWay) (nL := 3) (ret := some .int) (by decide +kernel) rfl (Nat.le_of_ble_eq_true rfl) (fun κ A h0 hn0 hE => ?_)
  have hiX6 : ∀ w ∈ u_ws RX6 TX6 52, w ∈ wsX6_onWay := by decide +kernel
  refine xlv (lv' := [(0, .ref (md 1))]) [0] rfl ?_
  have hn := hT.1
  refine xiconst (v := (nI 0)) h0 dX6_onWay_0 (by decide) ?_
  refine xistore_n (lv' := [(1, .int (nI 0)), (0, .ref (md 1))]) h0 dX6_onWay_1 rfl (by decide) rfl ?_
  refine xiconst (v := (nI 0)) h0 dX6_onWay_2 (by decide) ?_
  refine xistore_n (lv' := [(2, .int (nI 0)), (1, .int (nI 0)), (0, .ref (md 1))]) h0 dX6_onWay_3 rfl (by decide) rfl ?_
  have lp : ∀ (d_ : Nat) (i v : Nat), (9 - i ≤ d_) → (i ≤ w.length) → (v = mskL (w.take i)) → XG κ 3 D (xT cI cC) A (xQi (S := Unit) κ D (xT cI cC) A (fun r _ => r = nI (mskL w)) (fun _ => (wM cI cC md T k tm dy P pk ptm pdy hpi tg tl R sg sl (upN u0.1 32 ((w).length), upA u0.2.1 31 G, u0.2.2))) 0 0) (wM cI cC md T k tm dy P pk ptm pdy hpi tg tl R sg sl (upN u0.1 32 ((w).length), upA u0.2.1 31 G, u0.2.2)) 0 0 4 [(0, .ref (md 1)), (1, .int (nI v)), (2, .int (nI i))] [] := by
    intro d_
    induction d_ with
    | zero => intro i v hm_ hi hv; exact absurd hm_ (by omega)
    | succ d_ ih_lp =>
      intro i v hm_ hi hv
      refine xiload_n h0 2 dX6_onWay_4 rfl rfl ?_
      refine xaload_n h0 0 dX6_onWay_5 rfl rfl ?_
      refine xget (C := RX6) (T := TX6) (N := 52) (ci := 6) (v := .int (nI ((w).length))) h0 hiX6 0 rfl rfl 32 (by decide) (List.mem_of_getElem? (i := 1) rfl) rfl dX6_onWay_6 ?_
      refine xncmp_ge (tgt := 29) h0 dX6_onWay_9 (by decide) (by omega) (by omega) (fun c_1 => ?_) (fun c_1 => ?_)
      · skip
        refine xiload_n h0 1 dX6_onWay_29 rfl rfl ?_
        exact xiret h0 dX6_onWay_30 () (by rw [hv, show i = w.length by omega, List.take_length]) rfl
      · skip
        refine xiload_n h0 1 dX6_onWay_12 rfl rfl ?_
        refine xiconst (v := (nI 1)) h0 dX6_onWay_13 (by decide) ?_
        refine xaload_n h0 0 dX6_onWay_14 rfl rfl ?_
        refine xget (C := RX6) (T := TX6) (N := 52) (ci := 6) (v := .ref (md 31)) h0 hiX6 0 rfl rfl 31 (by decide) (List.mem_of_getElem? (i := 2) rfl) rfl dX6_onWay_15 ?_
        refine xiload_n h0 2 dX6_onWay_18 rfl rfl ?_
        refine xiald (v := (nI (w.getD i 0))) h0 17 0 rfl rfl (by omega) (by decide) dX6_onWay_19 (congrArg nI (hG _ (by omega))) ?_
        refine xishl (v := (nI (2 ^ w.getD i 0))) h0 dX6_onWay_20 (nI_shl1 _ (by have := hwn _ (getD_mem (w := w) (i := i) (by omega)); omega)) ?_
        refine xior (v := (nI (v ||| (2 ^ w.getD i 0)))) h0 dX6_onWay_21 (nx_or _ _) ?_
        refine xistore_n (lv' := [(1, .int (nI (v ||| (2 ^ w.getD i 0)))), (0, .ref (md 1)), (2, .int (nI i))]) h0 dX6_onWay_22 rfl (by decide) rfl ?_
        refine xiinc (v := (nI (i + 1))) (lv' := [(2, .int (nI (i + 1))), (1, .int (nI (v ||| (2 ^ w.getD i 0)))), (0, .ref (md 1))]) h0 2 dX6_onWay_23 rfl (nI_add _ _) (by decide) rfl ?_
        refine xgoto (tgt := 4) h0 dX6_onWay_26 (by decide) ?_
        refine xlv [2, 1, 0] rfl ?_
        exact ih_lp (i + 1) (v ||| (2 ^ w.getD i 0)) (by omega) (by omega) (by rw [take_s (by omega), mskL_snoc, hv])
  refine xlv [2, 1, 0] rfl ?_
  exact lp (9) 0 0 (by omega) (by omega) (by rfl)
