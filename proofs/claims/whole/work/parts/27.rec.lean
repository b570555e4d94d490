/-! explore, spreadFrom -/
theorem xlvE {κ : Cx} {nL : Nat} {D : va_G} {tys : List (ClassId × FieldType)} {A : Nat → Prop} {Q : State → Prop} {ws : va_W} {n k pc : Nat} {lv lv' : List (Nat × Value)} {st : List Value} (e : lv = lv') (kk : XG κ nL D tys A Q ws n k pc lv' st) : XG κ nL D tys A Q ws n k pc lv st := e ▸ kk
def exR (f : Nat) : Room := { frames := 4 + f, cells := 0, slots := 0, locals := 150 + 30 * f }
theorem expl_len {Ls E : List (List Nat)} {g : Nat → List (List Nat)} {s i f : Nat} (h : Ls.length + 8 ^ (f + 1) ≤ 2 ^ 30) (hi : i < 8) (hE : E = Ls ++ ([] ++ catK g s i)) (hg : ∀ q, (g q).length ≤ 8 ^ f) : E.length + 8 ^ f ≤ 2 ^ 30 := by
  have h1 := catK_len (s := s) hg i
  have h2 : i * 8 ^ f ≤ 7 * 8 ^ f := Nat.mul_le_mul_right _ (by omega)
  subst hE
  rw [List.nil_append, List.length_append]
  rw [Nat.pow_succ] at h
  omega
theorem omx_n {r : Nat} (hr : r < 2 ^ 31) : (if (-1 : Int32) < nI r then nI r else -1) = nI r := by
  rw [if_pos]
  have h := nI_pos' hr
  rw [Int32.le_iff_toInt_le] at h
  rw [Int32.lt_iff_toInt_lt]
  have e : (-1 : Int32).toInt = -1 := by decide
  have e0 : (0 : Int32).toInt = 0 := by decide
  rw [e0] at h
  rw [e]
  omega

set_option maxHeartbeats 4000000 in
set_option maxRecDepth 100000 in
theorem r_X5_explore (D : va_G) (cI cC : ClassId) : ∀ (f : Nat) (l : Launch) (a : Nat → Nat) (T : TT) (k mu tm dy : Nat) (a0 b0 b1 c0 c1 : Nat) (o : Nat) (xo : Option Nat) (Ls : List (List Nat)) (w : List Nat) (p d : Nat) (Gn Gb : Nat → Nat) (bt br : Nat), (TOK T) → (k < 256) → (p < T 5 0) → (okP T w) → (p ∉ w) → (w.length = d) → (d + f = 8) → (lenOK Ls) → (Ls.length + 8 ^ f ≤ 2 ^ 30) → (okB T o (flS T xo Ls) Gb bt br) → (∀ t, xo = some t → t < 2 ^ 31) → (o < 2 ^ 31) → (okW w Gn) → XMv l yX5_explore wsX5_explore (exR f) D (xT cI cC) xE0 ((wTown cI a T k mu tm dy) ++ ([(a0, .inr (0, [.ref b0, .ref c0, .int (nI o), .int (oI xo), .int (nI ((flS T xo (Ls)).length)), .int (nI (onS (flS T xo (Ls)))), .int (nI bt), .int (nI br)]))] ++ ((wWay cI b0 b1 w Gn) ++ (wWay cI c0 c1 (bestS T o (flS T xo (Ls))) Gb)))) [.ref (a 0), .ref a0, .int (nI p), .int (nI d)] (S := (Nat → Nat) × (Nat → Nat) × Nat × Nat) (fun u => okW w u.1 ∧ okB T o (flS T xo (Ls ++ allW T k mu f w p)) u.2.1 u.2.2.1 u.2.2.2) (fun u => wTown cI a T k mu tm dy ++ ([(a0, .inr (0, [.ref b0, .ref c0, .int (nI o), .int (oI xo), .int (nI (flS T xo (Ls ++ allW T k mu f w p)).length), .int (nI (onS (flS T xo (Ls ++ allW T k mu f w p)))), .int (nI u.2.2.1), .int (nI u.2.2.2)]))] ++ (wWay cI b0 b1 w u.1 ++ wWay cI c0 c1 (bestS T o (flS T xo (Ls ++ allW T k mu f w p))) u.2.1))) 0 0 := by
  intro f
  induction f with
  | zero => intro l a T k mu tm dy a0 b0 b1 c0 c1 o xo Ls w p d Gn Gb bt br hT hk hp hw hn2 hd hf hL hlen hb hx ho hGn; exact absurd trivial (by have := len_le8 (okP_8 hT (okP_snoc hw hp hn2)) (okP_snoc hw hp hn2).2; rw [List.length_append, List.length_singleton] at this; omega)
  | succ f ih =>
    intro l a T k mu tm dy a0 b0 b1 c0 c1 o xo Ls w p d Gn Gb bt br hT hk hp hw hn2 hd hf hL hlen hb hx ho hGn
    refine xMet_v (cc := cX5_explore) (nL := 6)  (by decide +kernel) rfl (Nat.le_of_ble_eq_true rfl) (fun κ A h0 hn0 hE => ?_)
    have hiX0 : ∀ w ∈ u_ws RX0 TX0 8, w ∈ wsX5_explore := by decide +kernel
    have hiX4 : ∀ w ∈ u_ws RX4 TX4 3, w ∈ wsX5_explore := by decide +kernel
    refine xlv (lv' := [(0, .ref (a 0)), (1, .ref a0), (2, .int (nI p)), (3, .int (nI d))]) [0, 1, 2, 3] rfl ?_
    have hn := hT.1
    have hlw := hT.2.1
    have hw2 := okP_snoc hw hp hn2
    have h8w := okP_8 hT hw2
    have hlw8 := len_le8 h8w hw2.2
    have hl1 : (w ++ [p]).length = d + 1 := by rw [List.length_append, List.length_singleton, hd]
    have hs := mayS_lt hT p (mskL (w ++ [p])) k mu
    have h88 : 1 ≤ 8 ^ (f + 1) := Nat.one_le_pow _ 8 (by decide)
    refine xiload_n h0 3 dX5_explore_0 rfl rfl ?_
    refine xbipush (v := (nI 8)) h0 dX5_explore_1 (by decide) ?_
    refine xncmp_lt (tgt := 7) h0 dX5_explore_3 (by decide) (by omega) (by omega) (fun c_1 => ?_) (fun c_1 => ?_)
    · skip
      refine xaload_n h0 1 dX5_explore_7 rfl rfl ?_
      refine xgetN (C := RX0) (T := TX0) (N := 8) (ci := 0) (host := "AskAnotherFirst") (v := .ref b0) h0 hiX0 9 rfl rfl 0 (by decide) (List.mem_of_getElem? (i := 16) rfl) rfl dX5_explore_8 ?_
      refine xiload_n h0 2 dX5_explore_11 rfl rfl ?_
      refine xcallV_v (nn := 1) (w2 := fun G_2 => ((wTown cI a T k mu tm dy) ++ ([(a0, .inr (0, [.ref b0, .ref c0, .int (nI o), .int (oI xo), .int (nI ((flS T xo (Ls)).length)), .int (nI (onS (flS T xo (Ls)))), .int (nI bt), .int (nI br)]))] ++ ((wWay cI b0 b1 (w ++ [p]) G_2) ++ (wWay cI c0 c1 (bestS T o (flS T xo (Ls))) Gb))))) (wr := [(a 0, .inr (3, [.ref (a 1), .ref (a 2), .ref (a 3), .ref (a 4), .ref (a 5), .ref (a 6), .ref (a 7), .ref (a 8), .int (nI (T 5 0)), .int (nI (T 5 1)), .int (nI k), .int (nI tm), .int (nI dy)])), (a 1, .inl (cI, 8, .inl (fun i_ => nI (T 0 i_)))), (a 2, .inl (cI, 8, .inl (fun i_ => nI (T 1 i_)))), (a 3, .inl (cI, 8, .inl (fun i_ => nI (T 2 i_)))), (a 4, .inl (cI, 8, .inl (fun i_ => nI (T 3 i_)))), (a 5, .inl (cI, 8, .inl (fun i_ => nI (mtS T i_)))), (a 6, .inl (cI, 8, .inl (fun i_ => nI (rcS T mu i_)))), (a 7, .inl (cI, 8, .inl (fun i_ => nI (bkS T i_)))), (a 8, .inl (cI, 64, .inl (fun i_ => nI (T 4 i_)))), (a0, .inr (0, [.ref b0, .ref c0, .int (nI o), .int (oI xo), .int (nI ((flS T xo (Ls)).length)), .int (nI (onS (flS T xo (Ls)))), .int (nI bt), .int (nI br)])), (c0, .inr (4, [.ref c1, .int (nI ((bestS T o (flS T xo (Ls))).length)), .int (nI (mskL (bestS T o (flS T xo (Ls)))))])), (c1, .inl (cI, 8, .inl (fun i_ => nI (Gb i_))))]) (rest := []) h0 (c_X4_add (xL κ) D cI cC b0 b1 w Gn p hGn (by omega) (by omega)) gX5_explore_X4_add (by decide +kernel) rfl rfl rfl ⟨by dsimp only [exR]; omega, by dsimp only [exR]; omega⟩ ⟨Nat.zero_le _, Nat.zero_le _⟩ (fun _ _ _ _ h => h) (fun _ _ _ _ _ _ _ => trivial) rfl (Nat.le_of_ble_eq_true rfl) (q0 := 0) rfl rfl rfl [10, 11] [0, 1, 2, 3, 4, 5, 6, 7, 8, 9, 12, 13] [0, 1, 2, 3, 4, 5, 6, 7, 8, 9, 12, 13, 10, 11] ⟨rfl, rfl, rfl, rfl, rfl⟩ (fun _ => ⟨rfl, rfl⟩) dX5_explore_12 (fun G_2 hG_3 => ?_)
      refine xaload_n h0 0 dX5_explore_15 rfl rfl ?_
      refine xiload_n h0 2 dX5_explore_16 rfl rfl ?_
      refine xaload_n h0 1 dX5_explore_17 rfl rfl ?_
      refine xgetN (C := RX0) (T := TX0) (N := 8) (ci := 0) (host := "AskAnotherFirst") (v := .ref b0) h0 hiX0 9 rfl rfl 0 (by decide) (List.mem_of_getElem? (i := 16) rfl) rfl dX5_explore_18 ?_
      refine xgetN (C := RX4) (T := TX4) (N := 3) (ci := 4) (host := "AskAnotherFirst") (v := .int (nI (mskL (w ++ [p])))) h0 hiX4 10 rfl rfl 2 (by decide) (List.mem_of_getElem? (i := 14) rfl) rfl dX5_explore_21 ?_
      refine xcallV_i (nn := 2) (w2 := fun u_ => ((wTown cI a T k mu tm dy) ++ ([(a0, .inr (0, [.ref b0, .ref c0, .int (nI o), .int (oI xo), .int (nI ((flS T xo (Ls)).length)), .int (nI (onS (flS T xo (Ls)))), .int (nI bt), .int (nI br)]))] ++ ((wWay cI b0 b1 (w ++ [p]) G_2) ++ (wWay cI c0 c1 (bestS T o (flS T xo (Ls))) Gb))))) (wr := [(a0, .inr (0, [.ref b0, .ref c0, .int (nI o), .int (oI xo), .int (nI ((flS T xo (Ls)).length)), .int (nI (onS (flS T xo (Ls)))), .int (nI bt), .int (nI br)])), (b0, .inr (4, [.ref b1, .int (nI ((w ++ [p]).length)), .int (nI (mskL (w ++ [p])))])), (b1, .inl (cI, 8, .inl (fun i_ => nI (G_2 i_)))), (c0, .inr (4, [.ref c1, .int (nI ((bestS T o (flS T xo (Ls))).length)), .int (nI (mskL (bestS T o (flS T xo (Ls)))))])), (c1, .inl (cI, 8, .inl (fun i_ => nI (Gb i_))))]) (rest := []) h0 (c_X3_openTo (xL κ) D cI cC a T k mu tm dy p (mskL (w ++ [p])) hT (by exact hp) (by exact mskL_lt _ h8w) (by exact cd_msk h8w) (by omega)) gX5_explore_X3_openTo (by decide +kernel) rfl rfl rfl ⟨by dsimp only [exR]; omega, by dsimp only [exR]; omega⟩ ⟨Nat.zero_le _, Nat.zero_le _⟩ (fun _ _ _ _ h => h) (fun _ _ _ _ _ _ _ => trivial) rfl (Nat.le_of_ble_eq_true rfl) (q0 := 0) rfl rfl rfl [0, 1, 2, 3, 4, 5, 6, 7, 8] [9, 10, 11, 12, 13] [5, 6, 7, 8, 9, 10, 11, 12, 13, 0, 1, 2, 3, 4] ⟨rfl, rfl, rfl, rfl, rfl⟩ (fun _ => ⟨rfl, rfl⟩) dX5_explore_24 (fun r_6 u_ hr_5 => ?_)
      subst hr_5
      refine xistore (lv' := [(4, .int (nI (mayS T p (mskL (w ++ [p])) k mu))), (0, .ref (a 0)), (1, .ref a0), (2, .int (nI p)), (3, .int (nI d))]) h0 dX5_explore_27 (by decide) rfl ?_
      refine xiload h0 0 dX5_explore_29 rfl ?_
      have lp : ∀ (d_ : Nat) (i : Nat) (E : List (List Nat)) (Gn Gb : Nat → Nat) (bt br : Nat), (9 - i ≤ d_) → (i ≤ 8) → (E = Ls ++ ((if mayS T p (mskL (w ++ [p])) k mu = 0 then [w ++ [p]] else []) ++ catK (fun q => allW T k mu f (w ++ [p]) q) (mayS T p (mskL (w ++ [p])) k mu) i)) → (okW (w ++ [p]) Gn) → (okB T o (flS T xo E) Gb bt br) → (lenOK E) → XG κ 6 D (xT cI cC) A (xQv (S := (Nat → Nat) × (Nat → Nat) × Nat × Nat) κ D (xT cI cC) A (fun u => okW w u.1 ∧ okB T o (flS T xo (Ls ++ allW T k mu (f + 1) w p)) u.2.1 u.2.2.1 u.2.2.2) (fun u => wTown cI a T k mu tm dy ++ ([(a0, .inr (0, [.ref b0, .ref c0, .int (nI o), .int (oI xo), .int (nI (flS T xo (Ls ++ allW T k mu (f + 1) w p)).length), .int (nI (onS (flS T xo (Ls ++ allW T k mu (f + 1) w p)))), .int (nI u.2.2.1), .int (nI u.2.2.2)]))] ++ (wWay cI b0 b1 w u.1 ++ wWay cI c0 c1 (bestS T o (flS T xo (Ls ++ allW T k mu (f + 1) w p))) u.2.1))) 0 0) ((wTown cI a T k mu tm dy) ++ ([(a0, .inr (0, [.ref b0, .ref c0, .int (nI o), .int (oI xo), .int (nI ((flS T xo (E)).length)), .int (nI (onS (flS T xo (E)))), .int (nI bt), .int (nI br)]))] ++ ((wWay cI b0 b1 (w ++ [p]) Gn) ++ (wWay cI c0 c1 (bestS T o (flS T xo (E))) Gb)))) 0 0 42 [(0, .ref (a 0)), (1, .ref a0), (2, .int (nI p)), (3, .int (nI d)), (4, .int (nI (mayS T p (mskL (w ++ [p])) k mu))), (5, .int (nI i))] [] := by
        intro d_
        induction d_ with
        | zero => intro i E Gn Gb bt br hm_ hi hE hGn hb hL2; exact absurd hm_ (by omega)
        | succ d_ ih_lp =>
          intro i E Gn Gb bt br hm_ hi hE hGn hb hL2
          refine xiload h0 5 dX5_explore_42 rfl ?_
          refine xbipush (v := (nI 8)) h0 dX5_explore_44 (by decide) ?_
          refine xncmp_ge (tgt := 75) h0 dX5_explore_46 (by decide) (by omega) (by omega) (fun c_7 => ?_) (fun c_7 => ?_)
          · skip
            have hi8 : i = 8 := by omega
            subst hi8
            have hEe : E = Ls ++ allW T k mu (f + 1) w p := by rw [hE, allW_s]
            subst hEe
            refine xaload_n h0 1 dX5_explore_75 rfl rfl ?_
            refine xgetN (C := RX0) (T := TX0) (N := 8) (ci := 0) (host := "AskAnotherFirst") (v := .ref b0) h0 hiX0 9 rfl rfl 0 (by decide) (List.mem_of_getElem? (i := 16) rfl) rfl dX5_explore_76 ?_
            refine xcallV_v (nn := 0) (w2 := fun G_8 => ((wTown cI a T k mu tm dy) ++ ([(a0, .inr (0, [.ref b0, .ref c0, .int (nI o), .int (oI xo), .int (nI ((flS T xo (Ls ++ allW T k mu (f + 1) w p)).length)), .int (nI (onS (flS T xo (Ls ++ allW T k mu (f + 1) w p)))), .int (nI bt), .int (nI br)]))] ++ ((wWay cI b0 b1 w G_8) ++ (wWay cI c0 c1 (bestS T o (flS T xo (Ls ++ allW T k mu (f + 1) w p))) Gb))))) (wr := [(a 0, .inr (3, [.ref (a 1), .ref (a 2), .ref (a 3), .ref (a 4), .ref (a 5), .ref (a 6), .ref (a 7), .ref (a 8), .int (nI (T 5 0)), .int (nI (T 5 1)), .int (nI k), .int (nI tm), .int (nI dy)])), (a 1, .inl (cI, 8, .inl (fun i_ => nI (T 0 i_)))), (a 2, .inl (cI, 8, .inl (fun i_ => nI (T 1 i_)))), (a 3, .inl (cI, 8, .inl (fun i_ => nI (T 2 i_)))), (a 4, .inl (cI, 8, .inl (fun i_ => nI (T 3 i_)))), (a 5, .inl (cI, 8, .inl (fun i_ => nI (mtS T i_)))), (a 6, .inl (cI, 8, .inl (fun i_ => nI (rcS T mu i_)))), (a 7, .inl (cI, 8, .inl (fun i_ => nI (bkS T i_)))), (a 8, .inl (cI, 64, .inl (fun i_ => nI (T 4 i_)))), (a0, .inr (0, [.ref b0, .ref c0, .int (nI o), .int (oI xo), .int (nI ((flS T xo (Ls ++ allW T k mu (f + 1) w p)).length)), .int (nI (onS (flS T xo (Ls ++ allW T k mu (f + 1) w p)))), .int (nI bt), .int (nI br)])), (c0, .inr (4, [.ref c1, .int (nI ((bestS T o (flS T xo (Ls ++ allW T k mu (f + 1) w p))).length)), .int (nI (mskL (bestS T o (flS T xo (Ls ++ allW T k mu (f + 1) w p)))))])), (c1, .inl (cI, 8, .inl (fun i_ => nI (Gb i_))))]) (rest := []) h0 (c_X4_dropLast (xL κ) D cI cC b0 b1 w Gn p hGn (fun q hq => okP_8 hT hw q hq) (by omega) hn2 (by omega)) gX5_explore_X4_dropLast (by decide +kernel) rfl rfl rfl ⟨by dsimp only [exR]; omega, by dsimp only [exR]; omega⟩ ⟨Nat.zero_le _, Nat.zero_le _⟩ (fun _ _ _ _ h => h) (fun _ _ _ _ _ _ _ => trivial) rfl (Nat.le_of_ble_eq_true rfl) (q0 := 0) rfl rfl rfl [10, 11] [0, 1, 2, 3, 4, 5, 6, 7, 8, 9, 12, 13] [0, 1, 2, 3, 4, 5, 6, 7, 8, 9, 12, 13, 10, 11] ⟨rfl, rfl, rfl, rfl, rfl⟩ (fun _ => ⟨rfl, rfl⟩) dX5_explore_79 (fun G_8 hG_9 => ?_)
            exact xvret h0 dX5_explore_82 (G_8, Gb, bt, br) (by exact ⟨hG_9, hb⟩) rfl
          · skip
            refine xiload h0 4 dX5_explore_49 rfl ?_
            refine xiload h0 5 dX5_explore_51 rfl ?_
            refine xcallS_i (nn := 2) (w2 := fun u_ => ((wTown cI a T k mu tm dy) ++ ([(a0, .inr (0, [.ref b0, .ref c0, .int (nI o), .int (oI xo), .int (nI ((flS T xo (E)).length)), .int (nI (onS (flS T xo (E)))), .int (nI bt), .int (nI br)]))] ++ ((wWay cI b0 b1 (w ++ [p]) Gn) ++ (wWay cI c0 c1 (bestS T o (flS T xo (E))) Gb))))) (wr := [(a 0, .inr (3, [.ref (a 1), .ref (a 2), .ref (a 3), .ref (a 4), .ref (a 5), .ref (a 6), .ref (a 7), .ref (a 8), .int (nI (T 5 0)), .int (nI (T 5 1)), .int (nI k), .int (nI tm), .int (nI dy)])), (a 1, .inl (cI, 8, .inl (fun i_ => nI (T 0 i_)))), (a 2, .inl (cI, 8, .inl (fun i_ => nI (T 1 i_)))), (a 3, .inl (cI, 8, .inl (fun i_ => nI (T 2 i_)))), (a 4, .inl (cI, 8, .inl (fun i_ => nI (T 3 i_)))), (a 5, .inl (cI, 8, .inl (fun i_ => nI (mtS T i_)))), (a 6, .inl (cI, 8, .inl (fun i_ => nI (rcS T mu i_)))), (a 7, .inl (cI, 8, .inl (fun i_ => nI (bkS T i_)))), (a 8, .inl (cI, 64, .inl (fun i_ => nI (T 4 i_)))), (a0, .inr (0, [.ref b0, .ref c0, .int (nI o), .int (oI xo), .int (nI ((flS T xo (E)).length)), .int (nI (onS (flS T xo (E)))), .int (nI bt), .int (nI br)])), (b0, .inr (4, [.ref b1, .int (nI ((w ++ [p]).length)), .int (nI (mskL (w ++ [p])))])), (b1, .inl (cI, 8, .inl (fun i_ => nI (Gn i_)))), (c0, .inr (4, [.ref c1, .int (nI ((bestS T o (flS T xo (E))).length)), .int (nI (mskL (bestS T o (flS T xo (E)))))])), (c1, .inl (cI, 8, .inl (fun i_ => nI (Gb i_))))]) (rest := []) h0 (c_X5_holds (xL κ) D cI cC (mayS T p (mskL (w ++ [p])) k mu) i (by omega) (by omega)) gX5_explore_X5_holds (by decide +kernel) rfl rfl rfl ⟨by dsimp only [exR]; omega, by dsimp only [exR]; omega⟩ ⟨Nat.zero_le _, Nat.zero_le _⟩ (fun _ _ _ _ h => h) (fun _ _ _ _ _ _ _ => trivial) rfl (Nat.le_of_ble_eq_true rfl) rfl [] [0, 1, 2, 3, 4, 5, 6, 7, 8, 9, 10, 11, 12, 13] [0, 1, 2, 3, 4, 5, 6, 7, 8, 9, 10, 11, 12, 13] ⟨rfl, rfl, rfl, rfl, rfl⟩ (fun _ => ⟨rfl, rfl⟩) dX5_explore_53 (fun r_12 u_ hr_11 => ?_)
            subst hr_11
            refine xbif_eq (tgt := 69) h0 dX5_explore_56 (by decide)  (fun c_13 => ?_) (fun c_13 => ?_)
            · skip
              refine xiinc (v := (nI (i + 1))) (lv' := [(5, .int (nI (i + 1))), (0, .ref (a 0)), (1, .ref a0), (2, .int (nI p)), (3, .int (nI d)), (4, .int (nI (mayS T p (mskL (w ++ [p])) k mu)))]) h0 5 dX5_explore_69 rfl (nI_add _ _) (by decide) rfl ?_
              refine xgoto (tgt := 42) h0 dX5_explore_72 (by decide) ?_
              refine xlv [1, 2, 3, 4, 5, 0] rfl ?_
              exact ih_lp (i + 1) E Gn Gb bt br (by omega) (by omega) (by first | (rw [catK_n (by assumption)]; exact hE) | (rw [catK_y (by assumption), hE, List.append_assoc, List.append_assoc])) (by exact hGn) (by exact hb) (by first | exact hL2 | exact lenOK_app hL2 (allW_ok hT _ _ _ _ _ hw2 (may_out (by assumption)).1 (may_out (by assumption)).2))
            · skip
              refine xaload_n h0 0 dX5_explore_59 rfl rfl ?_
              refine xaload_n h0 1 dX5_explore_60 rfl rfl ?_
              refine xiload h0 5 dX5_explore_61 rfl ?_
              refine xiload_n h0 3 dX5_explore_63 rfl rfl ?_
              refine xiconst (v := (nI 1)) h0 dX5_explore_64 (by decide) ?_
              refine xiadd (v := (nI (d + 1))) h0 dX5_explore_65 (nI_add _ _) ?_
              refine xcallS_v (nn := 4) (w2 := fun u_14 => ((wTown cI a T k mu tm dy) ++ ([(a0, .inr (0, [.ref b0, .ref c0, .int (nI o), .int (oI xo), .int (nI ((flS T xo (E ++ allW T k mu f (w ++ [p]) i)).length)), .int (nI (onS (flS T xo (E ++ allW T k mu f (w ++ [p]) i)))), .int (nI u_14.2.2.1), .int (nI u_14.2.2.2)]))] ++ ((wWay cI b0 b1 (w ++ [p]) u_14.1) ++ (wWay cI c0 c1 (bestS T o (flS T xo (E ++ allW T k mu f (w ++ [p]) i))) u_14.2.1))))) (wr := []) (rest := []) h0 (ih (xL κ) a T k mu tm dy a0 b0 b1 c0 c1 o xo E (w ++ [p]) i (d + 1) Gn Gb bt br hT hk (may_out (by assumption)).1 hw2 (may_out (by assumption)).2 hl1 (by omega) hL2 (expl_len hlen (by omega) (by rw [hE, if_neg (fun z => by have hz : (mayS T p (mskL (w ++ [p])) k mu).testBit i = true := (by assumption); rw [z, Nat.zero_testBit] at hz; cases hz)]) (fun q => allW_len T k mu f (w ++ [p]) q)) hb hx ho hGn) gX5_explore_X5_explore (by decide +kernel) rfl rfl rfl ⟨by dsimp only [exR]; omega, by dsimp only [exR]; omega⟩ ⟨Nat.zero_le _, Nat.zero_le _⟩ (fun _ _ _ _ h => h) (fun _ _ _ _ _ _ _ => trivial) rfl (Nat.le_of_ble_eq_true rfl) rfl [0, 1, 2, 3, 4, 5, 6, 7, 8, 9, 10, 11, 12, 13] [] [0, 1, 2, 3, 4, 5, 6, 7, 8, 9, 10, 11, 12, 13] ⟨rfl, rfl, rfl, rfl, rfl⟩ (fun _ => ⟨rfl, rfl⟩) dX5_explore_66 (fun u_14 hu_15 => ?_)
              refine xiinc (v := (nI (i + 1))) (lv' := [(5, .int (nI (i + 1))), (0, .ref (a 0)), (1, .ref a0), (2, .int (nI p)), (3, .int (nI d)), (4, .int (nI (mayS T p (mskL (w ++ [p])) k mu)))]) h0 5 dX5_explore_69 rfl (nI_add _ _) (by decide) rfl ?_
              refine xgoto (tgt := 42) h0 dX5_explore_72 (by decide) ?_
              refine xlv [1, 2, 3, 4, 5, 0] rfl ?_
              exact ih_lp (i + 1) (E ++ allW T k mu f (w ++ [p]) i) u_14.1 u_14.2.1 u_14.2.2.1 u_14.2.2.2 (by omega) (by omega) (by first | (rw [catK_n (by assumption)]; exact hE) | (rw [catK_y (by assumption), hE, List.append_assoc, List.append_assoc])) (by exact hu_15.1) (by exact hu_15.2) (by first | exact hL2 | exact lenOK_app hL2 (allW_ok hT _ _ _ _ _ hw2 (may_out (by assumption)).1 (may_out (by assumption)).2))
      refine xnif_ne (tgt := 39) h0 dX5_explore_31 (by decide) (by omega) (fun c_17 => ?_) (fun c_17 => ?_)
      · skip
        refine xiconst (v := (nI 0)) h0 dX5_explore_39 (by decide) ?_
        refine xistore (lv' := [(5, .int (nI 0)), (4, .int (nI (mayS T p (mskL (w ++ [p])) k mu))), (0, .ref (a 0)), (1, .ref a0), (2, .int (nI p)), (3, .int (nI d))]) h0 dX5_explore_40 (by decide) rfl ?_
        refine xlv [2, 3, 4, 5, 1, 0] rfl ?_
        exact lp (9) 0 Ls G_2 Gb bt br (by omega) (by omega) (by first | (rw [if_neg (by omega)]; simp [catK]; done) | (rw [if_pos (by assumption)]; simp [catK])) (by exact hG_3) (by exact hb) (by first | exact hL | exact lenOK_snoc hL (by omega) hlw8)
      · skip
        refine xaload_n h0 2 dX5_explore_34 rfl rfl ?_
        refine xaload_n h0 1 dX5_explore_35 rfl rfl ?_
        refine xcallV_v (nn := 1) (w2 := fun u_18 => ((wTown cI a T k mu tm dy) ++ ([(a0, .inr (0, [.ref b0, .ref c0, .int (nI o), .int (oI xo), .int (nI ((flS T xo (Ls ++ [w ++ [p]])).length)), .int (nI (onS (flS T xo (Ls ++ [w ++ [p]])))), .int (nI u_18.2.1), .int (nI u_18.2.2)]))] ++ ((wWay cI b0 b1 (w ++ [p]) G_2) ++ (wWay cI c0 c1 (bestS T o (flS T xo (Ls ++ [w ++ [p]]))) u_18.1))))) (wr := []) (rest := []) h0 (c_X0_take (xL κ) D cI cC a T k mu tm dy a0 b0 b1 c0 c1 o xo Ls (w ++ [p]) G_2 Gb bt br hT hG_3 (by omega) hlw8 hw2.1 hb hx hL (by omega) ho) gX5_explore_X0_take (by decide +kernel) rfl rfl rfl ⟨by dsimp only [exR]; omega, by dsimp only [exR]; omega⟩ ⟨Nat.zero_le _, Nat.zero_le _⟩ (fun _ _ _ _ h => h) (fun _ _ _ _ _ _ _ => trivial) rfl (Nat.le_of_ble_eq_true rfl) (q0 := 9) rfl rfl rfl [0, 1, 2, 3, 4, 5, 6, 7, 8, 9, 10, 11, 12, 13] [] [0, 1, 2, 3, 4, 5, 6, 7, 8, 9, 10, 11, 12, 13] ⟨rfl, rfl, rfl, rfl, rfl⟩ (fun _ => ⟨rfl, rfl⟩) dX5_explore_36 (fun u_18 hu_19 => ?_)
        refine xiconst (v := (nI 0)) h0 dX5_explore_39 (by decide) ?_
        refine xistore (lv' := [(5, .int (nI 0)), (4, .int (nI (mayS T p (mskL (w ++ [p])) k mu))), (0, .ref (a 0)), (1, .ref a0), (2, .int (nI p)), (3, .int (nI d))]) h0 dX5_explore_40 (by decide) rfl ?_
        refine xlv [2, 3, 4, 5, 1, 0] rfl ?_
        exact lp (9) 0 (Ls ++ [w ++ [p]]) G_2 u_18.1 u_18.2.1 u_18.2.2 (by omega) (by omega) (by first | (rw [if_neg (by omega)]; simp [catK]; done) | (rw [if_pos (by assumption)]; simp [catK])) (by exact hG_3) (by exact hu_19) (by first | exact hL | exact lenOK_snoc hL (by omega) hlw8)
    · exact absurd c_1 (by omega)
theorem c_X5_explore (l : Launch) (D : va_G) (cI cC : ClassId) (f : Nat) (a : Nat → Nat) (T : TT) (k mu tm dy : Nat) (a0 b0 b1 c0 c1 : Nat) (o : Nat) (xo : Option Nat) (Ls : List (List Nat)) (w : List Nat) (p d : Nat) (Gn Gb : Nat → Nat) (bt br : Nat) (hT : TOK T) (hk : k < 256) (hp : p < T 5 0) (hw : okP T w) (hn2 : p ∉ w) (hd : w.length = d) (hf : d + f = 8) (hL : lenOK Ls) (hlen : Ls.length + 8 ^ f ≤ 2 ^ 30) (hb : okB T o (flS T xo Ls) Gb bt br) (hx : ∀ t, xo = some t → t < 2 ^ 31) (ho : o < 2 ^ 31) (hGn : okW w Gn) : XMv l yX5_explore wsX5_explore (exR f) D (xT cI cC) xE0 ((wTown cI a T k mu tm dy) ++ ([(a0, .inr (0, [.ref b0, .ref c0, .int (nI o), .int (oI xo), .int (nI ((flS T xo (Ls)).length)), .int (nI (onS (flS T xo (Ls)))), .int (nI bt), .int (nI br)]))] ++ ((wWay cI b0 b1 w Gn) ++ (wWay cI c0 c1 (bestS T o (flS T xo (Ls))) Gb)))) [.ref (a 0), .ref a0, .int (nI p), .int (nI d)] (S := (Nat → Nat) × (Nat → Nat) × Nat × Nat) (fun u => okW w u.1 ∧ okB T o (flS T xo (Ls ++ allW T k mu f w p)) u.2.1 u.2.2.1 u.2.2.2) (fun u => wTown cI a T k mu tm dy ++ ([(a0, .inr (0, [.ref b0, .ref c0, .int (nI o), .int (oI xo), .int (nI (flS T xo (Ls ++ allW T k mu f w p)).length), .int (nI (onS (flS T xo (Ls ++ allW T k mu f w p)))), .int (nI u.2.2.1), .int (nI u.2.2.2)]))] ++ (wWay cI b0 b1 w u.1 ++ wWay cI c0 c1 (bestS T o (flS T xo (Ls ++ allW T k mu f w p))) u.2.1))) 0 0 := r_X5_explore D cI cC f l a T k mu tm dy a0 b0 b1 c0 c1 o xo Ls w p d Gn Gb bt br hT hk hp hw hn2 hd hf hL hlen hb hx ho hGn
set_option maxHeartbeats 4000000 in
set_option maxRecDepth 100000 in
theorem r_X5_spreadFrom (D : va_G) (cI cC : ClassId) : ∀ (f : Nat) (l : Launch) (a : Nat → Nat) (T : TT) (k mu tm dy : Nat) (s0 has mi : Nat) (p d : Nat), (TOK T) → (k < 256) → (p < T 5 0) → (has < 256) → (has.testBit p = false) → (d ≤ cdS has) → (d + f = 8) → XMi l yX5_spreadFrom wsX5_spreadFrom (exR f) D (xT cI cC) xE0 ((wTown cI a T k mu tm dy) ++ [(s0, .inr (2, [.int (nI has), .int (nI mi)]))]) [.ref (a 0), .ref s0, .int (nI p), .int (nI d)] (S := Unit) (fun r _ => r = nI (grS T k mu f has p).2.2) (fun _ => wTown cI a T k mu tm dy ++ [(s0, .inr (2, [.int (nI (grS T k mu f has p).1), .int (nI (mi + (grS T k mu f has p).2.1))]))]) 0 0 := by
  intro f
  induction f with
  | zero => intro l a T k mu tm dy s0 has mi p d hT hk hp hh hbt hd hf; exact absurd trivial (by have h1 := hT.1; have h2 := cdS_add has hh p (by omega) hbt; have h3 := cdS_le (has ||| 2 ^ p); omega)
  | succ f ih =>
    intro l a T k mu tm dy s0 has mi p d hT hk hp hh hbt hd hf
    refine xMet_i (cc := cX5_spreadFrom) (nL := 8) (ret := some .int) (by decide +kernel) rfl (Nat.le_of_ble_eq_true rfl) (fun κ A h0 hn0 hE => ?_)
    have hiX2 : ∀ w ∈ u_ws RX2 TX2 2, w ∈ wsX5_spreadFrom := by decide +kernel
    refine xlv (lv' := [(0, .ref (a 0)), (1, .ref s0), (2, .int (nI p)), (3, .int (nI d))]) [0, 1, 2, 3] rfl ?_
    have hn := hT.1
    have hlw := hT.2.1
    have hp8 : p < 8 := by omega
    have hH1 : has ||| 2 ^ p < 256 := or_lt256 hh (pw_lt256 hp8)
    have hc1 := cdS_add has hh p hp8 hbt
    have hc8 := cdS_le (has ||| 2 ^ p)
    refine xaload_n h0 1 dX5_spreadFrom_0 rfl rfl ?_
    refine xdup h0 dX5_spreadFrom_1 rfl ?_
    refine xgetN (C := RX2) (T := TX2) (N := 2) (ci := 2) (host := "AskAnotherFirst") (v := .int (nI has)) h0 hiX2 9 rfl rfl 0 (by decide) (List.mem_of_getElem? (i := 22) rfl) rfl dX5_spreadFrom_2 ?_
    refine xiload_n h0 2 dX5_spreadFrom_5 rfl rfl ?_
    refine xcallS_i (nn := 1) (w2 := fun u_ => ((wTown cI a T k mu tm dy) ++ [(s0, .inr (2, [.int (nI has), .int (nI mi)]))])) (wr := [(a 0, .inr (3, [.ref (a 1), .ref (a 2), .ref (a 3), .ref (a 4), .ref (a 5), .ref (a 6), .ref (a 7), .ref (a 8), .int (nI (T 5 0)), .int (nI (T 5 1)), .int (nI k), .int (nI tm), .int (nI dy)])), (a 1, .inl (cI, 8, .inl (fun i_ => nI (T 0 i_)))), (a 2, .inl (cI, 8, .inl (fun i_ => nI (T 1 i_)))), (a 3, .inl (cI, 8, .inl (fun i_ => nI (T 2 i_)))), (a 4, .inl (cI, 8, .inl (fun i_ => nI (T 3 i_)))), (a 5, .inl (cI, 8, .inl (fun i_ => nI (mtS T i_)))), (a 6, .inl (cI, 8, .inl (fun i_ => nI (rcS T mu i_)))), (a 7, .inl (cI, 8, .inl (fun i_ => nI (bkS T i_)))), (a 8, .inl (cI, 64, .inl (fun i_ => nI (T 4 i_)))), (s0, .inr (2, [.int (nI has), .int (nI mi)]))]) (rest := [.int (nI has), .ref s0]) h0 (c_X5_bit (xL κ) D cI cC p (by omega)) gX5_spreadFrom_X5_bit (by decide +kernel) rfl rfl rfl ⟨by dsimp only [exR]; omega, by dsimp only [exR]; omega⟩ ⟨Nat.zero_le _, Nat.zero_le _⟩ (fun _ _ _ _ h => h) (fun _ _ _ _ _ _ _ => trivial) rfl (Nat.le_of_ble_eq_true rfl) rfl [] [0, 1, 2, 3, 4, 5, 6, 7, 8, 9] [0, 1, 2, 3, 4, 5, 6, 7, 8, 9] ⟨rfl, rfl, rfl, rfl, rfl⟩ (fun _ => ⟨rfl, rfl⟩) dX5_spreadFrom_6 (fun r_2 u_ hr_1 => ?_)
    subst hr_1
    refine xior (v := (nI (has ||| (2 ^ p)))) h0 dX5_spreadFrom_9 (nx_or _ _) ?_
    refine xputN (ws' := ((wTown cI a T k mu tm dy) ++ [(s0, .inr (2, [.int (nI (has ||| (2 ^ p))), .int (nI mi)]))])) (C := RX2) (T := TX2) (N := 2) (ci := 2) (ty := tyX2 0) (host := "AskAnotherFirst") h0 hiX2 tyX2 tyX2_ok nmX2 9 rfl rfl 0 (by decide) (List.mem_of_getElem? (i := 22) rfl) rfl (by decide +kernel) (rfl) (rfl) (Nat.le_of_ble_eq_true rfl) dX5_spreadFrom_10 rfl ?_
    refine xiconst (v := (-1)) h0 dX5_spreadFrom_13 (by decide) ?_
    refine xistore (lv' := [(4, .int (-1)), (0, .ref (a 0)), (1, .ref s0), (2, .int (nI p)), (3, .int (nI d))]) h0 dX5_spreadFrom_14 (by decide) rfl ?_
    refine xiload_n h0 4 dX5_spreadFrom_16 rfl rfl ?_
    refine xbipush (v := (nI 8)) h0 dX5_spreadFrom_17 (by decide) ?_
    refine xncmp_ge (tgt := 26) h0 dX5_spreadFrom_19 (by decide) (by omega) (by omega) (fun c_3 => ?_) (fun c_3 => ?_)
    · exact absurd c_3 (by omega)
    · skip
      refine xiconst (v := (nI 1)) h0 dX5_spreadFrom_22 (by decide) ?_
      refine xgoto (tgt := 27) h0 dX5_spreadFrom_23 (by decide) ?_
      refine xistore (lv' := [(5, .int (nI 1)), (4, .int (-1)), (0, .ref (a 0)), (1, .ref s0), (2, .int (nI p)), (3, .int (nI d))]) h0 dX5_spreadFrom_27 (by decide) rfl ?_
      refine xiconst (v := (nI 0)) h0 dX5_spreadFrom_29 (by decide) ?_
      refine xistore (lv' := [(6, .int (nI 0)), (5, .int (nI 1)), (4, .int (-1)), (0, .ref (a 0)), (1, .ref s0), (2, .int (nI p)), (3, .int (nI d))]) h0 dX5_spreadFrom_30 (by decide) rfl ?_
      refine xiload h0 0 dX5_spreadFrom_32 rfl ?_
      refine xiconst (v := (nI 2)) h0 dX5_spreadFrom_34 (by decide) ?_
      refine xncmp_ge (tgt := 111) h0 dX5_spreadFrom_35 (by decide) (by omega) (by omega) (fun c_4 => ?_) (fun c_4 => ?_)
      · exact absurd c_4 (by omega)
      · skip
        refine xiload h0 1 dX5_spreadFrom_38 rfl ?_
        refine xnif_eq (tgt := 111) h0 dX5_spreadFrom_40 (by decide) (by omega) (fun c_5 => ?_) (fun c_5 => ?_)
        · exact absurd c_5 (by omega)
        · skip
          refine xaload_n h0 3 dX5_spreadFrom_43 rfl rfl ?_
          refine xiload_n h0 5 dX5_spreadFrom_44 rfl rfl ?_
          refine xaload_n h0 4 dX5_spreadFrom_45 rfl rfl ?_
          refine xgetN (C := RX2) (T := TX2) (N := 2) (ci := 2) (host := "AskAnotherFirst") (v := .int (nI (has ||| (2 ^ p)))) h0 hiX2 9 rfl rfl 0 (by decide) (List.mem_of_getElem? (i := 22) rfl) rfl dX5_spreadFrom_46 ?_
          refine xcallV_i (nn := 2) (w2 := fun u_ => ((wTown cI a T k mu tm dy) ++ [(s0, .inr (2, [.int (nI (has ||| (2 ^ p))), .int (nI mi)]))])) (wr := [(s0, .inr (2, [.int (nI (has ||| (2 ^ p))), .int (nI mi)]))]) (rest := []) h0 (c_X3_nextOf (xL κ) D cI cC a T k mu tm dy p (has ||| (2 ^ p)) hT (by exact hp) (by first | exact hH1 | exact hgA.1) (by first | omega | (have := hgA.2.1; omega)) (by omega)) gX5_spreadFrom_X3_nextOf (by decide +kernel) rfl rfl rfl ⟨by dsimp only [exR]; omega, by dsimp only [exR]; omega⟩ ⟨Nat.zero_le _, Nat.zero_le _⟩ (fun _ _ _ _ h => h) (fun _ _ _ _ _ _ _ => trivial) rfl (Nat.le_of_ble_eq_true rfl) (q0 := 0) rfl rfl rfl [0, 1, 2, 3, 4, 5, 6, 7, 8] [9] [1, 2, 3, 4, 5, 6, 7, 8, 9, 0] ⟨rfl, rfl, rfl, rfl, rfl⟩ (fun _ => ⟨rfl, rfl⟩) dX5_spreadFrom_49 (fun r_7 u_ hr_6 => ?_)
          subst hr_6
          refine xistore (lv' := [(7, .int (oI (nextS T p (has ||| (2 ^ p)) k mu))), (6, .int (nI 0)), (5, .int (nI 1)), (4, .int (-1)), (0, .ref (a 0)), (1, .ref s0), (2, .int (nI p)), (3, .int (nI d))]) h0 dX5_spreadFrom_52 (by decide) rfl ?_
          refine xiload h0 0 dX5_spreadFrom_54 rfl ?_
          refine xiconst (v := (-1)) h0 dX5_spreadFrom_56 (by decide) ?_
          refine xicmp_eq (tgt := 64) h0 dX5_spreadFrom_57 (by decide)  (fun c_8 => ?_) (fun c_8 => ?_)
          · skip
            have hnA : nextS T p (has ||| (2 ^ p)) k mu = none := oI_m (fun z e => by have := (nextS_in e).1; omega) c_8
            refine xiconst (v := (nI 0)) h0 dX5_spreadFrom_64 (by decide) ?_
            refine xistore (lv' := [(5, .int (nI 0)), (7, .int (oI (nextS T p (has ||| (2 ^ p)) k mu))), (6, .int (nI 0)), (4, .int (-1)), (0, .ref (a 0)), (1, .ref s0), (2, .int (nI p)), (3, .int (nI d))]) h0 dX5_spreadFrom_65 (by decide) rfl ?_
            refine xiload h0 0 dX5_spreadFrom_67 rfl ?_
            refine xnif_eq (tgt := 105) h0 dX5_spreadFrom_69 (by decide) (by omega) (fun c_9 => ?_) (fun c_9 => ?_)
            · skip
              refine xiinc (v := (nI 1)) (lv' := [(6, .int (nI 1)), (5, .int (nI 0)), (7, .int (oI (nextS T p (has ||| (2 ^ p)) k mu))), (4, .int (-1)), (0, .ref (a 0)), (1, .ref s0), (2, .int (nI p)), (3, .int (nI d))]) h0 2 dX5_spreadFrom_105 rfl (nI_add 0 1) (by decide) rfl ?_
              refine xgoto (tgt := 32) h0 dX5_spreadFrom_108 (by decide) ?_
              refine xiload h0 0 dX5_spreadFrom_32 rfl ?_
              refine xiconst (v := (nI 2)) h0 dX5_spreadFrom_34 (by decide) ?_
              refine xncmp_ge (tgt := 111) h0 dX5_spreadFrom_35 (by decide) (by omega) (by omega) (fun c_10 => ?_) (fun c_10 => ?_)
              · exact absurd c_10 (by omega)
              · skip
                refine xiload h0 1 dX5_spreadFrom_38 rfl ?_
                refine xnif_eq (tgt := 111) h0 dX5_spreadFrom_40 (by decide) (by omega) (fun c_11 => ?_) (fun c_11 => ?_)
                · skip
                  refine xaload_n h0 4 dX5_spreadFrom_111 rfl rfl ?_
                  refine xiload_n h0 6 dX5_spreadFrom_112 rfl rfl ?_
                  refine xiload h0 3 dX5_spreadFrom_113 rfl ?_
                  refine xcallV_i (nn := 2) (w2 := fun u_ => ((wTown cI a T k mu tm dy) ++ [(s0, .inr (2, [.int (nI (has ||| (2 ^ p))), .int (nI mi)]))])) (wr := [(s0, .inr (2, [.int (nI (has ||| (2 ^ p))), .int (nI mi)]))]) (rest := []) h0 (c_X3_said (xL κ) D cI cC a T k mu tm dy p none hT (by exact hp) (by intro z e; first | (cases e; done) | (cases e; first | exact hgA.2.2 | exact Nat.max_le.mpr ⟨hgA.2.2, hgB.2.2⟩))) gX5_spreadFrom_X3_said (by decide +kernel) rfl rfl rfl ⟨by dsimp only [exR]; omega, by dsimp only [exR]; omega⟩ ⟨Nat.zero_le _, Nat.zero_le _⟩ (fun _ _ _ _ h => h) (fun _ _ _ _ _ _ _ => trivial) rfl (Nat.le_of_ble_eq_true rfl) (q0 := 0) rfl rfl rfl [0, 1, 2, 3, 4, 5, 6, 7, 8] [9] [1, 2, 3, 4, 5, 6, 7, 8, 9, 0] ⟨rfl, rfl, rfl, rfl, rfl⟩ (fun _ => ⟨rfl, rfl⟩) dX5_spreadFrom_115 (fun r_13 u_ hr_12 => ?_)
                  subst hr_12
                  exact xiret h0 dX5_spreadFrom_118 () (by first | rw [grS_0 hnA] | rw [grS_1 hqA hnB] | rw [grS_2 hqA hqB]) (by first | (rw [grS_0 hnA]; rfl) | (rw [grS_1 hqA hnB]; first | rfl | (simp only [Nat.add_assoc]; done) | (simp only [Nat.add_assoc]; rfl)) | (rw [grS_2 hqA hqB]; first | rfl | (simp only [Nat.add_assoc]; done) | (simp only [Nat.add_assoc]; rfl)))
                · exact absurd c_11 (by omega)
            · exact absurd c_9 (by omega)
          · skip
            obtain ⟨q, hqA⟩ := oI_s c_8
            have hiA := nextS_in hqA
            refine xlvE (lv' := [(7, .int (nI q)), (6, .int (nI 0)), (5, .int (nI 1)), (4, .int (-1)), (0, .ref (a 0)), (1, .ref s0), (2, .int (nI p)), (3, .int (nI d))]) (by rw [hqA]; rfl) ?_
            have hcA := cdS_add (has ||| 2 ^ p) hH1 q (by omega) hiA.2.1
            have hdA := cdS_le ((has ||| 2 ^ p) ||| 2 ^ q)
            have hgA := grS_ok hT k mu (f - 1) (has ||| 2 ^ p) q hH1 hiA.1 hiA.2.1
            rw [show f - 1 + 1 = f by omega] at hgA
            refine xiconst (v := (nI 1)) h0 dX5_spreadFrom_60 (by decide) ?_
            refine xgoto (tgt := 65) h0 dX5_spreadFrom_61 (by decide) ?_
            refine xistore (lv' := [(5, .int (nI 1)), (7, .int (nI q)), (6, .int (nI 0)), (4, .int (-1)), (0, .ref (a 0)), (1, .ref s0), (2, .int (nI p)), (3, .int (nI d))]) h0 dX5_spreadFrom_65 (by decide) rfl ?_
            refine xiload h0 0 dX5_spreadFrom_67 rfl ?_
            refine xnif_eq (tgt := 105) h0 dX5_spreadFrom_69 (by decide) (by omega) (fun c_14 => ?_) (fun c_14 => ?_)
            · exact absurd c_14 (by omega)
            · skip
              refine xaload_n h0 5 dX5_spreadFrom_72 rfl rfl ?_
              refine xdup h0 dX5_spreadFrom_73 rfl ?_
              refine xgetN (C := RX2) (T := TX2) (N := 2) (ci := 2) (host := "AskAnotherFirst") (v := .int (nI mi)) h0 hiX2 9 rfl rfl 1 (by decide) (List.mem_of_getElem? (i := 23) rfl) rfl dX5_spreadFrom_74 ?_
              refine xaload_n h0 4 dX5_spreadFrom_77 rfl rfl ?_
              refine xiload_n h0 6 dX5_spreadFrom_78 rfl rfl ?_
              refine xiload h0 1 dX5_spreadFrom_79 rfl ?_
              refine xcallV_i (nn := 2) (w2 := fun u_ => ((wTown cI a T k mu tm dy) ++ [(s0, .inr (2, [.int (nI (has ||| (2 ^ p))), .int (nI mi)]))])) (wr := [(s0, .inr (2, [.int (nI (has ||| (2 ^ p))), .int (nI mi)]))]) (rest := [.int (nI mi), .ref s0]) h0 (c_X3_minutesFrom (xL κ) D cI cC a T k mu tm dy p q (by omega) (by exact hp) (by first | exact hiB.1 | exact hiA.1)) gX5_spreadFrom_X3_minutesFrom (by decide +kernel) rfl rfl rfl ⟨by dsimp only [exR]; omega, by dsimp only [exR]; omega⟩ ⟨Nat.zero_le _, Nat.zero_le _⟩ (fun _ _ _ _ h => h) (fun _ _ _ _ _ _ _ => trivial) rfl (Nat.le_of_ble_eq_true rfl) (q0 := 0) rfl rfl rfl [0, 1, 2, 3, 4, 5, 6, 7, 8] [9] [1, 2, 3, 4, 5, 6, 7, 8, 9, 0] ⟨rfl, rfl, rfl, rfl, rfl⟩ (fun _ => ⟨rfl, rfl⟩) dX5_spreadFrom_81 (fun r_16 u_ hr_15 => ?_)
              subst hr_15
              refine xiadd (v := (nI (mi + (T 4 (8 * p + q))))) h0 dX5_spreadFrom_84 (nI_add _ _) ?_
              refine xputN (ws' := ((wTown cI a T k mu tm dy) ++ [(s0, .inr (2, [.int (nI (has ||| (2 ^ p))), .int (nI (mi + (T 4 (8 * p + q))))]))])) (C := RX2) (T := TX2) (N := 2) (ci := 2) (ty := tyX2 1) (host := "AskAnotherFirst") h0 hiX2 tyX2 tyX2_ok nmX2 9 rfl rfl 1 (by decide) (List.mem_of_getElem? (i := 23) rfl) rfl (by decide +kernel) (rfl) (rfl) (Nat.le_of_ble_eq_true rfl) dX5_spreadFrom_85 rfl ?_
              refine xiload h0 3 dX5_spreadFrom_88 rfl ?_
              refine xaload_n h0 4 dX5_spreadFrom_90 rfl rfl ?_
              refine xaload_n h0 5 dX5_spreadFrom_91 rfl rfl ?_
              refine xiload h0 1 dX5_spreadFrom_92 rfl ?_
              refine xiload_n h0 7 dX5_spreadFrom_94 rfl rfl ?_
              refine xiconst (v := (nI 1)) h0 dX5_spreadFrom_95 (by decide) ?_
              refine xiadd (v := (nI (d + 1))) h0 dX5_spreadFrom_96 (nI_add _ _) ?_
              refine xcallS_i (nn := 4) (w2 := fun u_ => ((wTown cI a T k mu tm dy) ++ [(s0, .inr (2, [.int (nI ((grS T k mu f (has ||| (2 ^ p)) q).1)), .int (nI (mi + (T 4 (8 * p + q)) + (grS T k mu f (has ||| (2 ^ p)) q).2.1))]))])) (wr := []) (rest := [.int (-1)]) h0 (ih (xL κ) a T k mu tm dy s0 (has ||| (2 ^ p)) (mi + (T 4 (8 * p + q))) q (d + 1) hT hk hiA.1 (by first | exact hH1 | exact hgA.1) hiA.2.1 (by first | omega | (have := hgA.2.1; omega)) (by omega)) gX5_spreadFrom_X5_spreadFrom (by decide +kernel) rfl rfl rfl ⟨by dsimp only [exR]; omega, by dsimp only [exR]; omega⟩ ⟨Nat.zero_le _, Nat.zero_le _⟩ (fun _ _ _ _ h => h) (fun _ _ _ _ _ _ _ => trivial) rfl (Nat.le_of_ble_eq_true rfl) rfl [0, 1, 2, 3, 4, 5, 6, 7, 8, 9] [] [0, 1, 2, 3, 4, 5, 6, 7, 8, 9] ⟨rfl, rfl, rfl, rfl, rfl⟩ (fun _ => ⟨rfl, rfl⟩) dX5_spreadFrom_97 (fun r_18 u_ hr_17 => ?_)
              subst hr_17
              refine xmax (v := (nI ((grS T k mu f (has ||| (2 ^ p)) q).2.2))) h0 (List.mem_of_getElem? (i := 1) rfl) (List.mem_of_getElem? (i := 2) rfl) (List.mem_of_getElem? (i := 3) rfl) (List.mem_of_getElem? (i := 4) rfl) ⟨by dsimp only [exR]; omega, by simp only [exR, List.map_nil, List.sum_nil]; omega, Nat.zero_le _, Nat.zero_le _⟩ dX5_spreadFrom_100 (omx_n (by omega)) ?_
              refine xistore (lv' := [(4, .int (nI ((grS T k mu f (has ||| (2 ^ p)) q).2.2))), (5, .int (nI 1)), (7, .int (nI q)), (6, .int (nI 0)), (0, .ref (a 0)), (1, .ref s0), (2, .int (nI p)), (3, .int (nI d))]) h0 dX5_spreadFrom_103 (by decide) rfl ?_
              refine xiinc (v := (nI 1)) (lv' := [(6, .int (nI 1)), (4, .int (nI ((grS T k mu f (has ||| (2 ^ p)) q).2.2))), (5, .int (nI 1)), (7, .int (nI q)), (0, .ref (a 0)), (1, .ref s0), (2, .int (nI p)), (3, .int (nI d))]) h0 3 dX5_spreadFrom_105 rfl (nI_add 0 1) (by decide) rfl ?_
              refine xgoto (tgt := 32) h0 dX5_spreadFrom_108 (by decide) ?_
              refine xiload h0 0 dX5_spreadFrom_32 rfl ?_
              refine xiconst (v := (nI 2)) h0 dX5_spreadFrom_34 (by decide) ?_
              refine xncmp_ge (tgt := 111) h0 dX5_spreadFrom_35 (by decide) (by omega) (by omega) (fun c_19 => ?_) (fun c_19 => ?_)
              · exact absurd c_19 (by omega)
              · skip
                refine xiload h0 2 dX5_spreadFrom_38 rfl ?_
                refine xnif_eq (tgt := 111) h0 dX5_spreadFrom_40 (by decide) (by omega) (fun c_20 => ?_) (fun c_20 => ?_)
                · exact absurd c_20 (by omega)
                · skip
                  refine xaload_n h0 4 dX5_spreadFrom_43 rfl rfl ?_
                  refine xiload_n h0 6 dX5_spreadFrom_44 rfl rfl ?_
                  refine xaload_n h0 5 dX5_spreadFrom_45 rfl rfl ?_
                  refine xgetN (C := RX2) (T := TX2) (N := 2) (ci := 2) (host := "AskAnotherFirst") (v := .int (nI ((grS T k mu f (has ||| (2 ^ p)) q).1))) h0 hiX2 9 rfl rfl 0 (by decide) (List.mem_of_getElem? (i := 22) rfl) rfl dX5_spreadFrom_46 ?_
                  refine xcallV_i (nn := 2) (w2 := fun u_ => ((wTown cI a T k mu tm dy) ++ [(s0, .inr (2, [.int (nI ((grS T k mu f (has ||| (2 ^ p)) q).1)), .int (nI (mi + (T 4 (8 * p + q)) + (grS T k mu f (has ||| (2 ^ p)) q).2.1))]))])) (wr := [(s0, .inr (2, [.int (nI ((grS T k mu f (has ||| (2 ^ p)) q).1)), .int (nI (mi + (T 4 (8 * p + q)) + (grS T k mu f (has ||| (2 ^ p)) q).2.1))]))]) (rest := []) h0 (c_X3_nextOf (xL κ) D cI cC a T k mu tm dy p ((grS T k mu f (has ||| (2 ^ p)) q).1) hT (by exact hp) (by first | exact hH1 | exact hgA.1) (by first | omega | (have := hgA.2.1; omega)) (by omega)) gX5_spreadFrom_X3_nextOf (by decide +kernel) rfl rfl rfl ⟨by dsimp only [exR]; omega, by dsimp only [exR]; omega⟩ ⟨Nat.zero_le _, Nat.zero_le _⟩ (fun _ _ _ _ h => h) (fun _ _ _ _ _ _ _ => trivial) rfl (Nat.le_of_ble_eq_true rfl) (q0 := 0) rfl rfl rfl [0, 1, 2, 3, 4, 5, 6, 7, 8] [9] [1, 2, 3, 4, 5, 6, 7, 8, 9, 0] ⟨rfl, rfl, rfl, rfl, rfl⟩ (fun _ => ⟨rfl, rfl⟩) dX5_spreadFrom_49 (fun r_22 u_ hr_21 => ?_)
                  subst hr_21
                  refine xistore (lv' := [(7, .int (oI (nextS T p ((grS T k mu f (has ||| (2 ^ p)) q).1) k mu))), (6, .int (nI 1)), (4, .int (nI ((grS T k mu f (has ||| (2 ^ p)) q).2.2))), (5, .int (nI 1)), (0, .ref (a 0)), (1, .ref s0), (2, .int (nI p)), (3, .int (nI d))]) h0 dX5_spreadFrom_52 (by decide) rfl ?_
                  refine xiload h0 0 dX5_spreadFrom_54 rfl ?_
                  refine xiconst (v := (-1)) h0 dX5_spreadFrom_56 (by decide) ?_
                  refine xicmp_eq (tgt := 64) h0 dX5_spreadFrom_57 (by decide)  (fun c_23 => ?_) (fun c_23 => ?_)
                  · skip
                    have hnB : nextS T p ((grS T k mu f (has ||| (2 ^ p)) q).1) k mu = none := oI_m (fun z e => by have := (nextS_in e).1; omega) c_23
                    refine xiconst (v := (nI 0)) h0 dX5_spreadFrom_64 (by decide) ?_
                    refine xistore (lv' := [(5, .int (nI 0)), (7, .int (oI (nextS T p ((grS T k mu f (has ||| (2 ^ p)) q).1) k mu))), (6, .int (nI 1)), (4, .int (nI ((grS T k mu f (has ||| (2 ^ p)) q).2.2))), (0, .ref (a 0)), (1, .ref s0), (2, .int (nI p)), (3, .int (nI d))]) h0 dX5_spreadFrom_65 (by decide) rfl ?_
                    refine xiload h0 0 dX5_spreadFrom_67 rfl ?_
                    refine xnif_eq (tgt := 105) h0 dX5_spreadFrom_69 (by decide) (by omega) (fun c_24 => ?_) (fun c_24 => ?_)
                    · skip
                      refine xiinc (v := (nI 2)) (lv' := [(6, .int (nI 2)), (5, .int (nI 0)), (7, .int (oI (nextS T p ((grS T k mu f (has ||| (2 ^ p)) q).1) k mu))), (4, .int (nI ((grS T k mu f (has ||| (2 ^ p)) q).2.2))), (0, .ref (a 0)), (1, .ref s0), (2, .int (nI p)), (3, .int (nI d))]) h0 2 dX5_spreadFrom_105 rfl (nI_add 1 1) (by decide) rfl ?_
                      refine xgoto (tgt := 32) h0 dX5_spreadFrom_108 (by decide) ?_
                      refine xiload h0 0 dX5_spreadFrom_32 rfl ?_
                      refine xiconst (v := (nI 2)) h0 dX5_spreadFrom_34 (by decide) ?_
                      refine xncmp_ge (tgt := 111) h0 dX5_spreadFrom_35 (by decide) (by omega) (by omega) (fun c_25 => ?_) (fun c_25 => ?_)
                      · skip
                        refine xaload_n h0 4 dX5_spreadFrom_111 rfl rfl ?_
                        refine xiload_n h0 6 dX5_spreadFrom_112 rfl rfl ?_
                        refine xiload h0 3 dX5_spreadFrom_113 rfl ?_
                        refine xcallV_i (nn := 2) (w2 := fun u_ => ((wTown cI a T k mu tm dy) ++ [(s0, .inr (2, [.int (nI ((grS T k mu f (has ||| (2 ^ p)) q).1)), .int (nI (mi + (T 4 (8 * p + q)) + (grS T k mu f (has ||| (2 ^ p)) q).2.1))]))])) (wr := [(s0, .inr (2, [.int (nI ((grS T k mu f (has ||| (2 ^ p)) q).1)), .int (nI (mi + (T 4 (8 * p + q)) + (grS T k mu f (has ||| (2 ^ p)) q).2.1))]))]) (rest := []) h0 (c_X3_said (xL κ) D cI cC a T k mu tm dy p (some ((grS T k mu f (has ||| (2 ^ p)) q).2.2)) hT (by exact hp) (by intro z e; first | (cases e; done) | (cases e; first | exact hgA.2.2 | exact Nat.max_le.mpr ⟨hgA.2.2, hgB.2.2⟩))) gX5_spreadFrom_X3_said (by decide +kernel) rfl rfl rfl ⟨by dsimp only [exR]; omega, by dsimp only [exR]; omega⟩ ⟨Nat.zero_le _, Nat.zero_le _⟩ (fun _ _ _ _ h => h) (fun _ _ _ _ _ _ _ => trivial) rfl (Nat.le_of_ble_eq_true rfl) (q0 := 0) rfl rfl rfl [0, 1, 2, 3, 4, 5, 6, 7, 8] [9] [1, 2, 3, 4, 5, 6, 7, 8, 9, 0] ⟨rfl, rfl, rfl, rfl, rfl⟩ (fun _ => ⟨rfl, rfl⟩) dX5_spreadFrom_115 (fun r_27 u_ hr_26 => ?_)
                        subst hr_26
                        exact xiret h0 dX5_spreadFrom_118 () (by first | rw [grS_0 hnA] | rw [grS_1 hqA hnB] | rw [grS_2 hqA hqB]) (by first | (rw [grS_0 hnA]; rfl) | (rw [grS_1 hqA hnB]; first | rfl | (simp only [Nat.add_assoc]; done) | (simp only [Nat.add_assoc]; rfl)) | (rw [grS_2 hqA hqB]; first | rfl | (simp only [Nat.add_assoc]; done) | (simp only [Nat.add_assoc]; rfl)))
                      · exact absurd c_25 (by omega)
                    · exact absurd c_24 (by omega)
                  · skip
                    obtain ⟨q2, hqB⟩ := oI_s c_23
                    have hiB := nextS_in hqB
                    refine xlvE (lv' := [(7, .int (nI q2)), (6, .int (nI 1)), (4, .int (nI ((grS T k mu f (has ||| (2 ^ p)) q).2.2))), (5, .int (nI 1)), (0, .ref (a 0)), (1, .ref s0), (2, .int (nI p)), (3, .int (nI d))]) (by rw [hqB]; rfl) ?_
                    have hcB := cdS_add (grS T k mu f (has ||| 2 ^ p) q).1 hgA.1 q2 (by omega) hiB.2.1
                    have hdB := cdS_le ((grS T k mu f (has ||| 2 ^ p) q).1 ||| 2 ^ q2)
                    have hgA2 := hgA.2.1
                    have hgB := grS_ok hT k mu (f - 1) (grS T k mu f (has ||| 2 ^ p) q).1 q2 hgA.1 hiB.1 hiB.2.1
                    rw [show f - 1 + 1 = f by omega] at hgB
                    refine xiconst (v := (nI 1)) h0 dX5_spreadFrom_60 (by decide) ?_
                    refine xgoto (tgt := 65) h0 dX5_spreadFrom_61 (by decide) ?_
                    refine xistore (lv' := [(5, .int (nI 1)), (7, .int (nI q2)), (6, .int (nI 1)), (4, .int (nI ((grS T k mu f (has ||| (2 ^ p)) q).2.2))), (0, .ref (a 0)), (1, .ref s0), (2, .int (nI p)), (3, .int (nI d))]) h0 dX5_spreadFrom_65 (by decide) rfl ?_
                    refine xiload h0 0 dX5_spreadFrom_67 rfl ?_
                    refine xnif_eq (tgt := 105) h0 dX5_spreadFrom_69 (by decide) (by omega) (fun c_28 => ?_) (fun c_28 => ?_)
                    · exact absurd c_28 (by omega)
                    · skip
                      refine xaload_n h0 5 dX5_spreadFrom_72 rfl rfl ?_
                      refine xdup h0 dX5_spreadFrom_73 rfl ?_
                      refine xgetN (C := RX2) (T := TX2) (N := 2) (ci := 2) (host := "AskAnotherFirst") (v := .int (nI (mi + (T 4 (8 * p + q)) + (grS T k mu f (has ||| (2 ^ p)) q).2.1))) h0 hiX2 9 rfl rfl 1 (by decide) (List.mem_of_getElem? (i := 23) rfl) rfl dX5_spreadFrom_74 ?_
                      refine xaload_n h0 4 dX5_spreadFrom_77 rfl rfl ?_
                      refine xiload_n h0 6 dX5_spreadFrom_78 rfl rfl ?_
                      refine xiload h0 1 dX5_spreadFrom_79 rfl ?_
                      refine xcallV_i (nn := 2) (w2 := fun u_ => ((wTown cI a T k mu tm dy) ++ [(s0, .inr (2, [.int (nI ((grS T k mu f (has ||| (2 ^ p)) q).1)), .int (nI (mi + (T 4 (8 * p + q)) + (grS T k mu f (has ||| (2 ^ p)) q).2.1))]))])) (wr := [(s0, .inr (2, [.int (nI ((grS T k mu f (has ||| (2 ^ p)) q).1)), .int (nI (mi + (T 4 (8 * p + q)) + (grS T k mu f (has ||| (2 ^ p)) q).2.1))]))]) (rest := [.int (nI (mi + (T 4 (8 * p + q)) + (grS T k mu f (has ||| (2 ^ p)) q).2.1)), .ref s0]) h0 (c_X3_minutesFrom (xL κ) D cI cC a T k mu tm dy p q2 (by omega) (by exact hp) (by first | exact hiB.1 | exact hiA.1)) gX5_spreadFrom_X3_minutesFrom (by decide +kernel) rfl rfl rfl ⟨by dsimp only [exR]; omega, by dsimp only [exR]; omega⟩ ⟨Nat.zero_le _, Nat.zero_le _⟩ (fun _ _ _ _ h => h) (fun _ _ _ _ _ _ _ => trivial) rfl (Nat.le_of_ble_eq_true rfl) (q0 := 0) rfl rfl rfl [0, 1, 2, 3, 4, 5, 6, 7, 8] [9] [1, 2, 3, 4, 5, 6, 7, 8, 9, 0] ⟨rfl, rfl, rfl, rfl, rfl⟩ (fun _ => ⟨rfl, rfl⟩) dX5_spreadFrom_81 (fun r_30 u_ hr_29 => ?_)
                      subst hr_29
                      refine xiadd (v := (nI ((mi + (T 4 (8 * p + q)) + (grS T k mu f (has ||| (2 ^ p)) q).2.1) + (T 4 (8 * p + q2))))) h0 dX5_spreadFrom_84 (nI_add _ _) ?_
                      refine xputN (ws' := ((wTown cI a T k mu tm dy) ++ [(s0, .inr (2, [.int (nI ((grS T k mu f (has ||| (2 ^ p)) q).1)), .int (nI ((mi + (T 4 (8 * p + q)) + (grS T k mu f (has ||| (2 ^ p)) q).2.1) + (T 4 (8 * p + q2))))]))])) (C := RX2) (T := TX2) (N := 2) (ci := 2) (ty := tyX2 1) (host := "AskAnotherFirst") h0 hiX2 tyX2 tyX2_ok nmX2 9 rfl rfl 1 (by decide) (List.mem_of_getElem? (i := 23) rfl) rfl (by decide +kernel) (rfl) (rfl) (Nat.le_of_ble_eq_true rfl) dX5_spreadFrom_85 rfl ?_
                      refine xiload h0 3 dX5_spreadFrom_88 rfl ?_
                      refine xaload_n h0 4 dX5_spreadFrom_90 rfl rfl ?_
                      refine xaload_n h0 5 dX5_spreadFrom_91 rfl rfl ?_
                      refine xiload h0 1 dX5_spreadFrom_92 rfl ?_
                      refine xiload_n h0 7 dX5_spreadFrom_94 rfl rfl ?_
                      refine xiconst (v := (nI 1)) h0 dX5_spreadFrom_95 (by decide) ?_
                      refine xiadd (v := (nI (d + 1))) h0 dX5_spreadFrom_96 (nI_add _ _) ?_
                      refine xcallS_i (nn := 4) (w2 := fun u_ => ((wTown cI a T k mu tm dy) ++ [(s0, .inr (2, [.int (nI ((grS T k mu f ((grS T k mu f (has ||| (2 ^ p)) q).1) q2).1)), .int (nI ((mi + (T 4 (8 * p + q)) + (grS T k mu f (has ||| (2 ^ p)) q).2.1) + (T 4 (8 * p + q2)) + (grS T k mu f ((grS T k mu f (has ||| (2 ^ p)) q).1) q2).2.1))]))])) (wr := []) (rest := [.int (nI ((grS T k mu f (has ||| (2 ^ p)) q).2.2))]) h0 (ih (xL κ) a T k mu tm dy s0 ((grS T k mu f (has ||| (2 ^ p)) q).1) ((mi + (T 4 (8 * p + q)) + (grS T k mu f (has ||| (2 ^ p)) q).2.1) + (T 4 (8 * p + q2))) q2 (d + 1) hT hk hiB.1 (by first | exact hH1 | exact hgA.1) hiB.2.1 (by first | omega | (have := hgA.2.1; omega)) (by omega)) gX5_spreadFrom_X5_spreadFrom (by decide +kernel) rfl rfl rfl ⟨by dsimp only [exR]; omega, by dsimp only [exR]; omega⟩ ⟨Nat.zero_le _, Nat.zero_le _⟩ (fun _ _ _ _ h => h) (fun _ _ _ _ _ _ _ => trivial) rfl (Nat.le_of_ble_eq_true rfl) rfl [0, 1, 2, 3, 4, 5, 6, 7, 8, 9] [] [0, 1, 2, 3, 4, 5, 6, 7, 8, 9] ⟨rfl, rfl, rfl, rfl, rfl⟩ (fun _ => ⟨rfl, rfl⟩) dX5_spreadFrom_97 (fun r_32 u_ hr_31 => ?_)
                      subst hr_31
                      refine xmax (v := (nI (Nat.max ((grS T k mu f (has ||| (2 ^ p)) q).2.2) ((grS T k mu f ((grS T k mu f (has ||| (2 ^ p)) q).1) q2).2.2)))) h0 (List.mem_of_getElem? (i := 1) rfl) (List.mem_of_getElem? (i := 2) rfl) (List.mem_of_getElem? (i := 3) rfl) (List.mem_of_getElem? (i := 4) rfl) ⟨by dsimp only [exR]; omega, by simp only [exR, List.map_nil, List.sum_nil]; omega, Nat.zero_le _, Nat.zero_le _⟩ dX5_spreadFrom_100 (nI_max (by omega) (by omega)) ?_
                      refine xistore (lv' := [(4, .int (nI (Nat.max ((grS T k mu f (has ||| (2 ^ p)) q).2.2) ((grS T k mu f ((grS T k mu f (has ||| (2 ^ p)) q).1) q2).2.2)))), (5, .int (nI 1)), (7, .int (nI q2)), (6, .int (nI 1)), (0, .ref (a 0)), (1, .ref s0), (2, .int (nI p)), (3, .int (nI d))]) h0 dX5_spreadFrom_103 (by decide) rfl ?_
                      refine xiinc (v := (nI 2)) (lv' := [(6, .int (nI 2)), (4, .int (nI (Nat.max ((grS T k mu f (has ||| (2 ^ p)) q).2.2) ((grS T k mu f ((grS T k mu f (has ||| (2 ^ p)) q).1) q2).2.2)))), (5, .int (nI 1)), (7, .int (nI q2)), (0, .ref (a 0)), (1, .ref s0), (2, .int (nI p)), (3, .int (nI d))]) h0 3 dX5_spreadFrom_105 rfl (nI_add 1 1) (by decide) rfl ?_
                      refine xgoto (tgt := 32) h0 dX5_spreadFrom_108 (by decide) ?_
                      refine xiload h0 0 dX5_spreadFrom_32 rfl ?_
                      refine xiconst (v := (nI 2)) h0 dX5_spreadFrom_34 (by decide) ?_
                      refine xncmp_ge (tgt := 111) h0 dX5_spreadFrom_35 (by decide) (by omega) (by omega) (fun c_33 => ?_) (fun c_33 => ?_)
                      · skip
                        refine xaload_n h0 4 dX5_spreadFrom_111 rfl rfl ?_
                        refine xiload_n h0 6 dX5_spreadFrom_112 rfl rfl ?_
                        refine xiload h0 1 dX5_spreadFrom_113 rfl ?_
                        refine xcallV_i (nn := 2) (w2 := fun u_ => ((wTown cI a T k mu tm dy) ++ [(s0, .inr (2, [.int (nI ((grS T k mu f ((grS T k mu f (has ||| (2 ^ p)) q).1) q2).1)), .int (nI ((mi + (T 4 (8 * p + q)) + (grS T k mu f (has ||| (2 ^ p)) q).2.1) + (T 4 (8 * p + q2)) + (grS T k mu f ((grS T k mu f (has ||| (2 ^ p)) q).1) q2).2.1))]))])) (wr := [(s0, .inr (2, [.int (nI ((grS T k mu f ((grS T k mu f (has ||| (2 ^ p)) q).1) q2).1)), .int (nI ((mi + (T 4 (8 * p + q)) + (grS T k mu f (has ||| (2 ^ p)) q).2.1) + (T 4 (8 * p + q2)) + (grS T k mu f ((grS T k mu f (has ||| (2 ^ p)) q).1) q2).2.1))]))]) (rest := []) h0 (c_X3_said (xL κ) D cI cC a T k mu tm dy p (some (Nat.max ((grS T k mu f (has ||| (2 ^ p)) q).2.2) ((grS T k mu f ((grS T k mu f (has ||| (2 ^ p)) q).1) q2).2.2))) hT (by exact hp) (by intro z e; first | (cases e; done) | (cases e; first | exact hgA.2.2 | exact Nat.max_le.mpr ⟨hgA.2.2, hgB.2.2⟩))) gX5_spreadFrom_X3_said (by decide +kernel) rfl rfl rfl ⟨by dsimp only [exR]; omega, by dsimp only [exR]; omega⟩ ⟨Nat.zero_le _, Nat.zero_le _⟩ (fun _ _ _ _ h => h) (fun _ _ _ _ _ _ _ => trivial) rfl (Nat.le_of_ble_eq_true rfl) (q0 := 0) rfl rfl rfl [0, 1, 2, 3, 4, 5, 6, 7, 8] [9] [1, 2, 3, 4, 5, 6, 7, 8, 9, 0] ⟨rfl, rfl, rfl, rfl, rfl⟩ (fun _ => ⟨rfl, rfl⟩) dX5_spreadFrom_115 (fun r_35 u_ hr_34 => ?_)
                        subst hr_34
                        exact xiret h0 dX5_spreadFrom_118 () (by first | rw [grS_0 hnA] | rw [grS_1 hqA hnB] | rw [grS_2 hqA hqB]) (by first | (rw [grS_0 hnA]; rfl) | (rw [grS_1 hqA hnB]; first | rfl | (simp only [Nat.add_assoc]; done) | (simp only [Nat.add_assoc]; rfl)) | (rw [grS_2 hqA hqB]; first | rfl | (simp only [Nat.add_assoc]; done) | (simp only [Nat.add_assoc]; rfl)))
                      · exact absurd c_33 (by omega)
theorem c_X5_spreadFrom (l : Launch) (D : va_G) (cI cC : ClassId) (f : Nat) (a : Nat → Nat) (T : TT) (k mu tm dy : Nat) (s0 has mi : Nat) (p d : Nat) (hT : TOK T) (hk : k < 256) (hp : p < T 5 0) (hh : has < 256) (hbt : has.testBit p = false) (hd : d ≤ cdS has) (hf : d + f = 8) : XMi l yX5_spreadFrom wsX5_spreadFrom (exR f) D (xT cI cC) xE0 ((wTown cI a T k mu tm dy) ++ [(s0, .inr (2, [.int (nI has), .int (nI mi)]))]) [.ref (a 0), .ref s0, .int (nI p), .int (nI d)] (S := Unit) (fun r _ => r = nI (grS T k mu f has p).2.2) (fun _ => wTown cI a T k mu tm dy ++ [(s0, .inr (2, [.int (nI (grS T k mu f has p).1), .int (nI (mi + (grS T k mu f has p).2.1))]))]) 0 0 := r_X5_spreadFrom D cI cC f l a T k mu tm dy s0 has mi p d hT hk hp hh hbt hd hf
