/-! THE REFERENCE: reading -/
def wlN (b : Nat) : Nat := if b = 0 then 1 else 0
theorem wl_le (b : Nat) : wlN b ≤ 1 := by unfold wlN; split <;> omega
theorem wl_0 {b : Nat} (h : wlN b = 0) (hb : b = 0 ∨ b = 1) : b = 1 := by
  rcases hb with z | z
  · rw [z] at h; exact absurd h (by decide)
  · exact z
theorem wl_1 {b : Nat} (h : 0 < wlN b) : b = 0 := by
  by_cases z : b = 0
  · exact z
  · unfold wlN at h; rw [if_neg z] at h; exact absurd h (Nat.lt_irrefl 0)
theorem wl_z {b : Nat} (h : b = 0) : wlN b = 1 := if_pos h
section RX6
variable {G : Nat → Nat} {sl : Nat} {σ : Nat × Nat}
theorem one_of {l : List Nat} {o : Option Nat} (h1 : σ.2 = 0) (h2 : σ.1 < sl) (h : ixS l (G σ.1) = o) : oneS G sl l σ = o := by unfold oneS; rw [if_pos ⟨h1, h2⟩]; exact h
theorem one_out {l : List Nat} (h : ¬ (σ.2 = 0 ∧ σ.1 < sl)) : oneS G sl l σ = none := if_neg h
theorem ix1_y {l : List Nat} {c x : Nat} (hl : l = [c]) (h : x = c) : ixS l x = some 0 := by subst hl; subst h; exact ixS_y (k := 0) (Nat.zero_lt_one) rfl rfl
theorem ix1_n {l : List Nat} {c x : Nat} (hl : l = [c]) (h : ¬ x = c) : ixS l x = none := by subst hl; exact ixK_n (k := 0) rfl (fun z => h z.symm)
theorem num_st {n m : Nat} (hnm : n ≤ m) (h : oneS G sl (strN 5) (σ.1 + n, σ.2) = none) : numK G sl σ m = numK G sl σ n := by
  have := numK_stop (Or.inr h) (m - n)
  rwa [show n + (m - n) = m by omega] at this
theorem rd1_ok {f p : Nat} (h : (rd1 G sl (f + 1) p).1.2 = 0) : (srT G sl (p, 0)).2 = 0 ∧ ((srT G sl (p, 0)).1 < sl → (rd1 G sl f (srT G sl (p, 0)).1).1.2 = 0) := by
  by_cases z : (srT G sl (p, 0)).2 = 0 ∧ (srT G sl (p, 0)).1 < sl
  · rw [rd1_g z] at h; exact ⟨z.1, fun _ => h⟩
  · rw [rd1_e z] at h; exact ⟨h, fun y => absurd ⟨h, y⟩ z⟩
theorem srF_ap (T : TT) (F F2 : Nat → Nat) : apF T (srS G sl σ) (srF G sl σ F) = apF T (srS G sl σ) (srF G sl σ F2) := ap_F T _ F F2
theorem srF_fit (n : Nat) (F F2 : Nat → Nat) : fitD n (srS G sl σ) (srF G sl σ F) ↔ fitD n (srS G sl σ) (srF G sl σ F2) := fit_F n _ F F2
theorem srF_lt (F : Nat → Nat) (h0 : srS G sl σ = 0 → True) {n : Nat} (hn : n ≤ 8) (hf : fitD n (srS G sl σ) (srF G sl σ F)) (hs : srS G sl σ ≠ 0) (h3 : srS G sl σ ≠ 3) : srF G sl σ F 0 < 8 ∧ srF G sl σ F 1 < 8 := by
  rcases hf with z | z | z
  · exact absurd z.1 hs
  · exact absurd z.1 h3
  · exact ⟨by omega, by omega⟩
theorem srF_31 (F : Nat → Nat) (hs : srS G sl σ = 0 ∨ srS G sl σ = 3 ∨ (srS G sl σ ≠ 0 ∧ srS G sl σ ≠ 3)) : True := trivial
end RX6
/-- the fields that count are small -/
def fbd (s : Nat) (F : Nat → Nat) : Prop := (s = 0 → F 2 < 2 ^ 31) ∧ (s = 3 → F 0 < 2 ^ 31) ∧ (s ≠ 0 → s ≠ 3 → F 0 < 2 ^ 31 ∧ F 1 < 2 ^ 31 ∧ F 2 < 2 ^ 31)
theorem srF_4 {G : Nat → Nat} {sl : Nat} {σ : Nat × Nat} {F : Nat → Nat} : fbd (srS G sl σ) (srF G sl σ F) := by
  have hv : ∀ m τ, m ≤ 3 → numV G sl m τ < 2 ^ 31 := fun m τ hm => Nat.lt_trans (numV_lt hm) (by decide)
  refine ⟨fun h => ?_, fun h => ?_, fun h0 h3 => ?_⟩
  · rw [srF_p F h]; exact hv 3 _ (by decide)
  · rw [srF_l F h]; exact hv 1 _ (by decide)
  · rw [srF_m F h0 h3]; exact ⟨hv 1 _ (by decide), hv 1 _ (by decide), hv 2 _ (by decide)⟩
theorem wl_0_ {b : Nat} (h : 0 < wlN b) : b = 0 := wl_1 h

set_option maxHeartbeats 4000000 in
set_option maxRecDepth 100000 in
theorem c_X6_comes (l : Launch) (D : va_G) (cI cC : ClassId) (md : Nat → Nat) (T : TT) (k tm dy : Nat) (P : TT) (pk ptm pdy hpi : Nat) (tg : Nat → Nat) (tl : Nat) (R : Nat → Nat) (sg : Nat → Nat) (sl : Nat) (u0 : ScmT) (σ : Nat × Nat) (c : Nat) (hsl : sl ≤ 64) (hsg : ∀ j, sg j < 256) (hσ : σ.1 ≤ sl) (hσb : σ.2 = 0 ∨ σ.2 = 1) (hc : c < 256) : XMi l yX6_comes wsX6_comes ({ frames := 0, cells := 0, slots := 0, locals := 0 } : Room) D (xT cI cC) xE0 (wM cI cC md T k tm dy P pk ptm pdy hpi tg tl R sg sl (upN (upN u0.1 24 σ.1) 25 (wlN σ.2), u0.2.1, u0.2.2)) [.ref (md 1), .int (nI c)] (S := Unit) (fun r _ => r = bI (σ.1 < sl ∧ sg σ.1 = c)) (fun _ => (wM cI cC md T k tm dy P pk ptm pdy hpi tg tl R sg sl (upN (upN u0.1 24 σ.1) 25 (wlN σ.2), u0.2.1, u0.2.2))) 0 0 := by
  refine xMet_i (cc := cX6_comes) (nL := 2) (ret := some .boolean) (by decide +kernel) rfl (Nat.le_of_ble_eq_true rfl) (fun κ A h0 hn0 hE => ?_)
  have hiX6 : ∀ w ∈ u_ws RX6 TX6 52, w ∈ wsX6_comes := by decide +kernel
  refine xlv (lv' := [(0, .ref (md 1)), (1, .int (nI c))]) [0, 1] rfl ?_
  refine xaload_n h0 0 dX6_comes_0 rfl rfl ?_
  refine xget (C := RX6) (T := TX6) (N := 52) (ci := 6) (v := .int (nI σ.1)) h0 hiX6 0 rfl rfl 24 (by decide) (List.mem_of_getElem? (i := 1) rfl) rfl dX6_comes_1 ?_
  refine xaload_n h0 0 dX6_comes_4 rfl rfl ?_
  refine xget (C := RX6) (T := TX6) (N := 52) (ci := 6) (v := .int (nI sl)) h0 hiX6 0 rfl rfl 23 (by decide) (List.mem_of_getElem? (i := 2) rfl) rfl dX6_comes_5 ?_
  refine xncmp_ge (tgt := 28) h0 dX6_comes_8 (by decide) (by omega) (by omega) (fun c_1 => ?_) (fun c_1 => ?_)
  · skip
    refine xiconst (v := (nI 0)) h0 dX6_comes_28 (by decide) ?_
    exact xzret h0 dX6_comes_29 nar_n0 () (by exact (bI_f (by first | exact ⟨by omega, by assumption⟩ | exact fun z => absurd z.1 (by omega) | exact fun z => absurd z.2 (by assumption))).symm) rfl
  · skip
    refine xaload_n h0 0 dX6_comes_11 rfl rfl ?_
    refine xget (C := RX6) (T := TX6) (N := 52) (ci := 6) (v := .ref (md 22)) h0 hiX6 0 rfl rfl 22 (by decide) (List.mem_of_getElem? (i := 3) rfl) rfl dX6_comes_12 ?_
    refine xaload_n h0 0 dX6_comes_15 rfl rfl ?_
    refine xget (C := RX6) (T := TX6) (N := 52) (ci := 6) (v := .int (nI σ.1)) h0 hiX6 0 rfl rfl 24 (by decide) (List.mem_of_getElem? (i := 1) rfl) rfl dX6_comes_16 ?_
    refine xiald (v := (nI (sg σ.1))) h0 12 0 rfl rfl (by omega) (by decide) dX6_comes_19 (rfl) ?_
    refine xiload_n h0 1 dX6_comes_20 rfl rfl ?_
    refine xncmp_ne (tgt := 28) h0 dX6_comes_21 (by decide) (by first | omega | (have := hsg σ.1; omega)) (by first | omega | (have := hsg σ.1; omega)) (fun c_2 => ?_) (fun c_2 => ?_)
    · skip
      refine xiconst (v := (nI 0)) h0 dX6_comes_28 (by decide) ?_
      exact xzret h0 dX6_comes_29 nar_n0 () (by exact (bI_f (by first | exact ⟨by omega, by assumption⟩ | exact fun z => absurd z.1 (by omega) | exact fun z => absurd z.2 (by assumption))).symm) rfl
    · skip
      refine xiconst (v := (nI 1)) h0 dX6_comes_24 (by decide) ?_
      refine xgoto (tgt := 29) h0 dX6_comes_25 (by decide) ?_
      exact xzret h0 dX6_comes_29 nar_n1 () (by exact (bI_t (by first | exact ⟨by omega, by assumption⟩ | exact fun z => absurd z.1 (by omega) | exact fun z => absurd z.2 (by assumption))).symm) rfl
set_option maxHeartbeats 4000000 in
set_option maxRecDepth 100000 in
theorem c_X6_expect (l : Launch) (D : va_G) (cI cC : ClassId) (md : Nat → Nat) (T : TT) (k tm dy : Nat) (P : TT) (pk ptm pdy hpi : Nat) (tg : Nat → Nat) (tl : Nat) (R : Nat → Nat) (sg : Nat → Nat) (sl : Nat) (u0 : ScmT) (σ : Nat × Nat) (i c : Nat) (hsl : sl ≤ 64) (hsg : ∀ j, sg j < 256) (hσ : σ.1 ≤ sl) (hσb : σ.2 = 0 ∨ σ.2 = 1) (hic : strN i = [c]) (hc : c < 256) : XMv l yX6_expect wsX6_expect ({ frames := 1, cells := 0, slots := 0, locals := 21 } : Room) D (xT cI cC) xE0 (wM cI cC md T k tm dy P pk ptm pdy hpi tg tl R sg sl (upN (upN u0.1 24 σ.1) 25 (wlN σ.2), u0.2.1, u0.2.2)) [.ref (md 1), .int (nI c)] (S := Unit) (fun _ => True) (fun _ => wM cI cC md T k tm dy P pk ptm pdy hpi tg tl R sg sl (upN (upN u0.1 24 ((oneT sg sl (strN i) σ).1)) 25 (wlN (oneT sg sl (strN i) σ).2), u0.2.1, u0.2.2)) 0 0 := by
  refine xMet_v (cc := cX6_expect) (nL := 2)  (by decide +kernel) rfl (Nat.le_of_ble_eq_true rfl) (fun κ A h0 hn0 hE => ?_)
  have hiX6 : ∀ w ∈ u_ws RX6 TX6 52, w ∈ wsX6_expect := by decide +kernel
  refine xlv (lv' := [(0, .ref (md 1)), (1, .int (nI c))]) [0, 1] rfl ?_
  refine xaload_n h0 0 dX6_expect_0 rfl rfl ?_
  refine xget (C := RX6) (T := TX6) (N := 52) (ci := 6) (v := .int (nI (wlN σ.2))) h0 hiX6 0 rfl rfl 25 (by decide) (List.mem_of_getElem? (i := 1) rfl) rfl dX6_expect_1 ?_
  refine xnif_eq (tgt := 33) h0 dX6_expect_4 (by decide) (by first | omega | exact Nat.lt_of_le_of_lt (wl_le _) (by decide)) (fun c_1 => ?_) (fun c_1 => ?_)
  · skip
    have hk := wl_0 c_1 hσb
    exact xvret h0 dX6_expect_33 () (by trivial) (by first | (rw [oneT_s hq, hs0]; first | done | rfl) | (rw [oneT_n hq]; first | done | rfl) | (rw [oneT_k hk]; first | done | rfl))
  · skip
    have hs0 := wl_1 c_1
    refine xaload_n h0 0 dX6_expect_7 rfl rfl ?_
    refine xiload_n h0 1 dX6_expect_8 rfl rfl ?_
    refine xcallV_i (nn := 1) (w2 := fun u_ => (wM cI cC md T k tm dy P pk ptm pdy hpi tg tl R sg sl (upN (upN u0.1 24 σ.1) 25 (wlN σ.2), u0.2.1, u0.2.2))) (wr := []) (rest := []) h0 (c_X6_comes (xL κ) D cI cC md T k tm dy P pk ptm pdy hpi tg tl R sg sl u0 σ c hsl hsg hσ hσb (by exact hc)) gX6_expect_X6_comes (by decide +kernel) rfl rfl rfl ⟨Nat.le_of_ble_eq_true rfl, Nat.le_of_ble_eq_true rfl⟩ ⟨by decide, by decide⟩ (fun _ _ _ _ h => h) (fun _ _ _ _ _ _ _ => trivial) rfl (Nat.le_of_ble_eq_true rfl) (q0 := 0) rfl rfl rfl [0, 1, 2, 3, 4, 5, 6, 7, 8, 9, 10, 11, 12, 13, 14, 15, 16, 17, 18, 19, 20, 21] [] [0, 1, 2, 3, 4, 5, 6, 7, 8, 9, 10, 11, 12, 13, 14, 15, 16, 17, 18, 19, 20, 21] ⟨rfl, rfl, rfl, rfl, rfl⟩ (fun _ => ⟨rfl, rfl⟩) dX6_expect_9 (fun r_3 u_ hr_2 => ?_)
    subst hr_2
    refine xbif_eq (tgt := 28) h0 dX6_expect_12 (by decide)  (fun c_4 => ?_) (fun c_4 => ?_)
    · skip
      have hq : oneS sg sl (strN i) σ = none := by
          by_cases z : σ.1 < sl
          · exact one_of hs0 z (ix1_n hic (fun y => c_4 ⟨z, y⟩))
          · exact one_out (fun y => z y.2)
      refine xaload_n h0 0 dX6_expect_28 rfl rfl ?_
      refine xiconst (v := (nI 0)) h0 dX6_expect_29 (by decide) ?_
      refine xput (ws' := (wM cI cC md T k tm dy P pk ptm pdy hpi tg tl R sg sl (upN (upN u0.1 24 σ.1) 25 0, u0.2.1, u0.2.2))) (C := RX6) (T := TX6) (N := 52) (ci := 6) (ty := tyX6 25) h0 hiX6 tyX6 tyX6_ok nmX6 0 rfl rfl 25 (by decide) (List.mem_of_getElem? (i := 1) rfl) rfl (by decide +kernel) (rfl) (rfl) (Nat.le_of_ble_eq_true rfl) dX6_expect_30 rfl ?_
      exact xvret h0 dX6_expect_33 () (by trivial) (by first | (rw [oneT_s hq, hs0]; first | done | rfl) | (rw [oneT_n hq]; first | done | rfl) | (rw [oneT_k hk]; first | done | rfl))
    · skip
      have hq : oneS sg sl (strN i) σ = some 0 := one_of hs0 c_4.1 (ix1_y hic c_4.2)
      refine xaload_n h0 0 dX6_expect_15 rfl rfl ?_
      refine xdup h0 dX6_expect_16 rfl ?_
      refine xget (C := RX6) (T := TX6) (N := 52) (ci := 6) (v := .int (nI σ.1)) h0 hiX6 0 rfl rfl 24 (by decide) (List.mem_of_getElem? (i := 2) rfl) rfl dX6_expect_17 ?_
      refine xiconst (v := (nI 1)) h0 dX6_expect_20 (by decide) ?_
      refine xiadd (v := (nI (σ.1 + 1))) h0 dX6_expect_21 (nI_add _ _) ?_
      refine xput (ws' := (wM cI cC md T k tm dy P pk ptm pdy hpi tg tl R sg sl (upN (upN u0.1 24 (σ.1 + 1)) 25 (wlN σ.2), u0.2.1, u0.2.2))) (C := RX6) (T := TX6) (N := 52) (ci := 6) (ty := tyX6 24) h0 hiX6 tyX6 tyX6_ok nmX6 0 rfl rfl 24 (by decide) (List.mem_of_getElem? (i := 2) rfl) rfl (by decide +kernel) (rfl) (rfl) (Nat.le_of_ble_eq_true rfl) dX6_expect_22 rfl ?_
      refine xgoto (tgt := 33) h0 dX6_expect_25 (by decide) ?_
      exact xvret h0 dX6_expect_33 () (by trivial) (by first | (rw [oneT_s hq, hs0]; first | done | rfl) | (rw [oneT_n hq]; first | done | rfl) | (rw [oneT_k hk]; first | done | rfl))
set_option maxHeartbeats 4000000 in
set_option maxRecDepth 100000 in
theorem c_X6_oneOf_26 (l : Launch) (D : va_G) (cI cC : ClassId) (md : Nat → Nat) (T : TT) (k tm dy : Nat) (P : TT) (pk ptm pdy hpi : Nat) (tg : Nat → Nat) (tl : Nat) (R : Nat → Nat) (sg : Nat → Nat) (sl : Nat) (u0 : ScmT) (σ : Nat × Nat) (hsl : sl ≤ 64) (hsg : ∀ j, sg j < 256) (hσ : σ.1 ≤ sl) (hσb : σ.2 = 0 ∨ σ.2 = 1) : XMi l yX6_oneOf wsX6_oneOf ({ frames := 1, cells := 0, slots := 0, locals := 21 } : Room) D (xT cI cC) xE0 (wM cI cC md T k tm dy P pk ptm pdy hpi tg tl R sg sl (upN (upN u0.1 24 σ.1) 25 (wlN σ.2), u0.2.1, u0.2.2)) [.ref (md 1), .ref (md 26)] (S := Unit) (fun r _ => r = nI ((oneS sg sl (strN 0) σ).getD 0)) (fun _ => wM cI cC md T k tm dy P pk ptm pdy hpi tg tl R sg sl (upN (upN u0.1 24 ((oneT sg sl (strN 0) σ).1)) 25 (wlN (oneT sg sl (strN 0) σ).2), u0.2.1, u0.2.2)) 0 0 := by
  refine xMet_i (cc := cX6_oneOf) (nL := 4) (ret := some .int) (by decide +kernel) rfl (Nat.le_of_ble_eq_true rfl) (fun κ A h0 hn0 hE => ?_)
  have hiX6 : ∀ w ∈ u_ws RX6 TX6 52, w ∈ wsX6_oneOf := by decide +kernel
  refine xlv (lv' := [(0, .ref (md 1)), (1, .ref (md 26))]) [0, 1] rfl ?_
  refine xiconst (v := (-1)) h0 dX6_oneOf_0 (by decide) ?_
  refine xistore_n (lv' := [(2, .int (-1)), (0, .ref (md 1)), (1, .ref (md 26))]) h0 dX6_oneOf_1 rfl (by decide) rfl ?_
  refine xiconst (v := (nI 0)) h0 dX6_oneOf_2 (by decide) ?_
  refine xistore_n (lv' := [(3, .int (nI 0)), (2, .int (-1)), (0, .ref (md 1)), (1, .ref (md 26))]) h0 dX6_oneOf_3 rfl (by decide) rfl ?_
  have lp : ∀ (d_ : Nat) (kq : Nat) (fo : Option Nat), (5 - kq ≤ d_) → (kq ≤ 4) → ((fo = none ∧ (σ.1 < sl → ixK (strN 0) (sg σ.1) kq = none)) ∨ (∃ q, fo = some q ∧ σ.2 = 0 ∧ σ.1 < sl ∧ ixS (strN 0) (sg σ.1) = some q)) → (∀ z, fo = some z → z < 2 ^ 31) → XG κ 4 D (xT cI cC) A (xQi (S := Unit) κ D (xT cI cC) A (fun r _ => r = nI ((oneS sg sl (strN 0) σ).getD 0)) (fun _ => wM cI cC md T k tm dy P pk ptm pdy hpi tg tl R sg sl (upN (upN u0.1 24 ((oneT sg sl (strN 0) σ).1)) 25 (wlN (oneT sg sl (strN 0) σ).2), u0.2.1, u0.2.2)) 0 0) (wM cI cC md T k tm dy P pk ptm pdy hpi tg tl R sg sl (upN (upN u0.1 24 σ.1) 25 (wlN σ.2), u0.2.1, u0.2.2)) 0 0 4 [(0, .ref (md 1)), (1, .ref (md 26)), (2, .int (oI fo)), (3, .int (nI kq))] [] := by
    intro d_
    induction d_ with
    | zero => intro kq fo hm_ hk hfo hfb; exact absurd hm_ (by omega)
    | succ d_ ih_lp =>
      intro kq fo hm_ hk hfo hfb
      refine xiload_n h0 3 dX6_oneOf_4 rfl rfl ?_
      refine xaload_n h0 1 dX6_oneOf_5 rfl rfl ?_
      refine xalen h0 13 1 rfl rfl dX6_oneOf_6 ?_
      refine xncmp_ge (tgt := 39) h0 dX6_oneOf_7 (by decide) (by first | omega | exact Nat.lt_of_le_of_lt (wl_le _) (by decide)) (by first | omega | exact Nat.lt_of_le_of_lt (wl_le _) (by decide)) (fun c_1 => ?_) (fun c_1 => ?_)
      · skip
        have hx : fo = none → oneS sg sl (strN 0) σ = none := fun z => by
            rcases hfo with ⟨_, y⟩ | ⟨q, y, _⟩
            · by_cases h2 : σ.2 = 0 ∧ σ.1 < sl
              · exact one_of h2.1 h2.2 (ixS_n (by show 4 ≤ kq; omega) hk (y h2.2))
              · exact one_out h2
            · rw [z] at y; cases y
        refine xiload_n h0 2 dX6_oneOf_39 rfl rfl ?_
        refine xif_ge (tgt := 50) h0 dX6_oneOf_40 (by decide)  (fun c_2 => ?_) (fun c_2 => ?_)
        · skip
          obtain ⟨q, hq⟩ := oI_nn c_2
          have ho : oneS sg sl (strN 0) σ = some q := hfo.elim (fun y => by rw [hq] at y; cases y.1) (fun ⟨q2, y, y2, y3, y4⟩ => by rw [hq] at y; cases y; exact one_of y2 y3 y4)
          have hs0 := (oneS_in ho).1
          have hlt := (oneS_in ho).2.1
          refine xlvE (lv' := [(0, .ref (md 1)), (1, .ref (md 26)), (2, .int (nI q)), (3, .int (nI kq))]) (by rw [hq]; first | done | rfl) ?_
          refine xaload_n h0 0 dX6_oneOf_50 rfl rfl ?_
          refine xdup h0 dX6_oneOf_51 rfl ?_
          refine xget (C := RX6) (T := TX6) (N := 52) (ci := 6) (v := .int (nI σ.1)) h0 hiX6 0 rfl rfl 24 (by decide) (List.mem_of_getElem? (i := 2) rfl) rfl dX6_oneOf_52 ?_
          refine xiconst (v := (nI 1)) h0 dX6_oneOf_55 (by decide) ?_
          refine xiadd (v := (nI (σ.1 + 1))) h0 dX6_oneOf_56 (nI_add _ _) ?_
          refine xput (ws' := (wM cI cC md T k tm dy P pk ptm pdy hpi tg tl R sg sl (upN (upN u0.1 24 (σ.1 + 1)) 25 (wlN σ.2), u0.2.1, u0.2.2))) (C := RX6) (T := TX6) (N := 52) (ci := 6) (ty := tyX6 24) h0 hiX6 tyX6 tyX6_ok nmX6 0 rfl rfl 24 (by decide) (List.mem_of_getElem? (i := 2) rfl) rfl (by decide +kernel) (rfl) (rfl) (Nat.le_of_ble_eq_true rfl) dX6_oneOf_57 rfl ?_
          refine xiload_n h0 2 dX6_oneOf_60 rfl rfl ?_
          exact xiret h0 dX6_oneOf_61 () (by rw [ho]; first | done | rfl) (by first | (rw [oneT_s ho, hs0]; first | done | rfl) | (rw [oneT_n ho]; first | done | rfl))
        · skip
          have ho : oneS sg sl (strN 0) σ = none := hx (oI_ng hfb c_2)
          refine xaload_n h0 0 dX6_oneOf_43 rfl rfl ?_
          refine xiconst (v := (nI 0)) h0 dX6_oneOf_44 (by decide) ?_
          refine xput (ws' := (wM cI cC md T k tm dy P pk ptm pdy hpi tg tl R sg sl (upN (upN u0.1 24 σ.1) 25 0, u0.2.1, u0.2.2))) (C := RX6) (T := TX6) (N := 52) (ci := 6) (ty := tyX6 25) h0 hiX6 tyX6 tyX6_ok nmX6 0 rfl rfl 25 (by decide) (List.mem_of_getElem? (i := 1) rfl) rfl (by decide +kernel) (rfl) (rfl) (Nat.le_of_ble_eq_true rfl) dX6_oneOf_45 rfl ?_
          refine xiconst (v := (nI 0)) h0 dX6_oneOf_48 (by decide) ?_
          exact xiret h0 dX6_oneOf_49 () (by rw [ho]; first | done | rfl) (by first | (rw [oneT_s ho, hs0]; first | done | rfl) | (rw [oneT_n ho]; first | done | rfl))
      · skip
        refine xaload_n h0 0 dX6_oneOf_10 rfl rfl ?_
        refine xget (C := RX6) (T := TX6) (N := 52) (ci := 6) (v := .int (nI (wlN σ.2))) h0 hiX6 0 rfl rfl 25 (by decide) (List.mem_of_getElem? (i := 1) rfl) rfl dX6_oneOf_11 ?_
        refine xnif_eq (tgt := 39) h0 dX6_oneOf_14 (by decide) (by first | omega | exact Nat.lt_of_le_of_lt (wl_le _) (by decide)) (fun c_3 => ?_) (fun c_3 => ?_)
        · skip
          have hx : fo = none → oneS sg sl (strN 0) σ = none := fun _ => oneS_k (wl_0 c_3 hσb)
          refine xiload_n h0 2 dX6_oneOf_39 rfl rfl ?_
          refine xif_ge (tgt := 50) h0 dX6_oneOf_40 (by decide)  (fun c_4 => ?_) (fun c_4 => ?_)
          · skip
            obtain ⟨q, hq⟩ := oI_nn c_4
            have ho : oneS sg sl (strN 0) σ = some q := hfo.elim (fun y => by rw [hq] at y; cases y.1) (fun ⟨q2, y, y2, y3, y4⟩ => by rw [hq] at y; cases y; exact one_of y2 y3 y4)
            have hs0 := (oneS_in ho).1
            have hlt := (oneS_in ho).2.1
            refine xlvE (lv' := [(0, .ref (md 1)), (1, .ref (md 26)), (2, .int (nI q)), (3, .int (nI kq))]) (by rw [hq]; first | done | rfl) ?_
            refine xaload_n h0 0 dX6_oneOf_50 rfl rfl ?_
            refine xdup h0 dX6_oneOf_51 rfl ?_
            refine xget (C := RX6) (T := TX6) (N := 52) (ci := 6) (v := .int (nI σ.1)) h0 hiX6 0 rfl rfl 24 (by decide) (List.mem_of_getElem? (i := 2) rfl) rfl dX6_oneOf_52 ?_
            refine xiconst (v := (nI 1)) h0 dX6_oneOf_55 (by decide) ?_
            refine xiadd (v := (nI (σ.1 + 1))) h0 dX6_oneOf_56 (nI_add _ _) ?_
            refine xput (ws' := (wM cI cC md T k tm dy P pk ptm pdy hpi tg tl R sg sl (upN (upN u0.1 24 (σ.1 + 1)) 25 (wlN σ.2), u0.2.1, u0.2.2))) (C := RX6) (T := TX6) (N := 52) (ci := 6) (ty := tyX6 24) h0 hiX6 tyX6 tyX6_ok nmX6 0 rfl rfl 24 (by decide) (List.mem_of_getElem? (i := 2) rfl) rfl (by decide +kernel) (rfl) (rfl) (Nat.le_of_ble_eq_true rfl) dX6_oneOf_57 rfl ?_
            refine xiload_n h0 2 dX6_oneOf_60 rfl rfl ?_
            exact xiret h0 dX6_oneOf_61 () (by rw [ho]; first | done | rfl) (by first | (rw [oneT_s ho, hs0]; first | done | rfl) | (rw [oneT_n ho]; first | done | rfl))
          · skip
            have ho : oneS sg sl (strN 0) σ = none := hx (oI_ng hfb c_4)
            refine xaload_n h0 0 dX6_oneOf_43 rfl rfl ?_
            refine xiconst (v := (nI 0)) h0 dX6_oneOf_44 (by decide) ?_
            refine xput (ws' := (wM cI cC md T k tm dy P pk ptm pdy hpi tg tl R sg sl (upN (upN u0.1 24 σ.1) 25 0, u0.2.1, u0.2.2))) (C := RX6) (T := TX6) (N := 52) (ci := 6) (ty := tyX6 25) h0 hiX6 tyX6 tyX6_ok nmX6 0 rfl rfl 25 (by decide) (List.mem_of_getElem? (i := 1) rfl) rfl (by decide +kernel) (rfl) (rfl) (Nat.le_of_ble_eq_true rfl) dX6_oneOf_45 rfl ?_
            refine xiconst (v := (nI 0)) h0 dX6_oneOf_48 (by decide) ?_
            exact xiret h0 dX6_oneOf_49 () (by rw [ho]; first | done | rfl) (by first | (rw [oneT_s ho, hs0]; first | done | rfl) | (rw [oneT_n ho]; first | done | rfl))
        · skip
          have hs1 := wl_1 c_3
          refine xiload_n h0 2 dX6_oneOf_17 rfl rfl ?_
          refine xif_ge (tgt := 39) h0 dX6_oneOf_18 (by decide)  (fun c_5 => ?_) (fun c_5 => ?_)
          · skip
            obtain ⟨q0, hq0⟩ := oI_nn c_5
            have hx : fo = none → oneS sg sl (strN 0) σ = none := fun z => by rw [hq0] at z; cases z
            refine xiload_n h0 2 dX6_oneOf_39 rfl rfl ?_
            refine xif_ge (tgt := 50) h0 dX6_oneOf_40 (by decide)  (fun c_6 => ?_) (fun c_6 => ?_)
            · skip
              obtain ⟨q, hq⟩ := oI_nn c_6
              have ho : oneS sg sl (strN 0) σ = some q := hfo.elim (fun y => by rw [hq] at y; cases y.1) (fun ⟨q2, y, y2, y3, y4⟩ => by rw [hq] at y; cases y; exact one_of y2 y3 y4)
              have hs0 := (oneS_in ho).1
              have hlt := (oneS_in ho).2.1
              refine xlvE (lv' := [(0, .ref (md 1)), (1, .ref (md 26)), (2, .int (nI q)), (3, .int (nI kq))]) (by rw [hq]; first | done | rfl) ?_
              refine xaload_n h0 0 dX6_oneOf_50 rfl rfl ?_
              refine xdup h0 dX6_oneOf_51 rfl ?_
              refine xget (C := RX6) (T := TX6) (N := 52) (ci := 6) (v := .int (nI σ.1)) h0 hiX6 0 rfl rfl 24 (by decide) (List.mem_of_getElem? (i := 2) rfl) rfl dX6_oneOf_52 ?_
              refine xiconst (v := (nI 1)) h0 dX6_oneOf_55 (by decide) ?_
              refine xiadd (v := (nI (σ.1 + 1))) h0 dX6_oneOf_56 (nI_add _ _) ?_
              refine xput (ws' := (wM cI cC md T k tm dy P pk ptm pdy hpi tg tl R sg sl (upN (upN u0.1 24 (σ.1 + 1)) 25 (wlN σ.2), u0.2.1, u0.2.2))) (C := RX6) (T := TX6) (N := 52) (ci := 6) (ty := tyX6 24) h0 hiX6 tyX6 tyX6_ok nmX6 0 rfl rfl 24 (by decide) (List.mem_of_getElem? (i := 2) rfl) rfl (by decide +kernel) (rfl) (rfl) (Nat.le_of_ble_eq_true rfl) dX6_oneOf_57 rfl ?_
              refine xiload_n h0 2 dX6_oneOf_60 rfl rfl ?_
              exact xiret h0 dX6_oneOf_61 () (by rw [ho]; first | done | rfl) (by first | (rw [oneT_s ho, hs0]; first | done | rfl) | (rw [oneT_n ho]; first | done | rfl))
            · skip
              have ho : oneS sg sl (strN 0) σ = none := hx (oI_ng hfb c_6)
              refine xaload_n h0 0 dX6_oneOf_43 rfl rfl ?_
              refine xiconst (v := (nI 0)) h0 dX6_oneOf_44 (by decide) ?_
              refine xput (ws' := (wM cI cC md T k tm dy P pk ptm pdy hpi tg tl R sg sl (upN (upN u0.1 24 σ.1) 25 0, u0.2.1, u0.2.2))) (C := RX6) (T := TX6) (N := 52) (ci := 6) (ty := tyX6 25) h0 hiX6 tyX6 tyX6_ok nmX6 0 rfl rfl 25 (by decide) (List.mem_of_getElem? (i := 1) rfl) rfl (by decide +kernel) (rfl) (rfl) (Nat.le_of_ble_eq_true rfl) dX6_oneOf_45 rfl ?_
              refine xiconst (v := (nI 0)) h0 dX6_oneOf_48 (by decide) ?_
              exact xiret h0 dX6_oneOf_49 () (by rw [ho]; first | done | rfl) (by first | (rw [oneT_s ho, hs0]; first | done | rfl) | (rw [oneT_n ho]; first | done | rfl))
          · skip
            have hfn := oI_ng hfb c_5
            have hxk : σ.1 < sl → ixK (strN 0) (sg σ.1) kq = none := fun z => hfo.elim (fun y => y.2 z) (fun ⟨q, y, _⟩ => by rw [hfn] at y; cases y)
            refine xaload_n h0 0 dX6_oneOf_21 rfl rfl ?_
            refine xaload_n h0 1 dX6_oneOf_22 rfl rfl ?_
            refine xiload_n h0 3 dX6_oneOf_23 rfl rfl ?_
            refine xcald (v := (nI ((strN 0).getD kq 0))) h0 13 1 rfl rfl (by omega) (by decide) dX6_oneOf_24 (rfl) ?_
            refine xcallV_i (nn := 1) (w2 := fun u_ => (wM cI cC md T k tm dy P pk ptm pdy hpi tg tl R sg sl (upN (upN u0.1 24 σ.1) 25 (wlN σ.2), u0.2.1, u0.2.2))) (wr := []) (rest := []) h0 (c_X6_comes (xL κ) D cI cC md T k tm dy P pk ptm pdy hpi tg tl R sg sl u0 σ ((strN 0).getD kq 0) hsl hsg hσ hσb (by exact Nat.lt_trans (str_lt 0 (by decide) kq (by show kq < 4; omega)) (by decide))) gX6_oneOf_X6_comes (by decide +kernel) rfl rfl rfl ⟨Nat.le_of_ble_eq_true rfl, Nat.le_of_ble_eq_true rfl⟩ ⟨by decide, by decide⟩ (fun _ _ _ _ h => h) (fun _ _ _ _ _ _ _ => trivial) rfl (Nat.le_of_ble_eq_true rfl) (q0 := 0) rfl rfl rfl [0, 1, 2, 3, 4, 5, 6, 7, 8, 9, 10, 11, 12, 13, 14, 15, 16, 17, 18, 19, 20, 21] [] [0, 1, 2, 3, 4, 5, 6, 7, 8, 9, 10, 11, 12, 13, 14, 15, 16, 17, 18, 19, 20, 21] ⟨rfl, rfl, rfl, rfl, rfl⟩ (fun _ => ⟨rfl, rfl⟩) dX6_oneOf_25 (fun r_8 u_ hr_7 => ?_)
            subst hr_7
            refine xbif_eq (tgt := 33) h0 dX6_oneOf_28 (by decide)  (fun c_9 => ?_) (fun c_9 => ?_)
            · skip
              have hfo2 : (fo = none ∧ (σ.1 < sl → ixK (strN 0) (sg σ.1) (kq + 1) = none)) ∨ (∃ q, fo = some q ∧ σ.2 = 0 ∧ σ.1 < sl ∧ ixS (strN 0) (sg σ.1) = some q) := Or.inl ⟨hfn, fun z => ixK_n (hxk z) (fun y => c_9 ⟨z, y.symm⟩)⟩
              refine xiinc (v := (nI (kq + 1))) (lv' := [(3, .int (nI (kq + 1))), (0, .ref (md 1)), (1, .ref (md 26)), (2, .int (oI fo))]) h0 3 dX6_oneOf_33 rfl (nI_add _ _) (by decide) rfl ?_
              refine xgoto (tgt := 4) h0 dX6_oneOf_36 (by decide) ?_
              refine xlv [1, 2, 3, 0] rfl ?_
              exact ih_lp (kq + 1) fo (by omega) (by omega) (by exact hfo2) (by first | exact hfb | (intro z hz; cases hz; omega))
            · skip
              have hfo2 : (some kq = none ∧ (σ.1 < sl → ixK (strN 0) (sg σ.1) (kq + 1) = none)) ∨ (∃ q, some kq = some q ∧ σ.2 = 0 ∧ σ.1 < sl ∧ ixS (strN 0) (sg σ.1) = some q) := Or.inr ⟨kq, rfl, hs1, c_9.1, ixS_y (by show kq < 4; omega) (hxk c_9.1) c_9.2.symm⟩
              refine xiload_n h0 3 dX6_oneOf_31 rfl rfl ?_
              refine xistore_n (lv' := [(2, .int (nI kq)), (0, .ref (md 1)), (1, .ref (md 26)), (3, .int (nI kq))]) h0 dX6_oneOf_32 rfl (by decide) rfl ?_
              refine xiinc (v := (nI (kq + 1))) (lv' := [(3, .int (nI (kq + 1))), (2, .int (nI kq)), (0, .ref (md 1)), (1, .ref (md 26))]) h0 3 dX6_oneOf_33 rfl (nI_add _ _) (by decide) rfl ?_
              refine xgoto (tgt := 4) h0 dX6_oneOf_36 (by decide) ?_
              refine xlv [2, 3, 1, 0] rfl ?_
              exact ih_lp (kq + 1) (some kq) (by omega) (by omega) (by exact hfo2) (by first | exact hfb | (intro z hz; cases hz; omega))
  refine xlv [2, 3, 1, 0] rfl ?_
  exact lp (5) 0 none (by omega) (by decide) (by exact Or.inl ⟨rfl, fun _ => rfl⟩) (by intro z hz; cases hz)
set_option maxHeartbeats 4000000 in
set_option maxRecDepth 100000 in
theorem c_X6_oneOf_27 (l : Launch) (D : va_G) (cI cC : ClassId) (md : Nat → Nat) (T : TT) (k tm dy : Nat) (P : TT) (pk ptm pdy hpi : Nat) (tg : Nat → Nat) (tl : Nat) (R : Nat → Nat) (sg : Nat → Nat) (sl : Nat) (u0 : ScmT) (σ : Nat × Nat) (hsl : sl ≤ 64) (hsg : ∀ j, sg j < 256) (hσ : σ.1 ≤ sl) (hσb : σ.2 = 0 ∨ σ.2 = 1) : XMi l yX6_oneOf wsX6_oneOf ({ frames := 1, cells := 0, slots := 0, locals := 21 } : Room) D (xT cI cC) xE0 (wM cI cC md T k tm dy P pk ptm pdy hpi tg tl R sg sl (upN (upN u0.1 24 σ.1) 25 (wlN σ.2), u0.2.1, u0.2.2)) [.ref (md 1), .ref (md 27)] (S := Unit) (fun r _ => r = nI ((oneS sg sl (strN 1) σ).getD 0)) (fun _ => wM cI cC md T k tm dy P pk ptm pdy hpi tg tl R sg sl (upN (upN u0.1 24 ((oneT sg sl (strN 1) σ).1)) 25 (wlN (oneT sg sl (strN 1) σ).2), u0.2.1, u0.2.2)) 0 0 := by
  refine xMet_i (cc := cX6_oneOf) (nL := 4) (ret := some .int) (by decide +kernel) rfl (Nat.le_of_ble_eq_true rfl) (fun κ A h0 hn0 hE => ?_)
  have hiX6 : ∀ w ∈ u_ws RX6 TX6 52, w ∈ wsX6_oneOf := by decide +kernel
  refine xlv (lv' := [(0, .ref (md 1)), (1, .ref (md 27))]) [0, 1] rfl ?_
  refine xiconst (v := (-1)) h0 dX6_oneOf_0 (by decide) ?_
  refine xistore_n (lv' := [(2, .int (-1)), (0, .ref (md 1)), (1, .ref (md 27))]) h0 dX6_oneOf_1 rfl (by decide) rfl ?_
  refine xiconst (v := (nI 0)) h0 dX6_oneOf_2 (by decide) ?_
  refine xistore_n (lv' := [(3, .int (nI 0)), (2, .int (-1)), (0, .ref (md 1)), (1, .ref (md 27))]) h0 dX6_oneOf_3 rfl (by decide) rfl ?_
  have lp : ∀ (d_ : Nat) (kq : Nat) (fo : Option Nat), (6 - kq ≤ d_) → (kq ≤ 5) → ((fo = none ∧ (σ.1 < sl → ixK (strN 1) (sg σ.1) kq = none)) ∨ (∃ q, fo = some q ∧ σ.2 = 0 ∧ σ.1 < sl ∧ ixS (strN 1) (sg σ.1) = some q)) → (∀ z, fo = some z → z < 2 ^ 31) → XG κ 4 D (xT cI cC) A (xQi (S := Unit) κ D (xT cI cC) A (fun r _ => r = nI ((oneS sg sl (strN 1) σ).getD 0)) (fun _ => wM cI cC md T k tm dy P pk ptm pdy hpi tg tl R sg sl (upN (upN u0.1 24 ((oneT sg sl (strN 1) σ).1)) 25 (wlN (oneT sg sl (strN 1) σ).2), u0.2.1, u0.2.2)) 0 0) (wM cI cC md T k tm dy P pk ptm pdy hpi tg tl R sg sl (upN (upN u0.1 24 σ.1) 25 (wlN σ.2), u0.2.1, u0.2.2)) 0 0 4 [(0, .ref (md 1)), (1, .ref (md 27)), (2, .int (oI fo)), (3, .int (nI kq))] [] := by
    intro d_
    induction d_ with
    | zero => intro kq fo hm_ hk hfo hfb; exact absurd hm_ (by omega)
    | succ d_ ih_lp =>
      intro kq fo hm_ hk hfo hfb
      refine xiload_n h0 3 dX6_oneOf_4 rfl rfl ?_
      refine xaload_n h0 1 dX6_oneOf_5 rfl rfl ?_
      refine xalen h0 14 1 rfl rfl dX6_oneOf_6 ?_
      refine xncmp_ge (tgt := 39) h0 dX6_oneOf_7 (by decide) (by first | omega | exact Nat.lt_of_le_of_lt (wl_le _) (by decide)) (by first | omega | exact Nat.lt_of_le_of_lt (wl_le _) (by decide)) (fun c_1 => ?_) (fun c_1 => ?_)
      · skip
        have hx : fo = none → oneS sg sl (strN 1) σ = none := fun z => by
            rcases hfo with ⟨_, y⟩ | ⟨q, y, _⟩
            · by_cases h2 : σ.2 = 0 ∧ σ.1 < sl
              · exact one_of h2.1 h2.2 (ixS_n (by show 5 ≤ kq; omega) hk (y h2.2))
              · exact one_out h2
            · rw [z] at y; cases y
        refine xiload_n h0 2 dX6_oneOf_39 rfl rfl ?_
        refine xif_ge (tgt := 50) h0 dX6_oneOf_40 (by decide)  (fun c_2 => ?_) (fun c_2 => ?_)
        · skip
          obtain ⟨q, hq⟩ := oI_nn c_2
          have ho : oneS sg sl (strN 1) σ = some q := hfo.elim (fun y => by rw [hq] at y; cases y.1) (fun ⟨q2, y, y2, y3, y4⟩ => by rw [hq] at y; cases y; exact one_of y2 y3 y4)
          have hs0 := (oneS_in ho).1
          have hlt := (oneS_in ho).2.1
          refine xlvE (lv' := [(0, .ref (md 1)), (1, .ref (md 27)), (2, .int (nI q)), (3, .int (nI kq))]) (by rw [hq]; first | done | rfl) ?_
          refine xaload_n h0 0 dX6_oneOf_50 rfl rfl ?_
          refine xdup h0 dX6_oneOf_51 rfl ?_
          refine xget (C := RX6) (T := TX6) (N := 52) (ci := 6) (v := .int (nI σ.1)) h0 hiX6 0 rfl rfl 24 (by decide) (List.mem_of_getElem? (i := 2) rfl) rfl dX6_oneOf_52 ?_
          refine xiconst (v := (nI 1)) h0 dX6_oneOf_55 (by decide) ?_
          refine xiadd (v := (nI (σ.1 + 1))) h0 dX6_oneOf_56 (nI_add _ _) ?_
          refine xput (ws' := (wM cI cC md T k tm dy P pk ptm pdy hpi tg tl R sg sl (upN (upN u0.1 24 (σ.1 + 1)) 25 (wlN σ.2), u0.2.1, u0.2.2))) (C := RX6) (T := TX6) (N := 52) (ci := 6) (ty := tyX6 24) h0 hiX6 tyX6 tyX6_ok nmX6 0 rfl rfl 24 (by decide) (List.mem_of_getElem? (i := 2) rfl) rfl (by decide +kernel) (rfl) (rfl) (Nat.le_of_ble_eq_true rfl) dX6_oneOf_57 rfl ?_
          refine xiload_n h0 2 dX6_oneOf_60 rfl rfl ?_
          exact xiret h0 dX6_oneOf_61 () (by rw [ho]; first | done | rfl) (by first | (rw [oneT_s ho, hs0]; first | done | rfl) | (rw [oneT_n ho]; first | done | rfl))
        · skip
          have ho : oneS sg sl (strN 1) σ = none := hx (oI_ng hfb c_2)
          refine xaload_n h0 0 dX6_oneOf_43 rfl rfl ?_
          refine xiconst (v := (nI 0)) h0 dX6_oneOf_44 (by decide) ?_
          refine xput (ws' := (wM cI cC md T k tm dy P pk ptm pdy hpi tg tl R sg sl (upN (upN u0.1 24 σ.1) 25 0, u0.2.1, u0.2.2))) (C := RX6) (T := TX6) (N := 52) (ci := 6) (ty := tyX6 25) h0 hiX6 tyX6 tyX6_ok nmX6 0 rfl rfl 25 (by decide) (List.mem_of_getElem? (i := 1) rfl) rfl (by decide +kernel) (rfl) (rfl) (Nat.le_of_ble_eq_true rfl) dX6_oneOf_45 rfl ?_
          refine xiconst (v := (nI 0)) h0 dX6_oneOf_48 (by decide) ?_
          exact xiret h0 dX6_oneOf_49 () (by rw [ho]; first | done | rfl) (by first | (rw [oneT_s ho, hs0]; first | done | rfl) | (rw [oneT_n ho]; first | done | rfl))
      · skip
        refine xaload_n h0 0 dX6_oneOf_10 rfl rfl ?_
        refine xget (C := RX6) (T := TX6) (N := 52) (ci := 6) (v := .int (nI (wlN σ.2))) h0 hiX6 0 rfl rfl 25 (by decide) (List.mem_of_getElem? (i := 1) rfl) rfl dX6_oneOf_11 ?_
        refine xnif_eq (tgt := 39) h0 dX6_oneOf_14 (by decide) (by first | omega | exact Nat.lt_of_le_of_lt (wl_le _) (by decide)) (fun c_3 => ?_) (fun c_3 => ?_)
        · skip
          have hx : fo = none → oneS sg sl (strN 1) σ = none := fun _ => oneS_k (wl_0 c_3 hσb)
          refine xiload_n h0 2 dX6_oneOf_39 rfl rfl ?_
          refine xif_ge (tgt := 50) h0 dX6_oneOf_40 (by decide)  (fun c_4 => ?_) (fun c_4 => ?_)
          · skip
            obtain ⟨q, hq⟩ := oI_nn c_4
            have ho : oneS sg sl (strN 1) σ = some q := hfo.elim (fun y => by rw [hq] at y; cases y.1) (fun ⟨q2, y, y2, y3, y4⟩ => by rw [hq] at y; cases y; exact one_of y2 y3 y4)
            have hs0 := (oneS_in ho).1
            have hlt := (oneS_in ho).2.1
            refine xlvE (lv' := [(0, .ref (md 1)), (1, .ref (md 27)), (2, .int (nI q)), (3, .int (nI kq))]) (by rw [hq]; first | done | rfl) ?_
            refine xaload_n h0 0 dX6_oneOf_50 rfl rfl ?_
            refine xdup h0 dX6_oneOf_51 rfl ?_
            refine xget (C := RX6) (T := TX6) (N := 52) (ci := 6) (v := .int (nI σ.1)) h0 hiX6 0 rfl rfl 24 (by decide) (List.mem_of_getElem? (i := 2) rfl) rfl dX6_oneOf_52 ?_
            refine xiconst (v := (nI 1)) h0 dX6_oneOf_55 (by decide) ?_
            refine xiadd (v := (nI (σ.1 + 1))) h0 dX6_oneOf_56 (nI_add _ _) ?_
            refine xput (ws' := (wM cI cC md T k tm dy P pk ptm pdy hpi tg tl R sg sl (upN (upN u0.1 24 (σ.1 + 1)) 25 (wlN σ.2), u0.2.1, u0.2.2))) (C := RX6) (T := TX6) (N := 52) (ci := 6) (ty := tyX6 24) h0 hiX6 tyX6 tyX6_ok nmX6 0 rfl rfl 24 (by decide) (List.mem_of_getElem? (i := 2) rfl) rfl (by decide +kernel) (rfl) (rfl) (Nat.le_of_ble_eq_true rfl) dX6_oneOf_57 rfl ?_
            refine xiload_n h0 2 dX6_oneOf_60 rfl rfl ?_
            exact xiret h0 dX6_oneOf_61 () (by rw [ho]; first | done | rfl) (by first | (rw [oneT_s ho, hs0]; first | done | rfl) | (rw [oneT_n ho]; first | done | rfl))
          · skip
            have ho : oneS sg sl (strN 1) σ = none := hx (oI_ng hfb c_4)
            refine xaload_n h0 0 dX6_oneOf_43 rfl rfl ?_
            refine xiconst (v := (nI 0)) h0 dX6_oneOf_44 (by decide) ?_
            refine xput (ws' := (wM cI cC md T k tm dy P pk ptm pdy hpi tg tl R sg sl (upN (upN u0.1 24 σ.1) 25 0, u0.2.1, u0.2.2))) (C := RX6) (T := TX6) (N := 52) (ci := 6) (ty := tyX6 25) h0 hiX6 tyX6 tyX6_ok nmX6 0 rfl rfl 25 (by decide) (List.mem_of_getElem? (i := 1) rfl) rfl (by decide +kernel) (rfl) (rfl) (Nat.le_of_ble_eq_true rfl) dX6_oneOf_45 rfl ?_
            refine xiconst (v := (nI 0)) h0 dX6_oneOf_48 (by decide) ?_
            exact xiret h0 dX6_oneOf_49 () (by rw [ho]; first | done | rfl) (by first | (rw [oneT_s ho, hs0]; first | done | rfl) | (rw [oneT_n ho]; first | done | rfl))
        · skip
          have hs1 := wl_1 c_3
          refine xiload_n h0 2 dX6_oneOf_17 rfl rfl ?_
          refine xif_ge (tgt := 39) h0 dX6_oneOf_18 (by decide)  (fun c_5 => ?_) (fun c_5 => ?_)
          · skip
            obtain ⟨q0, hq0⟩ := oI_nn c_5
            have hx : fo = none → oneS sg sl (strN 1) σ = none := fun z => by rw [hq0] at z; cases z
            refine xiload_n h0 2 dX6_oneOf_39 rfl rfl ?_
            refine xif_ge (tgt := 50) h0 dX6_oneOf_40 (by decide)  (fun c_6 => ?_) (fun c_6 => ?_)
            · skip
              obtain ⟨q, hq⟩ := oI_nn c_6
              have ho : oneS sg sl (strN 1) σ = some q := hfo.elim (fun y => by rw [hq] at y; cases y.1) (fun ⟨q2, y, y2, y3, y4⟩ => by rw [hq] at y; cases y; exact one_of y2 y3 y4)
              have hs0 := (oneS_in ho).1
              have hlt := (oneS_in ho).2.1
              refine xlvE (lv' := [(0, .ref (md 1)), (1, .ref (md 27)), (2, .int (nI q)), (3, .int (nI kq))]) (by rw [hq]; first | done | rfl) ?_
              refine xaload_n h0 0 dX6_oneOf_50 rfl rfl ?_
              refine xdup h0 dX6_oneOf_51 rfl ?_
              refine xget (C := RX6) (T := TX6) (N := 52) (ci := 6) (v := .int (nI σ.1)) h0 hiX6 0 rfl rfl 24 (by decide) (List.mem_of_getElem? (i := 2) rfl) rfl dX6_oneOf_52 ?_
              refine xiconst (v := (nI 1)) h0 dX6_oneOf_55 (by decide) ?_
              refine xiadd (v := (nI (σ.1 + 1))) h0 dX6_oneOf_56 (nI_add _ _) ?_
              refine xput (ws' := (wM cI cC md T k tm dy P pk ptm pdy hpi tg tl R sg sl (upN (upN u0.1 24 (σ.1 + 1)) 25 (wlN σ.2), u0.2.1, u0.2.2))) (C := RX6) (T := TX6) (N := 52) (ci := 6) (ty := tyX6 24) h0 hiX6 tyX6 tyX6_ok nmX6 0 rfl rfl 24 (by decide) (List.mem_of_getElem? (i := 2) rfl) rfl (by decide +kernel) (rfl) (rfl) (Nat.le_of_ble_eq_true rfl) dX6_oneOf_57 rfl ?_
              refine xiload_n h0 2 dX6_oneOf_60 rfl rfl ?_
              exact xiret h0 dX6_oneOf_61 () (by rw [ho]; first | done | rfl) (by first | (rw [oneT_s ho, hs0]; first | done | rfl) | (rw [oneT_n ho]; first | done | rfl))
            · skip
              have ho : oneS sg sl (strN 1) σ = none := hx (oI_ng hfb c_6)
              refine xaload_n h0 0 dX6_oneOf_43 rfl rfl ?_
              refine xiconst (v := (nI 0)) h0 dX6_oneOf_44 (by decide) ?_
              refine xput (ws' := (wM cI cC md T k tm dy P pk ptm pdy hpi tg tl R sg sl (upN (upN u0.1 24 σ.1) 25 0, u0.2.1, u0.2.2))) (C := RX6) (T := TX6) (N := 52) (ci := 6) (ty := tyX6 25) h0 hiX6 tyX6 tyX6_ok nmX6 0 rfl rfl 25 (by decide) (List.mem_of_getElem? (i := 1) rfl) rfl (by decide +kernel) (rfl) (rfl) (Nat.le_of_ble_eq_true rfl) dX6_oneOf_45 rfl ?_
              refine xiconst (v := (nI 0)) h0 dX6_oneOf_48 (by decide) ?_
              exact xiret h0 dX6_oneOf_49 () (by rw [ho]; first | done | rfl) (by first | (rw [oneT_s ho, hs0]; first | done | rfl) | (rw [oneT_n ho]; first | done | rfl))
          · skip
            have hfn := oI_ng hfb c_5
            have hxk : σ.1 < sl → ixK (strN 1) (sg σ.1) kq = none := fun z => hfo.elim (fun y => y.2 z) (fun ⟨q, y, _⟩ => by rw [hfn] at y; cases y)
            refine xaload_n h0 0 dX6_oneOf_21 rfl rfl ?_
            refine xaload_n h0 1 dX6_oneOf_22 rfl rfl ?_
            refine xiload_n h0 3 dX6_oneOf_23 rfl rfl ?_
            refine xcald (v := (nI ((strN 1).getD kq 0))) h0 14 1 rfl rfl (by omega) (by decide) dX6_oneOf_24 (rfl) ?_
            refine xcallV_i (nn := 1) (w2 := fun u_ => (wM cI cC md T k tm dy P pk ptm pdy hpi tg tl R sg sl (upN (upN u0.1 24 σ.1) 25 (wlN σ.2), u0.2.1, u0.2.2))) (wr := []) (rest := []) h0 (c_X6_comes (xL κ) D cI cC md T k tm dy P pk ptm pdy hpi tg tl R sg sl u0 σ ((strN 1).getD kq 0) hsl hsg hσ hσb (by exact Nat.lt_trans (str_lt 1 (by decide) kq (by show kq < 5; omega)) (by decide))) gX6_oneOf_X6_comes (by decide +kernel) rfl rfl rfl ⟨Nat.le_of_ble_eq_true rfl, Nat.le_of_ble_eq_true rfl⟩ ⟨by decide, by decide⟩ (fun _ _ _ _ h => h) (fun _ _ _ _ _ _ _ => trivial) rfl (Nat.le_of_ble_eq_true rfl) (q0 := 0) rfl rfl rfl [0, 1, 2, 3, 4, 5, 6, 7, 8, 9, 10, 11, 12, 13, 14, 15, 16, 17, 18, 19, 20, 21] [] [0, 1, 2, 3, 4, 5, 6, 7, 8, 9, 10, 11, 12, 13, 14, 15, 16, 17, 18, 19, 20, 21] ⟨rfl, rfl, rfl, rfl, rfl⟩ (fun _ => ⟨rfl, rfl⟩) dX6_oneOf_25 (fun r_8 u_ hr_7 => ?_)
            subst hr_7
            refine xbif_eq (tgt := 33) h0 dX6_oneOf_28 (by decide)  (fun c_9 => ?_) (fun c_9 => ?_)
            · skip
              have hfo2 : (fo = none ∧ (σ.1 < sl → ixK (strN 1) (sg σ.1) (kq + 1) = none)) ∨ (∃ q, fo = some q ∧ σ.2 = 0 ∧ σ.1 < sl ∧ ixS (strN 1) (sg σ.1) = some q) := Or.inl ⟨hfn, fun z => ixK_n (hxk z) (fun y => c_9 ⟨z, y.symm⟩)⟩
              refine xiinc (v := (nI (kq + 1))) (lv' := [(3, .int (nI (kq + 1))), (0, .ref (md 1)), (1, .ref (md 27)), (2, .int (oI fo))]) h0 3 dX6_oneOf_33 rfl (nI_add _ _) (by decide) rfl ?_
              refine xgoto (tgt := 4) h0 dX6_oneOf_36 (by decide) ?_
              refine xlv [1, 2, 3, 0] rfl ?_
              exact ih_lp (kq + 1) fo (by omega) (by omega) (by exact hfo2) (by first | exact hfb | (intro z hz; cases hz; omega))
            · skip
              have hfo2 : (some kq = none ∧ (σ.1 < sl → ixK (strN 1) (sg σ.1) (kq + 1) = none)) ∨ (∃ q, some kq = some q ∧ σ.2 = 0 ∧ σ.1 < sl ∧ ixS (strN 1) (sg σ.1) = some q) := Or.inr ⟨kq, rfl, hs1, c_9.1, ixS_y (by show kq < 5; omega) (hxk c_9.1) c_9.2.symm⟩
              refine xiload_n h0 3 dX6_oneOf_31 rfl rfl ?_
              refine xistore_n (lv' := [(2, .int (nI kq)), (0, .ref (md 1)), (1, .ref (md 27)), (3, .int (nI kq))]) h0 dX6_oneOf_32 rfl (by decide) rfl ?_
              refine xiinc (v := (nI (kq + 1))) (lv' := [(3, .int (nI (kq + 1))), (2, .int (nI kq)), (0, .ref (md 1)), (1, .ref (md 27))]) h0 3 dX6_oneOf_33 rfl (nI_add _ _) (by decide) rfl ?_
              refine xgoto (tgt := 4) h0 dX6_oneOf_36 (by decide) ?_
              refine xlv [2, 3, 1, 0] rfl ?_
              exact ih_lp (kq + 1) (some kq) (by omega) (by omega) (by exact hfo2) (by first | exact hfb | (intro z hz; cases hz; omega))
  refine xlv [2, 3, 1, 0] rfl ?_
  exact lp (6) 0 none (by omega) (by decide) (by exact Or.inl ⟨rfl, fun _ => rfl⟩) (by intro z hz; cases hz)
set_option maxHeartbeats 4000000 in
set_option maxRecDepth 100000 in
theorem c_X6_oneOf_28 (l : Launch) (D : va_G) (cI cC : ClassId) (md : Nat → Nat) (T : TT) (k tm dy : Nat) (P : TT) (pk ptm pdy hpi : Nat) (tg : Nat → Nat) (tl : Nat) (R : Nat → Nat) (sg : Nat → Nat) (sl : Nat) (u0 : ScmT) (σ : Nat × Nat) (hsl : sl ≤ 64) (hsg : ∀ j, sg j < 256) (hσ : σ.1 ≤ sl) (hσb : σ.2 = 0 ∨ σ.2 = 1) : XMi l yX6_oneOf wsX6_oneOf ({ frames := 1, cells := 0, slots := 0, locals := 21 } : Room) D (xT cI cC) xE0 (wM cI cC md T k tm dy P pk ptm pdy hpi tg tl R sg sl (upN (upN u0.1 24 σ.1) 25 (wlN σ.2), u0.2.1, u0.2.2)) [.ref (md 1), .ref (md 28)] (S := Unit) (fun r _ => r = nI ((oneS sg sl (strN 2) σ).getD 0)) (fun _ => wM cI cC md T k tm dy P pk ptm pdy hpi tg tl R sg sl (upN (upN u0.1 24 ((oneT sg sl (strN 2) σ).1)) 25 (wlN (oneT sg sl (strN 2) σ).2), u0.2.1, u0.2.2)) 0 0 := by
  refine xMet_i (cc := cX6_oneOf) (nL := 4) (ret := some .int) (by decide +kernel) rfl (Nat.le_of_ble_eq_true rfl) (fun κ A h0 hn0 hE => ?_)
  have hiX6 : ∀ w ∈ u_ws RX6 TX6 52, w ∈ wsX6_oneOf := by decide +kernel
  refine xlv (lv' := [(0, .ref (md 1)), (1, .ref (md 28))]) [0, 1] rfl ?_
  refine xiconst (v := (-1)) h0 dX6_oneOf_0 (by decide) ?_
  refine xistore_n (lv' := [(2, .int (-1)), (0, .ref (md 1)), (1, .ref (md 28))]) h0 dX6_oneOf_1 rfl (by decide) rfl ?_
  refine xiconst (v := (nI 0)) h0 dX6_oneOf_2 (by decide) ?_
  refine xistore_n (lv' := [(3, .int (nI 0)), (2, .int (-1)), (0, .ref (md 1)), (1, .ref (md 28))]) h0 dX6_oneOf_3 rfl (by decide) rfl ?_
  have lp : ∀ (d_ : Nat) (kq : Nat) (fo : Option Nat), (6 - kq ≤ d_) → (kq ≤ 5) → ((fo = none ∧ (σ.1 < sl → ixK (strN 2) (sg σ.1) kq = none)) ∨ (∃ q, fo = some q ∧ σ.2 = 0 ∧ σ.1 < sl ∧ ixS (strN 2) (sg σ.1) = some q)) → (∀ z, fo = some z → z < 2 ^ 31) → XG κ 4 D (xT cI cC) A (xQi (S := Unit) κ D (xT cI cC) A (fun r _ => r = nI ((oneS sg sl (strN 2) σ).getD 0)) (fun _ => wM cI cC md T k tm dy P pk ptm pdy hpi tg tl R sg sl (upN (upN u0.1 24 ((oneT sg sl (strN 2) σ).1)) 25 (wlN (oneT sg sl (strN 2) σ).2), u0.2.1, u0.2.2)) 0 0) (wM cI cC md T k tm dy P pk ptm pdy hpi tg tl R sg sl (upN (upN u0.1 24 σ.1) 25 (wlN σ.2), u0.2.1, u0.2.2)) 0 0 4 [(0, .ref (md 1)), (1, .ref (md 28)), (2, .int (oI fo)), (3, .int (nI kq))] [] := by
    intro d_
    induction d_ with
    | zero => intro kq fo hm_ hk hfo hfb; exact absurd hm_ (by omega)
    | succ d_ ih_lp =>
      intro kq fo hm_ hk hfo hfb
      refine xiload_n h0 3 dX6_oneOf_4 rfl rfl ?_
      refine xaload_n h0 1 dX6_oneOf_5 rfl rfl ?_
      refine xalen h0 15 1 rfl rfl dX6_oneOf_6 ?_
      refine xncmp_ge (tgt := 39) h0 dX6_oneOf_7 (by decide) (by first | omega | exact Nat.lt_of_le_of_lt (wl_le _) (by decide)) (by first | omega | exact Nat.lt_of_le_of_lt (wl_le _) (by decide)) (fun c_1 => ?_) (fun c_1 => ?_)
      · skip
        have hx : fo = none → oneS sg sl (strN 2) σ = none := fun z => by
            rcases hfo with ⟨_, y⟩ | ⟨q, y, _⟩
            · by_cases h2 : σ.2 = 0 ∧ σ.1 < sl
              · exact one_of h2.1 h2.2 (ixS_n (by show 5 ≤ kq; omega) hk (y h2.2))
              · exact one_out h2
            · rw [z] at y; cases y
        refine xiload_n h0 2 dX6_oneOf_39 rfl rfl ?_
        refine xif_ge (tgt := 50) h0 dX6_oneOf_40 (by decide)  (fun c_2 => ?_) (fun c_2 => ?_)
        · skip
          obtain ⟨q, hq⟩ := oI_nn c_2
          have ho : oneS sg sl (strN 2) σ = some q := hfo.elim (fun y => by rw [hq] at y; cases y.1) (fun ⟨q2, y, y2, y3, y4⟩ => by rw [hq] at y; cases y; exact one_of y2 y3 y4)
          have hs0 := (oneS_in ho).1
          have hlt := (oneS_in ho).2.1
          refine xlvE (lv' := [(0, .ref (md 1)), (1, .ref (md 28)), (2, .int (nI q)), (3, .int (nI kq))]) (by rw [hq]; first | done | rfl) ?_
          refine xaload_n h0 0 dX6_oneOf_50 rfl rfl ?_
          refine xdup h0 dX6_oneOf_51 rfl ?_
          refine xget (C := RX6) (T := TX6) (N := 52) (ci := 6) (v := .int (nI σ.1)) h0 hiX6 0 rfl rfl 24 (by decide) (List.mem_of_getElem? (i := 2) rfl) rfl dX6_oneOf_52 ?_
          refine xiconst (v := (nI 1)) h0 dX6_oneOf_55 (by decide) ?_
          refine xiadd (v := (nI (σ.1 + 1))) h0 dX6_oneOf_56 (nI_add _ _) ?_
          refine xput (ws' := (wM cI cC md T k tm dy P pk ptm pdy hpi tg tl R sg sl (upN (upN u0.1 24 (σ.1 + 1)) 25 (wlN σ.2), u0.2.1, u0.2.2))) (C := RX6) (T := TX6) (N := 52) (ci := 6) (ty := tyX6 24) h0 hiX6 tyX6 tyX6_ok nmX6 0 rfl rfl 24 (by decide) (List.mem_of_getElem? (i := 2) rfl) rfl (by decide +kernel) (rfl) (rfl) (Nat.le_of_ble_eq_true rfl) dX6_oneOf_57 rfl ?_
          refine xiload_n h0 2 dX6_oneOf_60 rfl rfl ?_
          exact xiret h0 dX6_oneOf_61 () (by rw [ho]; first | done | rfl) (by first | (rw [oneT_s ho, hs0]; first | done | rfl) | (rw [oneT_n ho]; first | done | rfl))
        · skip
          have ho : oneS sg sl (strN 2) σ = none := hx (oI_ng hfb c_2)
          refine xaload_n h0 0 dX6_oneOf_43 rfl rfl ?_
          refine xiconst (v := (nI 0)) h0 dX6_oneOf_44 (by decide) ?_
          refine xput (ws' := (wM cI cC md T k tm dy P pk ptm pdy hpi tg tl R sg sl (upN (upN u0.1 24 σ.1) 25 0, u0.2.1, u0.2.2))) (C := RX6) (T := TX6) (N := 52) (ci := 6) (ty := tyX6 25) h0 hiX6 tyX6 tyX6_ok nmX6 0 rfl rfl 25 (by decide) (List.mem_of_getElem? (i := 1) rfl) rfl (by decide +kernel) (rfl) (rfl) (Nat.le_of_ble_eq_true rfl) dX6_oneOf_45 rfl ?_
          refine xiconst (v := (nI 0)) h0 dX6_oneOf_48 (by decide) ?_
          exact xiret h0 dX6_oneOf_49 () (by rw [ho]; first | done | rfl) (by first | (rw [oneT_s ho, hs0]; first | done | rfl) | (rw [oneT_n ho]; first | done | rfl))
      · skip
        refine xaload_n h0 0 dX6_oneOf_10 rfl rfl ?_
        refine xget (C := RX6) (T := TX6) (N := 52) (ci := 6) (v := .int (nI (wlN σ.2))) h0 hiX6 0 rfl rfl 25 (by decide) (List.mem_of_getElem? (i := 1) rfl) rfl dX6_oneOf_11 ?_
        refine xnif_eq (tgt := 39) h0 dX6_oneOf_14 (by decide) (by first | omega | exact Nat.lt_of_le_of_lt (wl_le _) (by decide)) (fun c_3 => ?_) (fun c_3 => ?_)
        · skip
          have hx : fo = none → oneS sg sl (strN 2) σ = none := fun _ => oneS_k (wl_0 c_3 hσb)
          refine xiload_n h0 2 dX6_oneOf_39 rfl rfl ?_
          refine xif_ge (tgt := 50) h0 dX6_oneOf_40 (by decide)  (fun c_4 => ?_) (fun c_4 => ?_)
          · skip
            obtain ⟨q, hq⟩ := oI_nn c_4
            have ho : oneS sg sl (strN 2) σ = some q := hfo.elim (fun y => by rw [hq] at y; cases y.1) (fun ⟨q2, y, y2, y3, y4⟩ => by rw [hq] at y; cases y; exact one_of y2 y3 y4)
            have hs0 := (oneS_in ho).1
            have hlt := (oneS_in ho).2.1
            refine xlvE (lv' := [(0, .ref (md 1)), (1, .ref (md 28)), (2, .int (nI q)), (3, .int (nI kq))]) (by rw [hq]; first | done | rfl) ?_
            refine xaload_n h0 0 dX6_oneOf_50 rfl rfl ?_
            refine xdup h0 dX6_oneOf_51 rfl ?_
            refine xget (C := RX6) (T := TX6) (N := 52) (ci := 6) (v := .int (nI σ.1)) h0 hiX6 0 rfl rfl 24 (by decide) (List.mem_of_getElem? (i := 2) rfl) rfl dX6_oneOf_52 ?_
            refine xiconst (v := (nI 1)) h0 dX6_oneOf_55 (by decide) ?_
            refine xiadd (v := (nI (σ.1 + 1))) h0 dX6_oneOf_56 (nI_add _ _) ?_
            refine xput (ws' := (wM cI cC md T k tm dy P pk ptm pdy hpi tg tl R sg sl (upN (upN u0.1 24 (σ.1 + 1)) 25 (wlN σ.2), u0.2.1, u0.2.2))) (C := RX6) (T := TX6) (N := 52) (ci := 6) (ty := tyX6 24) h0 hiX6 tyX6 tyX6_ok nmX6 0 rfl rfl 24 (by decide) (List.mem_of_getElem? (i := 2) rfl) rfl (by decide +kernel) (rfl) (rfl) (Nat.le_of_ble_eq_true rfl) dX6_oneOf_57 rfl ?_
            refine xiload_n h0 2 dX6_oneOf_60 rfl rfl ?_
            exact xiret h0 dX6_oneOf_61 () (by rw [ho]; first | done | rfl) (by first | (rw [oneT_s ho, hs0]; first | done | rfl) | (rw [oneT_n ho]; first | done | rfl))
          · skip
            have ho : oneS sg sl (strN 2) σ = none := hx (oI_ng hfb c_4)
            refine xaload_n h0 0 dX6_oneOf_43 rfl rfl ?_
            refine xiconst (v := (nI 0)) h0 dX6_oneOf_44 (by decide) ?_
            refine xput (ws' := (wM cI cC md T k tm dy P pk ptm pdy hpi tg tl R sg sl (upN (upN u0.1 24 σ.1) 25 0, u0.2.1, u0.2.2))) (C := RX6) (T := TX6) (N := 52) (ci := 6) (ty := tyX6 25) h0 hiX6 tyX6 tyX6_ok nmX6 0 rfl rfl 25 (by decide) (List.mem_of_getElem? (i := 1) rfl) rfl (by decide +kernel) (rfl) (rfl) (Nat.le_of_ble_eq_true rfl) dX6_oneOf_45 rfl ?_
            refine xiconst (v := (nI 0)) h0 dX6_oneOf_48 (by decide) ?_
            exact xiret h0 dX6_oneOf_49 () (by rw [ho]; first | done | rfl) (by first | (rw [oneT_s ho, hs0]; first | done | rfl) | (rw [oneT_n ho]; first | done | rfl))
        · skip
          have hs1 := wl_1 c_3
          refine xiload_n h0 2 dX6_oneOf_17 rfl rfl ?_
          refine xif_ge (tgt := 39) h0 dX6_oneOf_18 (by decide)  (fun c_5 => ?_) (fun c_5 => ?_)
          · skip
            obtain ⟨q0, hq0⟩ := oI_nn c_5
            have hx : fo = none → oneS sg sl (strN 2) σ = none := fun z => by rw [hq0] at z; cases z
            refine xiload_n h0 2 dX6_oneOf_39 rfl rfl ?_
            refine xif_ge (tgt := 50) h0 dX6_oneOf_40 (by decide)  (fun c_6 => ?_) (fun c_6 => ?_)
            · skip
              obtain ⟨q, hq⟩ := oI_nn c_6
              have ho : oneS sg sl (strN 2) σ = some q := hfo.elim (fun y => by rw [hq] at y; cases y.1) (fun ⟨q2, y, y2, y3, y4⟩ => by rw [hq] at y; cases y; exact one_of y2 y3 y4)
              have hs0 := (oneS_in ho).1
              have hlt := (oneS_in ho).2.1
              refine xlvE (lv' := [(0, .ref (md 1)), (1, .ref (md 28)), (2, .int (nI q)), (3, .int (nI kq))]) (by rw [hq]; first | done | rfl) ?_
              refine xaload_n h0 0 dX6_oneOf_50 rfl rfl ?_
              refine xdup h0 dX6_oneOf_51 rfl ?_
              refine xget (C := RX6) (T := TX6) (N := 52) (ci := 6) (v := .int (nI σ.1)) h0 hiX6 0 rfl rfl 24 (by decide) (List.mem_of_getElem? (i := 2) rfl) rfl dX6_oneOf_52 ?_
              refine xiconst (v := (nI 1)) h0 dX6_oneOf_55 (by decide) ?_
              refine xiadd (v := (nI (σ.1 + 1))) h0 dX6_oneOf_56 (nI_add _ _) ?_
              refine xput (ws' := (wM cI cC md T k tm dy P pk ptm pdy hpi tg tl R sg sl (upN (upN u0.1 24 (σ.1 + 1)) 25 (wlN σ.2), u0.2.1, u0.2.2))) (C := RX6) (T := TX6) (N := 52) (ci := 6) (ty := tyX6 24) h0 hiX6 tyX6 tyX6_ok nmX6 0 rfl rfl 24 (by decide) (List.mem_of_getElem? (i := 2) rfl) rfl (by decide +kernel) (rfl) (rfl) (Nat.le_of_ble_eq_true rfl) dX6_oneOf_57 rfl ?_
              refine xiload_n h0 2 dX6_oneOf_60 rfl rfl ?_
              exact xiret h0 dX6_oneOf_61 () (by rw [ho]; first | done | rfl) (by first | (rw [oneT_s ho, hs0]; first | done | rfl) | (rw [oneT_n ho]; first | done | rfl))
            · skip
              have ho : oneS sg sl (strN 2) σ = none := hx (oI_ng hfb c_6)
              refine xaload_n h0 0 dX6_oneOf_43 rfl rfl ?_
              refine xiconst (v := (nI 0)) h0 dX6_oneOf_44 (by decide) ?_
              refine xput (ws' := (wM cI cC md T k tm dy P pk ptm pdy hpi tg tl R sg sl (upN (upN u0.1 24 σ.1) 25 0, u0.2.1, u0.2.2))) (C := RX6) (T := TX6) (N := 52) (ci := 6) (ty := tyX6 25) h0 hiX6 tyX6 tyX6_ok nmX6 0 rfl rfl 25 (by decide) (List.mem_of_getElem? (i := 1) rfl) rfl (by decide +kernel) (rfl) (rfl) (Nat.le_of_ble_eq_true rfl) dX6_oneOf_45 rfl ?_
              refine xiconst (v := (nI 0)) h0 dX6_oneOf_48 (by decide) ?_
              exact xiret h0 dX6_oneOf_49 () (by rw [ho]; first | done | rfl) (by first | (rw [oneT_s ho, hs0]; first | done | rfl) | (rw [oneT_n ho]; first | done | rfl))
          · skip
            have hfn := oI_ng hfb c_5
            have hxk : σ.1 < sl → ixK (strN 2) (sg σ.1) kq = none := fun z => hfo.elim (fun y => y.2 z) (fun ⟨q, y, _⟩ => by rw [hfn] at y; cases y)
            refine xaload_n h0 0 dX6_oneOf_21 rfl rfl ?_
            refine xaload_n h0 1 dX6_oneOf_22 rfl rfl ?_
            refine xiload_n h0 3 dX6_oneOf_23 rfl rfl ?_
            refine xcald (v := (nI ((strN 2).getD kq 0))) h0 15 1 rfl rfl (by omega) (by decide) dX6_oneOf_24 (rfl) ?_
            refine xcallV_i (nn := 1) (w2 := fun u_ => (wM cI cC md T k tm dy P pk ptm pdy hpi tg tl R sg sl (upN (upN u0.1 24 σ.1) 25 (wlN σ.2), u0.2.1, u0.2.2))) (wr := []) (rest := []) h0 (c_X6_comes (xL κ) D cI cC md T k tm dy P pk ptm pdy hpi tg tl R sg sl u0 σ ((strN 2).getD kq 0) hsl hsg hσ hσb (by exact Nat.lt_trans (str_lt 2 (by decide) kq (by show kq < 5; omega)) (by decide))) gX6_oneOf_X6_comes (by decide +kernel) rfl rfl rfl ⟨Nat.le_of_ble_eq_true rfl, Nat.le_of_ble_eq_true rfl⟩ ⟨by decide, by decide⟩ (fun _ _ _ _ h => h) (fun _ _ _ _ _ _ _ => trivial) rfl (Nat.le_of_ble_eq_true rfl) (q0 := 0) rfl rfl rfl [0, 1, 2, 3, 4, 5, 6, 7, 8, 9, 10, 11, 12, 13, 14, 15, 16, 17, 18, 19, 20, 21] [] [0, 1, 2, 3, 4, 5, 6, 7, 8, 9, 10, 11, 12, 13, 14, 15, 16, 17, 18, 19, 20, 21] ⟨rfl, rfl, rfl, rfl, rfl⟩ (fun _ => ⟨rfl, rfl⟩) dX6_oneOf_25 (fun r_8 u_ hr_7 => ?_)
            subst hr_7
            refine xbif_eq (tgt := 33) h0 dX6_oneOf_28 (by decide)  (fun c_9 => ?_) (fun c_9 => ?_)
            · skip
              have hfo2 : (fo = none ∧ (σ.1 < sl → ixK (strN 2) (sg σ.1) (kq + 1) = none)) ∨ (∃ q, fo = some q ∧ σ.2 = 0 ∧ σ.1 < sl ∧ ixS (strN 2) (sg σ.1) = some q) := Or.inl ⟨hfn, fun z => ixK_n (hxk z) (fun y => c_9 ⟨z, y.symm⟩)⟩
              refine xiinc (v := (nI (kq + 1))) (lv' := [(3, .int (nI (kq + 1))), (0, .ref (md 1)), (1, .ref (md 28)), (2, .int (oI fo))]) h0 3 dX6_oneOf_33 rfl (nI_add _ _) (by decide) rfl ?_
              refine xgoto (tgt := 4) h0 dX6_oneOf_36 (by decide) ?_
              refine xlv [1, 2, 3, 0] rfl ?_
              exact ih_lp (kq + 1) fo (by omega) (by omega) (by exact hfo2) (by first | exact hfb | (intro z hz; cases hz; omega))
            · skip
              have hfo2 : (some kq = none ∧ (σ.1 < sl → ixK (strN 2) (sg σ.1) (kq + 1) = none)) ∨ (∃ q, some kq = some q ∧ σ.2 = 0 ∧ σ.1 < sl ∧ ixS (strN 2) (sg σ.1) = some q) := Or.inr ⟨kq, rfl, hs1, c_9.1, ixS_y (by show kq < 5; omega) (hxk c_9.1) c_9.2.symm⟩
              refine xiload_n h0 3 dX6_oneOf_31 rfl rfl ?_
              refine xistore_n (lv' := [(2, .int (nI kq)), (0, .ref (md 1)), (1, .ref (md 28)), (3, .int (nI kq))]) h0 dX6_oneOf_32 rfl (by decide) rfl ?_
              refine xiinc (v := (nI (kq + 1))) (lv' := [(3, .int (nI (kq + 1))), (2, .int (nI kq)), (0, .ref (md 1)), (1, .ref (md 28))]) h0 3 dX6_oneOf_33 rfl (nI_add _ _) (by decide) rfl ?_
              refine xgoto (tgt := 4) h0 dX6_oneOf_36 (by decide) ?_
              refine xlv [2, 3, 1, 0] rfl ?_
              exact ih_lp (kq + 1) (some kq) (by omega) (by omega) (by exact hfo2) (by first | exact hfb | (intro z hz; cases hz; omega))
  refine xlv [2, 3, 1, 0] rfl ?_
  exact lp (6) 0 none (by omega) (by decide) (by exact Or.inl ⟨rfl, fun _ => rfl⟩) (by intro z hz; cases hz)
set_option maxHeartbeats 4000000 in
set_option maxRecDepth 100000 in
theorem c_X6_number (l : Launch) (D : va_G) (cI cC : ClassId) (md : Nat → Nat) (T : TT) (k tm dy : Nat) (P : TT) (pk ptm pdy hpi : Nat) (tg : Nat → Nat) (tl : Nat) (R : Nat → Nat) (sg : Nat → Nat) (sl : Nat) (u0 : ScmT) (σ : Nat × Nat) (m : Nat) (hsl : sl ≤ 64) (hsg : ∀ j, sg j < 256) (hσ : σ.1 ≤ sl) (hσb : σ.2 = 0 ∨ σ.2 = 1) (hm3 : m ≤ 3) : XMi l yX6_number wsX6_number ({ frames := 0, cells := 0, slots := 0, locals := 0 } : Room) D (xT cI cC) xE0 (wM cI cC md T k tm dy P pk ptm pdy hpi tg tl R sg sl (upN (upN u0.1 24 σ.1) 25 (wlN σ.2), u0.2.1, u0.2.2)) [.ref (md 1), .int (nI m)] (S := Unit) (fun r _ => r = nI (numV sg sl m σ)) (fun _ => wM cI cC md T k tm dy P pk ptm pdy hpi tg tl R sg sl (upN (upN u0.1 24 ((numT sg sl m σ).1)) 25 (wlN (numT sg sl m σ).2), u0.2.1, u0.2.2)) 0 0 := by
  refine xMet_i (cc := cX6_number) (nL := 4) (ret := some .int) (by decide +kernel) rfl (Nat.le_of_ble_eq_true rfl) (fun κ A h0 hn0 hE => ?_)
  have hiX6 : ∀ w ∈ u_ws RX6 TX6 52, w ∈ wsX6_number := by decide +kernel
  refine xlv (lv' := [(0, .ref (md 1)), (1, .int (nI m))]) [0, 1] rfl ?_
  refine xiconst (v := (nI 0)) h0 dX6_number_0 (by decide) ?_
  refine xistore_n (lv' := [(2, .int (nI 0)), (0, .ref (md 1)), (1, .int (nI m))]) h0 dX6_number_1 rfl (by decide) rfl ?_
  refine xiconst (v := (nI 0)) h0 dX6_number_2 (by decide) ?_
  refine xistore_n (lv' := [(3, .int (nI 0)), (2, .int (nI 0)), (0, .ref (md 1)), (1, .int (nI m))]) h0 dX6_number_3 rfl (by decide) rfl ?_
  have lp : ∀ (d_ : Nat) (n : Nat), (4 - n ≤ d_) → (n ≤ m) → ((numK sg sl σ n).1 = n) → XG κ 4 D (xT cI cC) A (xQi (S := Unit) κ D (xT cI cC) A (fun r _ => r = nI (numV sg sl m σ)) (fun _ => wM cI cC md T k tm dy P pk ptm pdy hpi tg tl R sg sl (upN (upN u0.1 24 ((numT sg sl m σ).1)) 25 (wlN (numT sg sl m σ).2), u0.2.1, u0.2.2)) 0 0) (wM cI cC md T k tm dy P pk ptm pdy hpi tg tl R sg sl (upN (upN u0.1 24 (σ.1 + n)) 25 (wlN σ.2), u0.2.1, u0.2.2)) 0 0 4 [(0, .ref (md 1)), (1, .int (nI m)), (2, .int (nI (numV sg sl n σ))), (3, .int (nI n))] [] := by
    intro d_
    induction d_ with
    | zero => intro n hm_ hn hc; exact absurd hm_ (by omega)
    | succ d_ ih_lp =>
      intro n hm_ hn hc
      refine xaload_n h0 0 dX6_number_4 rfl rfl ?_
      refine xget (C := RX6) (T := TX6) (N := 52) (ci := 6) (v := .int (nI (wlN σ.2))) h0 hiX6 0 rfl rfl 25 (by decide) (List.mem_of_getElem? (i := 1) rfl) rfl dX6_number_5 ?_
      refine xnif_eq (tgt := 89) h0 dX6_number_8 (by decide) (by first | omega | exact Nat.lt_of_le_of_lt (wl_le _) (by decide) | (have := hsg (σ.1 + n); omega)) (fun c_1 => ?_) (fun c_1 => ?_)
      · skip
        have hK := num_st (G := sg) (sl := sl) hn (oneS_k (σ := (σ.1 + n, σ.2)) (wl_0 c_1 hσb))
        refine xiload_n h0 3 dX6_number_89 rfl rfl ?_
        refine xnif_ne (tgt := 98) h0 dX6_number_90 (by decide) (by first | omega | exact Nat.lt_of_le_of_lt (wl_le _) (by decide) | (have := hsg (σ.1 + n); omega)) (fun c_2 => ?_) (fun c_2 => ?_)
        · skip
          have hn1 : (numK sg sl σ n).1 ≠ 0 := by rw [hc]; omega
          have hs0 := (numK_ok n hn1).1
          refine xiload_n h0 2 dX6_number_98 rfl rfl ?_
          exact xiret h0 dX6_number_99 () (by unfold numV; rw [hK]) (by first | (rw [numT_p (by rw [hK]; exact hn1), hK, hc, hs0]; first | done | rfl) | (rw [numT_z (by rw [hK, hc]; exact hn0), hn0]; first | done | rfl))
        · skip
          have hn0 : n = 0 := c_2
          refine xaload_n h0 0 dX6_number_93 rfl rfl ?_
          refine xiconst (v := (nI 0)) h0 dX6_number_94 (by decide) ?_
          refine xput (ws' := (wM cI cC md T k tm dy P pk ptm pdy hpi tg tl R sg sl (upN (upN u0.1 24 (σ.1 + n)) 25 0, u0.2.1, u0.2.2))) (C := RX6) (T := TX6) (N := 52) (ci := 6) (ty := tyX6 25) h0 hiX6 tyX6 tyX6_ok nmX6 0 rfl rfl 25 (by decide) (List.mem_of_getElem? (i := 1) rfl) rfl (by decide +kernel) (rfl) (rfl) (Nat.le_of_ble_eq_true rfl) dX6_number_95 rfl ?_
          refine xiload_n h0 2 dX6_number_98 rfl rfl ?_
          exact xiret h0 dX6_number_99 () (by unfold numV; rw [hK]) (by first | (rw [numT_p (by rw [hK]; exact hn1), hK, hc, hs0]; first | done | rfl) | (rw [numT_z (by rw [hK, hc]; exact hn0), hn0]; first | done | rfl))
      · skip
        have hs1 := wl_1 c_1
        refine xiload_n h0 3 dX6_number_11 rfl rfl ?_
        refine xiload_n h0 1 dX6_number_12 rfl rfl ?_
        refine xncmp_ge (tgt := 89) h0 dX6_number_13 (by decide) (by first | omega | exact Nat.lt_of_le_of_lt (wl_le _) (by decide) | (have := hsg (σ.1 + n); omega)) (by first | omega | exact Nat.lt_of_le_of_lt (wl_le _) (by decide) | (have := hsg (σ.1 + n); omega)) (fun c_3 => ?_) (fun c_3 => ?_)
        · skip
          have hK : numK sg sl σ m = numK sg sl σ n := by rw [show m = n by omega]
          refine xiload_n h0 3 dX6_number_89 rfl rfl ?_
          refine xnif_ne (tgt := 98) h0 dX6_number_90 (by decide) (by first | omega | exact Nat.lt_of_le_of_lt (wl_le _) (by decide) | (have := hsg (σ.1 + n); omega)) (fun c_4 => ?_) (fun c_4 => ?_)
          · skip
            have hn1 : (numK sg sl σ n).1 ≠ 0 := by rw [hc]; omega
            have hs0 := (numK_ok n hn1).1
            refine xiload_n h0 2 dX6_number_98 rfl rfl ?_
            exact xiret h0 dX6_number_99 () (by unfold numV; rw [hK]) (by first | (rw [numT_p (by rw [hK]; exact hn1), hK, hc, hs0]; first | done | rfl) | (rw [numT_z (by rw [hK, hc]; exact hn0), hn0]; first | done | rfl))
          · skip
            have hn0 : n = 0 := c_4
            refine xaload_n h0 0 dX6_number_93 rfl rfl ?_
            refine xiconst (v := (nI 0)) h0 dX6_number_94 (by decide) ?_
            refine xput (ws' := (wM cI cC md T k tm dy P pk ptm pdy hpi tg tl R sg sl (upN (upN u0.1 24 (σ.1 + n)) 25 0, u0.2.1, u0.2.2))) (C := RX6) (T := TX6) (N := 52) (ci := 6) (ty := tyX6 25) h0 hiX6 tyX6 tyX6_ok nmX6 0 rfl rfl 25 (by decide) (List.mem_of_getElem? (i := 1) rfl) rfl (by decide +kernel) (rfl) (rfl) (Nat.le_of_ble_eq_true rfl) dX6_number_95 rfl ?_
            refine xiload_n h0 2 dX6_number_98 rfl rfl ?_
            exact xiret h0 dX6_number_99 () (by unfold numV; rw [hK]) (by first | (rw [numT_p (by rw [hK]; exact hn1), hK, hc, hs0]; first | done | rfl) | (rw [numT_z (by rw [hK, hc]; exact hn0), hn0]; first | done | rfl))
        · skip
          refine xaload_n h0 0 dX6_number_16 rfl rfl ?_
          refine xget (C := RX6) (T := TX6) (N := 52) (ci := 6) (v := .int (nI (σ.1 + n))) h0 hiX6 0 rfl rfl 24 (by decide) (List.mem_of_getElem? (i := 2) rfl) rfl dX6_number_17 ?_
          refine xaload_n h0 0 dX6_number_20 rfl rfl ?_
          refine xget (C := RX6) (T := TX6) (N := 52) (ci := 6) (v := .int (nI sl)) h0 hiX6 0 rfl rfl 23 (by decide) (List.mem_of_getElem? (i := 3) rfl) rfl dX6_number_21 ?_
          refine xncmp_ge (tgt := 89) h0 dX6_number_24 (by decide) (by first | omega | exact Nat.lt_of_le_of_lt (wl_le _) (by decide) | (have := hsg (σ.1 + n); omega)) (by first | omega | exact Nat.lt_of_le_of_lt (wl_le _) (by decide) | (have := hsg (σ.1 + n); omega)) (fun c_5 => ?_) (fun c_5 => ?_)
          · skip
            have hK := num_st (G := sg) (sl := sl) hn (one_out (σ := (σ.1 + n, σ.2)) (fun z => absurd z.2 (Nat.not_lt.mpr c_5)))
            refine xiload_n h0 3 dX6_number_89 rfl rfl ?_
            refine xnif_ne (tgt := 98) h0 dX6_number_90 (by decide) (by first | omega | exact Nat.lt_of_le_of_lt (wl_le _) (by decide) | (have := hsg (σ.1 + n); omega)) (fun c_6 => ?_) (fun c_6 => ?_)
            · skip
              have hn1 : (numK sg sl σ n).1 ≠ 0 := by rw [hc]; omega
              have hs0 := (numK_ok n hn1).1
              refine xiload_n h0 2 dX6_number_98 rfl rfl ?_
              exact xiret h0 dX6_number_99 () (by unfold numV; rw [hK]) (by first | (rw [numT_p (by rw [hK]; exact hn1), hK, hc, hs0]; first | done | rfl) | (rw [numT_z (by rw [hK, hc]; exact hn0), hn0]; first | done | rfl))
            · skip
              have hn0 : n = 0 := c_6
              refine xaload_n h0 0 dX6_number_93 rfl rfl ?_
              refine xiconst (v := (nI 0)) h0 dX6_number_94 (by decide) ?_
              refine xput (ws' := (wM cI cC md T k tm dy P pk ptm pdy hpi tg tl R sg sl (upN (upN u0.1 24 (σ.1 + n)) 25 0, u0.2.1, u0.2.2))) (C := RX6) (T := TX6) (N := 52) (ci := 6) (ty := tyX6 25) h0 hiX6 tyX6 tyX6_ok nmX6 0 rfl rfl 25 (by decide) (List.mem_of_getElem? (i := 1) rfl) rfl (by decide +kernel) (rfl) (rfl) (Nat.le_of_ble_eq_true rfl) dX6_number_95 rfl ?_
              refine xiload_n h0 2 dX6_number_98 rfl rfl ?_
              exact xiret h0 dX6_number_99 () (by unfold numV; rw [hK]) (by first | (rw [numT_p (by rw [hK]; exact hn1), hK, hc, hs0]; first | done | rfl) | (rw [numT_z (by rw [hK, hc]; exact hn0), hn0]; first | done | rfl))
          · skip
            refine xaload_n h0 0 dX6_number_27 rfl rfl ?_
            refine xget (C := RX6) (T := TX6) (N := 52) (ci := 6) (v := .ref (md 22)) h0 hiX6 0 rfl rfl 22 (by decide) (List.mem_of_getElem? (i := 4) rfl) rfl dX6_number_28 ?_
            refine xaload_n h0 0 dX6_number_31 rfl rfl ?_
            refine xget (C := RX6) (T := TX6) (N := 52) (ci := 6) (v := .int (nI (σ.1 + n))) h0 hiX6 0 rfl rfl 24 (by decide) (List.mem_of_getElem? (i := 2) rfl) rfl dX6_number_32 ?_
            refine xiald (v := (nI (sg (σ.1 + n)))) h0 12 0 rfl rfl (by omega) (by decide) dX6_number_35 (rfl) ?_
            refine xbipush (v := (nI 48)) h0 dX6_number_36 (by decide) ?_
            refine xncmp_lt (tgt := 89) h0 dX6_number_38 (by decide) (by first | omega | exact Nat.lt_of_le_of_lt (wl_le _) (by decide) | (have := hsg (σ.1 + n); omega)) (by first | omega | exact Nat.lt_of_le_of_lt (wl_le _) (by decide) | (have := hsg (σ.1 + n); omega)) (fun c_7 => ?_) (fun c_7 => ?_)
            · skip
              have hK := num_st (G := sg) (sl := sl) hn (one_of (σ := (σ.1 + n, σ.2)) hs1 (by show σ.1 + n < sl; omega) (dig_n _ (hsg _) (Or.inl c_7)))
              refine xiload_n h0 3 dX6_number_89 rfl rfl ?_
              refine xnif_ne (tgt := 98) h0 dX6_number_90 (by decide) (by first | omega | exact Nat.lt_of_le_of_lt (wl_le _) (by decide) | (have := hsg (σ.1 + n); omega)) (fun c_8 => ?_) (fun c_8 => ?_)
              · skip
                have hn1 : (numK sg sl σ n).1 ≠ 0 := by rw [hc]; omega
                have hs0 := (numK_ok n hn1).1
                refine xiload_n h0 2 dX6_number_98 rfl rfl ?_
                exact xiret h0 dX6_number_99 () (by unfold numV; rw [hK]) (by first | (rw [numT_p (by rw [hK]; exact hn1), hK, hc, hs0]; first | done | rfl) | (rw [numT_z (by rw [hK, hc]; exact hn0), hn0]; first | done | rfl))
              · skip
                have hn0 : n = 0 := c_8
                refine xaload_n h0 0 dX6_number_93 rfl rfl ?_
                refine xiconst (v := (nI 0)) h0 dX6_number_94 (by decide) ?_
                refine xput (ws' := (wM cI cC md T k tm dy P pk ptm pdy hpi tg tl R sg sl (upN (upN u0.1 24 (σ.1 + n)) 25 0, u0.2.1, u0.2.2))) (C := RX6) (T := TX6) (N := 52) (ci := 6) (ty := tyX6 25) h0 hiX6 tyX6 tyX6_ok nmX6 0 rfl rfl 25 (by decide) (List.mem_of_getElem? (i := 1) rfl) rfl (by decide +kernel) (rfl) (rfl) (Nat.le_of_ble_eq_true rfl) dX6_number_95 rfl ?_
                refine xiload_n h0 2 dX6_number_98 rfl rfl ?_
                exact xiret h0 dX6_number_99 () (by unfold numV; rw [hK]) (by first | (rw [numT_p (by rw [hK]; exact hn1), hK, hc, hs0]; first | done | rfl) | (rw [numT_z (by rw [hK, hc]; exact hn0), hn0]; first | done | rfl))
            · skip
              have h48 : 48 ≤ sg (σ.1 + n) := c_7
              refine xaload_n h0 0 dX6_number_41 rfl rfl ?_
              refine xget (C := RX6) (T := TX6) (N := 52) (ci := 6) (v := .ref (md 22)) h0 hiX6 0 rfl rfl 22 (by decide) (List.mem_of_getElem? (i := 4) rfl) rfl dX6_number_42 ?_
              refine xaload_n h0 0 dX6_number_45 rfl rfl ?_
              refine xget (C := RX6) (T := TX6) (N := 52) (ci := 6) (v := .int (nI (σ.1 + n))) h0 hiX6 0 rfl rfl 24 (by decide) (List.mem_of_getElem? (i := 2) rfl) rfl dX6_number_46 ?_
              refine xiald (v := (nI (sg (σ.1 + n)))) h0 12 0 rfl rfl (by omega) (by decide) dX6_number_49 (rfl) ?_
              refine xbipush (v := (nI 57)) h0 dX6_number_50 (by decide) ?_
              refine xncmp_gt (tgt := 89) h0 dX6_number_52 (by decide) (by first | omega | exact Nat.lt_of_le_of_lt (wl_le _) (by decide) | (have := hsg (σ.1 + n); omega)) (by first | omega | exact Nat.lt_of_le_of_lt (wl_le _) (by decide) | (have := hsg (σ.1 + n); omega)) (fun c_9 => ?_) (fun c_9 => ?_)
              · skip
                have hK := num_st (G := sg) (sl := sl) hn (one_of (σ := (σ.1 + n, σ.2)) hs1 (by show σ.1 + n < sl; omega) (dig_n _ (hsg _) (Or.inr c_9)))
                refine xiload_n h0 3 dX6_number_89 rfl rfl ?_
                refine xnif_ne (tgt := 98) h0 dX6_number_90 (by decide) (by first | omega | exact Nat.lt_of_le_of_lt (wl_le _) (by decide) | (have := hsg (σ.1 + n); omega)) (fun c_10 => ?_) (fun c_10 => ?_)
                · skip
                  have hn1 : (numK sg sl σ n).1 ≠ 0 := by rw [hc]; omega
                  have hs0 := (numK_ok n hn1).1
                  refine xiload_n h0 2 dX6_number_98 rfl rfl ?_
                  exact xiret h0 dX6_number_99 () (by unfold numV; rw [hK]) (by first | (rw [numT_p (by rw [hK]; exact hn1), hK, hc, hs0]; first | done | rfl) | (rw [numT_z (by rw [hK, hc]; exact hn0), hn0]; first | done | rfl))
                · skip
                  have hn0 : n = 0 := c_10
                  refine xaload_n h0 0 dX6_number_93 rfl rfl ?_
                  refine xiconst (v := (nI 0)) h0 dX6_number_94 (by decide) ?_
                  refine xput (ws' := (wM cI cC md T k tm dy P pk ptm pdy hpi tg tl R sg sl (upN (upN u0.1 24 (σ.1 + n)) 25 0, u0.2.1, u0.2.2))) (C := RX6) (T := TX6) (N := 52) (ci := 6) (ty := tyX6 25) h0 hiX6 tyX6 tyX6_ok nmX6 0 rfl rfl 25 (by decide) (List.mem_of_getElem? (i := 1) rfl) rfl (by decide +kernel) (rfl) (rfl) (Nat.le_of_ble_eq_true rfl) dX6_number_95 rfl ?_
                  refine xiload_n h0 2 dX6_number_98 rfl rfl ?_
                  exact xiret h0 dX6_number_99 () (by unfold numV; rw [hK]) (by first | (rw [numT_p (by rw [hK]; exact hn1), hK, hc, hs0]; first | done | rfl) | (rw [numT_z (by rw [hK, hc]; exact hn0), hn0]; first | done | rfl))
              · skip
                have hd : oneS sg sl (strN 5) (σ.1 + n, σ.2) = some (sg (σ.1 + n) - 48) := one_of (σ := (σ.1 + n, σ.2)) hs1 (by show σ.1 + n < sl; omega) (dig_y _ (hsg _) h48 c_9)
                have hk1 := numK_y hc hd
                have hv1 : numV sg sl (n + 1) σ = 10 * numV sg sl n σ + (sg (σ.1 + n) - 48) := by unfold numV; rw [hk1]
                refine xbipush (v := (nI 10)) h0 dX6_number_55 (by decide) ?_
                refine xiload_n h0 2 dX6_number_57 rfl rfl ?_
                refine ximul (v := (nI (10 * (numV sg sl n σ)))) h0 dX6_number_58 (pk_mul _ _) ?_
                refine xaload_n h0 0 dX6_number_59 rfl rfl ?_
                refine xget (C := RX6) (T := TX6) (N := 52) (ci := 6) (v := .ref (md 22)) h0 hiX6 0 rfl rfl 22 (by decide) (List.mem_of_getElem? (i := 4) rfl) rfl dX6_number_60 ?_
                refine xaload_n h0 0 dX6_number_63 rfl rfl ?_
                refine xget (C := RX6) (T := TX6) (N := 52) (ci := 6) (v := .int (nI (σ.1 + n))) h0 hiX6 0 rfl rfl 24 (by decide) (List.mem_of_getElem? (i := 2) rfl) rfl dX6_number_64 ?_
                refine xiald (v := (nI (sg (σ.1 + n)))) h0 12 0 rfl rfl (by omega) (by decide) dX6_number_67 (rfl) ?_
                refine xiadd (v := (nI ((10 * (numV sg sl n σ)) + (sg (σ.1 + n))))) h0 dX6_number_68 (nI_add _ _) ?_
                refine xbipush (v := (nI 48)) h0 dX6_number_69 (by decide) ?_
                refine xisub (v := (nI (numV sg sl (n + 1) σ))) h0 dX6_number_71 ((pk_sub (by omega)).trans (congrArg nI (by omega))) ?_
                refine xistore_n (lv' := [(2, .int (nI (numV sg sl (n + 1) σ))), (0, .ref (md 1)), (1, .int (nI m)), (3, .int (nI n))]) h0 dX6_number_72 rfl (by decide) rfl ?_
                refine xaload_n h0 1 dX6_number_73 rfl rfl ?_
                refine xdup h0 dX6_number_74 rfl ?_
                refine xget (C := RX6) (T := TX6) (N := 52) (ci := 6) (v := .int (nI (σ.1 + n))) h0 hiX6 0 rfl rfl 24 (by decide) (List.mem_of_getElem? (i := 2) rfl) rfl dX6_number_75 ?_
                refine xiconst (v := (nI 1)) h0 dX6_number_78 (by decide) ?_
                refine xiadd (v := (nI ((σ.1 + n) + 1))) h0 dX6_number_79 (nI_add _ _) ?_
                refine xput (ws' := (wM cI cC md T k tm dy P pk ptm pdy hpi tg tl R sg sl (upN (upN u0.1 24 ((σ.1 + n) + 1)) 25 (wlN σ.2), u0.2.1, u0.2.2))) (C := RX6) (T := TX6) (N := 52) (ci := 6) (ty := tyX6 24) h0 hiX6 tyX6 tyX6_ok nmX6 0 rfl rfl 24 (by decide) (List.mem_of_getElem? (i := 2) rfl) rfl (by decide +kernel) (rfl) (rfl) (Nat.le_of_ble_eq_true rfl) dX6_number_80 rfl ?_
                refine xiinc (v := (nI (n + 1))) (lv' := [(3, .int (nI (n + 1))), (2, .int (nI (numV sg sl (n + 1) σ))), (0, .ref (md 1)), (1, .int (nI m))]) h0 3 dX6_number_83 rfl (nI_add _ _) (by decide) rfl ?_
                refine xgoto (tgt := 4) h0 dX6_number_86 (by decide) ?_
                refine xlv [2, 3, 1, 0] rfl ?_
                exact ih_lp (n + 1) (by omega) (by omega) (by rw [hk1])
  refine xlv [2, 3, 1, 0] rfl ?_
  exact lp (4) 0 (by omega) (by exact Nat.zero_le _) (by rfl)
set_option maxHeartbeats 40000000 in
set_option maxRecDepth 100000 in
theorem c_X6_statement (l : Launch) (D : va_G) (cI cC : ClassId) (md : Nat → Nat) (T : TT) (k tm dy : Nat) (P : TT) (pk ptm pdy hpi : Nat) (tg : Nat → Nat) (tl : Nat) (R : Nat → Nat) (sg : Nat → Nat) (sl : Nat) (u0 : ScmT) (σ : Nat × Nat) (hsl : sl ≤ 64) (hsg : ∀ j, sg j < 256) (hσ : σ.1 ≤ sl) (hσb : σ.2 = 0 ∨ σ.2 = 1) : XMv l yX6_statement wsX6_statement ({ frames := 2, cells := 0, slots := 0, locals := 44 } : Room) D (xT cI cC) xE0 (wM cI cC md T k tm dy P pk ptm pdy hpi tg tl R sg sl (upN (upN u0.1 24 σ.1) 25 (wlN σ.2), u0.2.1, u0.2.2)) [.ref (md 1)] (S := Unit) (fun _ => True) (fun _ => wM cI cC md T k tm dy P pk ptm pdy hpi tg tl R sg sl (upN (upN (upN u0.1 24 ((srT sg sl σ).1)) 25 (wlN (srT sg sl σ).2)) 29 (srS sg sl σ), upA u0.2.1 30 (srF sg sl σ (u0.2.1 30)), u0.2.2)) 0 0 := by
  refine xMet_v (cc := cX6_statement) (nL := 1)  (by decide +kernel) rfl (Nat.le_of_ble_eq_true rfl) (fun κ A h0 hn0 hE => ?_)
  have hiX6 : ∀ w ∈ u_ws RX6 TX6 52, w ∈ wsX6_statement := by decide +kernel
  refine xlv (lv' := [(0, .ref (md 1))]) [0] rfl ?_
  refine xaload_n h0 0 dX6_statement_0 rfl rfl ?_
  refine xaload_n h0 0 dX6_statement_1 rfl rfl ?_
  refine xaload_n h0 0 dX6_statement_2 rfl rfl ?_
  refine xget (C := RX6) (T := TX6) (N := 52) (ci := 6) (v := .ref (md 26)) h0 hiX6 0 rfl rfl 26 (by decide) (List.mem_of_getElem? (i := 1) rfl) rfl dX6_statement_3 ?_
  refine xcallV_i (nn := 1) (w2 := fun u_ => (wM cI cC md T k tm dy P pk ptm pdy hpi tg tl R sg sl (upN (upN u0.1 24 ((oneT sg sl (strN 0) σ).1)) 25 (wlN (oneT sg sl (strN 0) σ).2), u0.2.1, u0.2.2))) (wr := []) (rest := [.ref (md 1)]) h0 (c_X6_oneOf_26 (xL κ) D cI cC md T k tm dy P pk ptm pdy hpi tg tl R sg sl u0 σ  hsl hsg hσ hσb ) gX6_statement_X6_oneOf (by decide +kernel) rfl rfl rfl ⟨Nat.le_of_ble_eq_true rfl, Nat.le_of_ble_eq_true rfl⟩ ⟨by decide, by decide⟩ (fun _ _ _ _ h => h) (fun _ _ _ _ _ _ _ => trivial) rfl (Nat.le_of_ble_eq_true rfl) (q0 := 0) rfl rfl rfl [0, 1, 2, 3, 4, 5, 6, 7, 8, 9, 10, 11, 12, 13, 14, 15, 16, 17, 18, 19, 20, 21] [] [0, 1, 2, 3, 4, 5, 6, 7, 8, 9, 10, 11, 12, 13, 14, 15, 16, 17, 18, 19, 20, 21] ⟨rfl, rfl, rfl, rfl, rfl⟩ (fun _ => ⟨rfl, rfl⟩) dX6_statement_6 (fun r_2 u_ hr_1 => ?_)
  subst hr_1
  obtain ⟨τ_3, hτ_3⟩ : ∃ z, oneT sg sl (strN 0) σ = z := ⟨_, rfl⟩
  have τ_3a : τ_3.1 ≤ sl := by rw [← hτ_3]; exact (oneT_le hσ)
  have τ_3b : τ_3.2 = 0 ∨ τ_3.2 = 1 := by rw [← hτ_3]; exact oneT_b
  refine xeq (ws' := (wM cI cC md T k tm dy P pk ptm pdy hpi tg tl R sg sl (upN (upN u0.1 24 τ_3.1) 25 (wlN τ_3.2), u0.2.1, u0.2.2))) (by rw [hτ_3]) ?_
  refine xtop (v' := nI (srS sg sl σ)) rfl ?_
  refine xput (ws' := (wM cI cC md T k tm dy P pk ptm pdy hpi tg tl R sg sl (upN (upN (upN u0.1 24 τ_3.1) 25 (wlN τ_3.2)) 29 (srS sg sl σ), u0.2.1, u0.2.2))) (C := RX6) (T := TX6) (N := 52) (ci := 6) (ty := tyX6 29) h0 hiX6 tyX6 tyX6_ok nmX6 0 rfl rfl 29 (by decide) (List.mem_of_getElem? (i := 2) rfl) rfl (by decide +kernel) (rfl) (rfl) (Nat.le_of_ble_eq_true rfl) dX6_statement_9 rfl ?_
  refine xaload_n h0 0 dX6_statement_12 rfl rfl ?_
  refine xget (C := RX6) (T := TX6) (N := 52) (ci := 6) (v := .int (nI (srS sg sl σ))) h0 hiX6 0 rfl rfl 29 (by decide) (List.mem_of_getElem? (i := 2) rfl) rfl dX6_statement_13 ?_
  refine xnif_ne (tgt := 78) h0 dX6_statement_16 (by decide) (by have := srS_le (G := sg) (sl := sl) σ; omega) (fun c_4 => ?_) (fun c_4 => ?_)
  · skip
    have hs0 : srS sg sl σ ≠ 0 := Nat.pos_iff_ne_zero.mp c_4
    refine xaload_n h0 0 dX6_statement_78 rfl rfl ?_
    refine xget (C := RX6) (T := TX6) (N := 52) (ci := 6) (v := .int (nI (srS sg sl σ))) h0 hiX6 0 rfl rfl 29 (by decide) (List.mem_of_getElem? (i := 2) rfl) rfl dX6_statement_79 ?_
    refine xiconst (v := (nI 3)) h0 dX6_statement_82 (by decide) ?_
    refine xncmp_ne (tgt := 100) h0 dX6_statement_83 (by decide) (by have := srS_le (G := sg) (sl := sl) σ; omega) (by have := srS_le (G := sg) (sl := sl) σ; omega) (fun c_5 => ?_) (fun c_5 => ?_)
    · skip
      have hs3 : srS sg sl σ ≠ 3 := c_5
      refine xaload_n h0 0 dX6_statement_100 rfl rfl ?_
      refine xget (C := RX6) (T := TX6) (N := 52) (ci := 6) (v := .ref (md 30)) h0 hiX6 0 rfl rfl 30 (by decide) (List.mem_of_getElem? (i := 3) rfl) rfl dX6_statement_101 ?_
      refine xiconst (v := (nI 0)) h0 dX6_statement_104 (by decide) ?_
      refine xaload_n h0 0 dX6_statement_105 rfl rfl ?_
      refine xiconst (v := (nI 1)) h0 dX6_statement_106 (by decide) ?_
      refine xcallV_i (nn := 1) (w2 := fun u_ => (wM cI cC md T k tm dy P pk ptm pdy hpi tg tl R sg sl (upN (upN (upN u0.1 24 ((numT sg sl 1 τ_3).1)) 25 (wlN (numT sg sl 1 τ_3).2)) 29 (srS sg sl σ), u0.2.1, u0.2.2))) (wr := []) (rest := [.int (nI 0), .ref (md 30)]) h0 (c_X6_number (xL κ) D cI cC md T k tm dy P pk ptm pdy hpi tg tl R sg sl (upN u0.1 29 (srS sg sl σ), u0.2.1, u0.2.2) τ_3 1 hsl hsg τ_3a τ_3b (by omega)) gX6_statement_X6_number (by decide +kernel) rfl rfl rfl ⟨Nat.le_of_ble_eq_true rfl, Nat.le_of_ble_eq_true rfl⟩ ⟨by decide, by decide⟩ (fun _ _ _ _ h => h) (fun _ _ _ _ _ _ _ => trivial) rfl (Nat.le_of_ble_eq_true rfl) (q0 := 0) rfl rfl rfl [0, 1, 2, 3, 4, 5, 6, 7, 8, 9, 10, 11, 12, 13, 14, 15, 16, 17, 18, 19, 20, 21] [] [0, 1, 2, 3, 4, 5, 6, 7, 8, 9, 10, 11, 12, 13, 14, 15, 16, 17, 18, 19, 20, 21] ⟨rfl, rfl, rfl, rfl, rfl⟩ (fun _ => ⟨rfl, rfl⟩) dX6_statement_107 (fun r_7 u_ hr_6 => ?_)
      subst hr_6
      obtain ⟨τ_8, hτ_8⟩ : ∃ z, numT sg sl 1 τ_3 = z := ⟨_, rfl⟩
      have τ_8a : τ_8.1 ≤ sl := by rw [← hτ_8]; exact (numT_le τ_3a)
      have τ_8b : τ_8.2 = 0 ∨ τ_8.2 = 1 := by rw [← hτ_8]; exact numT_b
      refine xeq (ws' := (wM cI cC md T k tm dy P pk ptm pdy hpi tg tl R sg sl (upN (upN (upN u0.1 24 τ_8.1) 25 (wlN τ_8.2)) 29 (srS sg sl σ), u0.2.1, u0.2.2))) (by rw [hτ_8]) ?_
      refine xiastN (ws' := (wM cI cC md T k tm dy P pk ptm pdy hpi tg tl R sg sl (upN (upN (upN u0.1 24 τ_8.1) 25 (wlN τ_8.2)) 29 (srS sg sl σ), upA u0.2.1 30 (upN (u0.2.1 30) 0 (numV sg sl 1 τ_3)), u0.2.2))) h0 16 0 rfl rfl (by omega) (by decide) dX6_statement_110 rfl ?_
      refine xaload_n h0 0 dX6_statement_111 rfl rfl ?_
      refine xget (C := RX6) (T := TX6) (N := 52) (ci := 6) (v := .ref (md 30)) h0 hiX6 0 rfl rfl 30 (by decide) (List.mem_of_getElem? (i := 3) rfl) rfl dX6_statement_112 ?_
      refine xiconst (v := (nI 1)) h0 dX6_statement_115 (by decide) ?_
      refine xaload_n h0 0 dX6_statement_116 rfl rfl ?_
      refine xiconst (v := (nI 1)) h0 dX6_statement_117 (by decide) ?_
      refine xcallV_i (nn := 1) (w2 := fun u_ => (wM cI cC md T k tm dy P pk ptm pdy hpi tg tl R sg sl (upN (upN (upN u0.1 24 ((numT sg sl 1 τ_8).1)) 25 (wlN (numT sg sl 1 τ_8).2)) 29 (srS sg sl σ), upA u0.2.1 30 (upN (u0.2.1 30) 0 (numV sg sl 1 τ_3)), u0.2.2))) (wr := []) (rest := [.int (nI 1), .ref (md 30)]) h0 (c_X6_number (xL κ) D cI cC md T k tm dy P pk ptm pdy hpi tg tl R sg sl (upN u0.1 29 (srS sg sl σ), upA u0.2.1 30 (upN (u0.2.1 30) 0 (numV sg sl 1 τ_3)), u0.2.2) τ_8 1 hsl hsg τ_8a τ_8b (by omega)) gX6_statement_X6_number (by decide +kernel) rfl rfl rfl ⟨Nat.le_of_ble_eq_true rfl, Nat.le_of_ble_eq_true rfl⟩ ⟨by decide, by decide⟩ (fun _ _ _ _ h => h) (fun _ _ _ _ _ _ _ => trivial) rfl (Nat.le_of_ble_eq_true rfl) (q0 := 0) rfl rfl rfl [0, 1, 2, 3, 4, 5, 6, 7, 8, 9, 10, 11, 12, 13, 14, 15, 16, 17, 18, 19, 20, 21] [] [0, 1, 2, 3, 4, 5, 6, 7, 8, 9, 10, 11, 12, 13, 14, 15, 16, 17, 18, 19, 20, 21] ⟨rfl, rfl, rfl, rfl, rfl⟩ (fun _ => ⟨rfl, rfl⟩) dX6_statement_118 (fun r_10 u_ hr_9 => ?_)
      subst hr_9
      obtain ⟨τ_11, hτ_11⟩ : ∃ z, numT sg sl 1 τ_8 = z := ⟨_, rfl⟩
      have τ_11a : τ_11.1 ≤ sl := by rw [← hτ_11]; exact (numT_le τ_8a)
      have τ_11b : τ_11.2 = 0 ∨ τ_11.2 = 1 := by rw [← hτ_11]; exact numT_b
      refine xeq (ws' := (wM cI cC md T k tm dy P pk ptm pdy hpi tg tl R sg sl (upN (upN (upN u0.1 24 τ_11.1) 25 (wlN τ_11.2)) 29 (srS sg sl σ), upA u0.2.1 30 (upN (u0.2.1 30) 0 (numV sg sl 1 τ_3)), u0.2.2))) (by rw [hτ_11]) ?_
      refine xiastN (ws' := (wM cI cC md T k tm dy P pk ptm pdy hpi tg tl R sg sl (upN (upN (upN u0.1 24 τ_11.1) 25 (wlN τ_11.2)) 29 (srS sg sl σ), upA u0.2.1 30 (upN (upN (u0.2.1 30) 0 (numV sg sl 1 τ_3)) 1 (numV sg sl 1 τ_8)), u0.2.2))) h0 16 0 rfl rfl (by omega) (by decide) dX6_statement_121 rfl ?_
      refine xaload_n h0 0 dX6_statement_122 rfl rfl ?_
      refine xbipush (v := (nI 44)) h0 dX6_statement_123 (by decide) ?_
      refine xcallV_v (nn := 1) (w2 := fun u_ => (wM cI cC md T k tm dy P pk ptm pdy hpi tg tl R sg sl (upN (upN (upN u0.1 24 ((oneT sg sl (strN 3) τ_11).1)) 25 (wlN (oneT sg sl (strN 3) τ_11).2)) 29 (srS sg sl σ), upA u0.2.1 30 (upN (upN (u0.2.1 30) 0 (numV sg sl 1 τ_3)) 1 (numV sg sl 1 τ_8)), u0.2.2))) (wr := []) (rest := []) h0 (c_X6_expect (xL κ) D cI cC md T k tm dy P pk ptm pdy hpi tg tl R sg sl (upN u0.1 29 (srS sg sl σ), upA u0.2.1 30 (upN (upN (u0.2.1 30) 0 (numV sg sl 1 τ_3)) 1 (numV sg sl 1 τ_8)), u0.2.2) τ_11 3 44 hsl hsg τ_11a τ_11b rfl (by decide)) gX6_statement_X6_expect (by decide +kernel) rfl rfl rfl ⟨Nat.le_of_ble_eq_true rfl, Nat.le_of_ble_eq_true rfl⟩ ⟨by decide, by decide⟩ (fun _ _ _ _ h => h) (fun _ _ _ _ _ _ _ => trivial) rfl (Nat.le_of_ble_eq_true rfl) (q0 := 0) rfl rfl rfl [0, 1, 2, 3, 4, 5, 6, 7, 8, 9, 10, 11, 12, 13, 14, 15, 16, 17, 18, 19, 20, 21] [] [0, 1, 2, 3, 4, 5, 6, 7, 8, 9, 10, 11, 12, 13, 14, 15, 16, 17, 18, 19, 20, 21] ⟨rfl, rfl, rfl, rfl, rfl⟩ (fun _ => ⟨rfl, rfl⟩) dX6_statement_125 (fun u_ hr_12 => ?_)
      obtain ⟨τ_14, hτ_14⟩ : ∃ z, oneT sg sl (strN 3) τ_11 = z := ⟨_, rfl⟩
      have τ_14a : τ_14.1 ≤ sl := by rw [← hτ_14]; exact (oneT_le τ_11a)
      have τ_14b : τ_14.2 = 0 ∨ τ_14.2 = 1 := by rw [← hτ_14]; exact oneT_b
      refine xeq (ws' := (wM cI cC md T k tm dy P pk ptm pdy hpi tg tl R sg sl (upN (upN (upN u0.1 24 τ_14.1) 25 (wlN τ_14.2)) 29 (srS sg sl σ), upA u0.2.1 30 (upN (upN (u0.2.1 30) 0 (numV sg sl 1 τ_3)) 1 (numV sg sl 1 τ_8)), u0.2.2))) (by rw [hτ_14]) ?_
      refine xaload_n h0 0 dX6_statement_128 rfl rfl ?_
      refine xget (C := RX6) (T := TX6) (N := 52) (ci := 6) (v := .ref (md 30)) h0 hiX6 0 rfl rfl 30 (by decide) (List.mem_of_getElem? (i := 3) rfl) rfl dX6_statement_129 ?_
      refine xiconst (v := (nI 2)) h0 dX6_statement_132 (by decide) ?_
      refine xaload_n h0 0 dX6_statement_133 rfl rfl ?_
      refine xiconst (v := (nI 2)) h0 dX6_statement_134 (by decide) ?_
      refine xcallV_i (nn := 1) (w2 := fun u_ => (wM cI cC md T k tm dy P pk ptm pdy hpi tg tl R sg sl (upN (upN (upN u0.1 24 ((numT sg sl 2 τ_14).1)) 25 (wlN (numT sg sl 2 τ_14).2)) 29 (srS sg sl σ), upA u0.2.1 30 (upN (upN (u0.2.1 30) 0 (numV sg sl 1 τ_3)) 1 (numV sg sl 1 τ_8)), u0.2.2))) (wr := []) (rest := [.int (nI 2), .ref (md 30)]) h0 (c_X6_number (xL κ) D cI cC md T k tm dy P pk ptm pdy hpi tg tl R sg sl (upN u0.1 29 (srS sg sl σ), upA u0.2.1 30 (upN (upN (u0.2.1 30) 0 (numV sg sl 1 τ_3)) 1 (numV sg sl 1 τ_8)), u0.2.2) τ_14 2 hsl hsg τ_14a τ_14b (by omega)) gX6_statement_X6_number (by decide +kernel) rfl rfl rfl ⟨Nat.le_of_ble_eq_true rfl, Nat.le_of_ble_eq_true rfl⟩ ⟨by decide, by decide⟩ (fun _ _ _ _ h => h) (fun _ _ _ _ _ _ _ => trivial) rfl (Nat.le_of_ble_eq_true rfl) (q0 := 0) rfl rfl rfl [0, 1, 2, 3, 4, 5, 6, 7, 8, 9, 10, 11, 12, 13, 14, 15, 16, 17, 18, 19, 20, 21] [] [0, 1, 2, 3, 4, 5, 6, 7, 8, 9, 10, 11, 12, 13, 14, 15, 16, 17, 18, 19, 20, 21] ⟨rfl, rfl, rfl, rfl, rfl⟩ (fun _ => ⟨rfl, rfl⟩) dX6_statement_135 (fun r_16 u_ hr_15 => ?_)
      subst hr_15
      obtain ⟨τ_17, hτ_17⟩ : ∃ z, numT sg sl 2 τ_14 = z := ⟨_, rfl⟩
      have τ_17a : τ_17.1 ≤ sl := by rw [← hτ_17]; exact (numT_le τ_14a)
      have τ_17b : τ_17.2 = 0 ∨ τ_17.2 = 1 := by rw [← hτ_17]; exact numT_b
      refine xeq (ws' := (wM cI cC md T k tm dy P pk ptm pdy hpi tg tl R sg sl (upN (upN (upN u0.1 24 τ_17.1) 25 (wlN τ_17.2)) 29 (srS sg sl σ), upA u0.2.1 30 (upN (upN (u0.2.1 30) 0 (numV sg sl 1 τ_3)) 1 (numV sg sl 1 τ_8)), u0.2.2))) (by rw [hτ_17]) ?_
      refine xiastN (ws' := (wM cI cC md T k tm dy P pk ptm pdy hpi tg tl R sg sl (upN (upN (upN u0.1 24 τ_17.1) 25 (wlN τ_17.2)) 29 (srS sg sl σ), upA u0.2.1 30 (upN (upN (upN (u0.2.1 30) 0 (numV sg sl 1 τ_3)) 1 (numV sg sl 1 τ_8)) 2 (numV sg sl 2 τ_14)), u0.2.2))) h0 16 0 rfl rfl (by omega) (by decide) dX6_statement_138 rfl ?_
      refine xaload_n h0 0 dX6_statement_139 rfl rfl ?_
      refine xbipush (v := (nI 59)) h0 dX6_statement_140 (by decide) ?_
      refine xcallV_v (nn := 1) (w2 := fun u_ => (wM cI cC md T k tm dy P pk ptm pdy hpi tg tl R sg sl (upN (upN (upN u0.1 24 ((oneT sg sl (strN 4) τ_17).1)) 25 (wlN (oneT sg sl (strN 4) τ_17).2)) 29 (srS sg sl σ), upA u0.2.1 30 (upN (upN (upN (u0.2.1 30) 0 (numV sg sl 1 τ_3)) 1 (numV sg sl 1 τ_8)) 2 (numV sg sl 2 τ_14)), u0.2.2))) (wr := []) (rest := []) h0 (c_X6_expect (xL κ) D cI cC md T k tm dy P pk ptm pdy hpi tg tl R sg sl (upN u0.1 29 (srS sg sl σ), upA u0.2.1 30 (upN (upN (upN (u0.2.1 30) 0 (numV sg sl 1 τ_3)) 1 (numV sg sl 1 τ_8)) 2 (numV sg sl 2 τ_14)), u0.2.2) τ_17 4 59 hsl hsg τ_17a τ_17b rfl (by decide)) gX6_statement_X6_expect (by decide +kernel) rfl rfl rfl ⟨Nat.le_of_ble_eq_true rfl, Nat.le_of_ble_eq_true rfl⟩ ⟨by decide, by decide⟩ (fun _ _ _ _ h => h) (fun _ _ _ _ _ _ _ => trivial) rfl (Nat.le_of_ble_eq_true rfl) (q0 := 0) rfl rfl rfl [0, 1, 2, 3, 4, 5, 6, 7, 8, 9, 10, 11, 12, 13, 14, 15, 16, 17, 18, 19, 20, 21] [] [0, 1, 2, 3, 4, 5, 6, 7, 8, 9, 10, 11, 12, 13, 14, 15, 16, 17, 18, 19, 20, 21] ⟨rfl, rfl, rfl, rfl, rfl⟩ (fun _ => ⟨rfl, rfl⟩) dX6_statement_142 (fun u_ hr_18 => ?_)
      obtain ⟨τ_20, hτ_20⟩ : ∃ z, oneT sg sl (strN 4) τ_17 = z := ⟨_, rfl⟩
      have τ_20a : τ_20.1 ≤ sl := by rw [← hτ_20]; exact (oneT_le τ_17a)
      have τ_20b : τ_20.2 = 0 ∨ τ_20.2 = 1 := by rw [← hτ_20]; exact oneT_b
      refine xeq (ws' := (wM cI cC md T k tm dy P pk ptm pdy hpi tg tl R sg sl (upN (upN (upN u0.1 24 τ_20.1) 25 (wlN τ_20.2)) 29 (srS sg sl σ), upA u0.2.1 30 (upN (upN (upN (u0.2.1 30) 0 (numV sg sl 1 τ_3)) 1 (numV sg sl 1 τ_8)) 2 (numV sg sl 2 τ_14)), u0.2.2))) (by rw [hτ_20]) ?_
      exact xvret h0 dX6_statement_145 () (by trivial) (by subst hτ_20 hτ_17 hτ_14 hτ_11 hτ_8 hτ_3; first | (rw [srT_p hs, srF_p _ hs]; first | done | rfl) | (rw [srT_l hs, srF_l _ hs]; first | done | rfl) | (rw [srT_m hs0 hs3, srF_m _ hs0 hs3]; first | done | rfl))
    · skip
      have hs : srS sg sl σ = 3 := c_5
      refine xaload_n h0 0 dX6_statement_86 rfl rfl ?_
      refine xget (C := RX6) (T := TX6) (N := 52) (ci := 6) (v := .ref (md 30)) h0 hiX6 0 rfl rfl 30 (by decide) (List.mem_of_getElem? (i := 3) rfl) rfl dX6_statement_87 ?_
      refine xiconst (v := (nI 0)) h0 dX6_statement_90 (by decide) ?_
      refine xaload_n h0 0 dX6_statement_91 rfl rfl ?_
      refine xiconst (v := (nI 1)) h0 dX6_statement_92 (by decide) ?_
      refine xcallV_i (nn := 1) (w2 := fun u_ => (wM cI cC md T k tm dy P pk ptm pdy hpi tg tl R sg sl (upN (upN (upN u0.1 24 ((numT sg sl 1 τ_3).1)) 25 (wlN (numT sg sl 1 τ_3).2)) 29 (srS sg sl σ), u0.2.1, u0.2.2))) (wr := []) (rest := [.int (nI 0), .ref (md 30)]) h0 (c_X6_number (xL κ) D cI cC md T k tm dy P pk ptm pdy hpi tg tl R sg sl (upN u0.1 29 (srS sg sl σ), u0.2.1, u0.2.2) τ_3 1 hsl hsg τ_3a τ_3b (by omega)) gX6_statement_X6_number (by decide +kernel) rfl rfl rfl ⟨Nat.le_of_ble_eq_true rfl, Nat.le_of_ble_eq_true rfl⟩ ⟨by decide, by decide⟩ (fun _ _ _ _ h => h) (fun _ _ _ _ _ _ _ => trivial) rfl (Nat.le_of_ble_eq_true rfl) (q0 := 0) rfl rfl rfl [0, 1, 2, 3, 4, 5, 6, 7, 8, 9, 10, 11, 12, 13, 14, 15, 16, 17, 18, 19, 20, 21] [] [0, 1, 2, 3, 4, 5, 6, 7, 8, 9, 10, 11, 12, 13, 14, 15, 16, 17, 18, 19, 20, 21] ⟨rfl, rfl, rfl, rfl, rfl⟩ (fun _ => ⟨rfl, rfl⟩) dX6_statement_93 (fun r_22 u_ hr_21 => ?_)
      subst hr_21
      obtain ⟨τ_23, hτ_23⟩ : ∃ z, numT sg sl 1 τ_3 = z := ⟨_, rfl⟩
      have τ_23a : τ_23.1 ≤ sl := by rw [← hτ_23]; exact (numT_le τ_3a)
      have τ_23b : τ_23.2 = 0 ∨ τ_23.2 = 1 := by rw [← hτ_23]; exact numT_b
      refine xeq (ws' := (wM cI cC md T k tm dy P pk ptm pdy hpi tg tl R sg sl (upN (upN (upN u0.1 24 τ_23.1) 25 (wlN τ_23.2)) 29 (srS sg sl σ), u0.2.1, u0.2.2))) (by rw [hτ_23]) ?_
      refine xiastN (ws' := (wM cI cC md T k tm dy P pk ptm pdy hpi tg tl R sg sl (upN (upN (upN u0.1 24 τ_23.1) 25 (wlN τ_23.2)) 29 (srS sg sl σ), upA u0.2.1 30 (upN (u0.2.1 30) 0 (numV sg sl 1 τ_3)), u0.2.2))) h0 16 0 rfl rfl (by omega) (by decide) dX6_statement_96 rfl ?_
      refine xgoto (tgt := 139) h0 dX6_statement_97 (by decide) ?_
      refine xaload_n h0 0 dX6_statement_139 rfl rfl ?_
      refine xbipush (v := (nI 59)) h0 dX6_statement_140 (by decide) ?_
      refine xcallV_v (nn := 1) (w2 := fun u_ => (wM cI cC md T k tm dy P pk ptm pdy hpi tg tl R sg sl (upN (upN (upN u0.1 24 ((oneT sg sl (strN 4) τ_23).1)) 25 (wlN (oneT sg sl (strN 4) τ_23).2)) 29 (srS sg sl σ), upA u0.2.1 30 (upN (u0.2.1 30) 0 (numV sg sl 1 τ_3)), u0.2.2))) (wr := []) (rest := []) h0 (c_X6_expect (xL κ) D cI cC md T k tm dy P pk ptm pdy hpi tg tl R sg sl (upN u0.1 29 (srS sg sl σ), upA u0.2.1 30 (upN (u0.2.1 30) 0 (numV sg sl 1 τ_3)), u0.2.2) τ_23 4 59 hsl hsg τ_23a τ_23b rfl (by decide)) gX6_statement_X6_expect (by decide +kernel) rfl rfl rfl ⟨Nat.le_of_ble_eq_true rfl, Nat.le_of_ble_eq_true rfl⟩ ⟨by decide, by decide⟩ (fun _ _ _ _ h => h) (fun _ _ _ _ _ _ _ => trivial) rfl (Nat.le_of_ble_eq_true rfl) (q0 := 0) rfl rfl rfl [0, 1, 2, 3, 4, 5, 6, 7, 8, 9, 10, 11, 12, 13, 14, 15, 16, 17, 18, 19, 20, 21] [] [0, 1, 2, 3, 4, 5, 6, 7, 8, 9, 10, 11, 12, 13, 14, 15, 16, 17, 18, 19, 20, 21] ⟨rfl, rfl, rfl, rfl, rfl⟩ (fun _ => ⟨rfl, rfl⟩) dX6_statement_142 (fun u_ hr_24 => ?_)
      obtain ⟨τ_26, hτ_26⟩ : ∃ z, oneT sg sl (strN 4) τ_23 = z := ⟨_, rfl⟩
      have τ_26a : τ_26.1 ≤ sl := by rw [← hτ_26]; exact (oneT_le τ_23a)
      have τ_26b : τ_26.2 = 0 ∨ τ_26.2 = 1 := by rw [← hτ_26]; exact oneT_b
      refine xeq (ws' := (wM cI cC md T k tm dy P pk ptm pdy hpi tg tl R sg sl (upN (upN (upN u0.1 24 τ_26.1) 25 (wlN τ_26.2)) 29 (srS sg sl σ), upA u0.2.1 30 (upN (u0.2.1 30) 0 (numV sg sl 1 τ_3)), u0.2.2))) (by rw [hτ_26]) ?_
      exact xvret h0 dX6_statement_145 () (by trivial) (by subst hτ_26 hτ_23 hτ_3; first | (rw [srT_p hs, srF_p _ hs]; first | done | rfl) | (rw [srT_l hs, srF_l _ hs]; first | done | rfl) | (rw [srT_m hs0 hs3, srF_m _ hs0 hs3]; first | done | rfl))
  · skip
    have hs : srS sg sl σ = 0 := c_4
    refine xaload_n h0 0 dX6_statement_19 rfl rfl ?_
    refine xget (C := RX6) (T := TX6) (N := 52) (ci := 6) (v := .ref (md 30)) h0 hiX6 0 rfl rfl 30 (by decide) (List.mem_of_getElem? (i := 3) rfl) rfl dX6_statement_20 ?_
    refine xiconst (v := (nI 0)) h0 dX6_statement_23 (by decide) ?_
    refine xaload_n h0 0 dX6_statement_24 rfl rfl ?_
    refine xaload_n h0 0 dX6_statement_25 rfl rfl ?_
    refine xget (C := RX6) (T := TX6) (N := 52) (ci := 6) (v := .ref (md 27)) h0 hiX6 0 rfl rfl 27 (by decide) (List.mem_of_getElem? (i := 4) rfl) rfl dX6_statement_26 ?_
    refine xcallV_i (nn := 1) (w2 := fun u_ => (wM cI cC md T k tm dy P pk ptm pdy hpi tg tl R sg sl (upN (upN (upN u0.1 24 ((oneT sg sl (strN 1) τ_3).1)) 25 (wlN (oneT sg sl (strN 1) τ_3).2)) 29 (srS sg sl σ), u0.2.1, u0.2.2))) (wr := []) (rest := [.int (nI 0), .ref (md 30)]) h0 (c_X6_oneOf_27 (xL κ) D cI cC md T k tm dy P pk ptm pdy hpi tg tl R sg sl (upN u0.1 29 (srS sg sl σ), u0.2.1, u0.2.2) τ_3  hsl hsg τ_3a τ_3b ) gX6_statement_X6_oneOf (by decide +kernel) rfl rfl rfl ⟨Nat.le_of_ble_eq_true rfl, Nat.le_of_ble_eq_true rfl⟩ ⟨by decide, by decide⟩ (fun _ _ _ _ h => h) (fun _ _ _ _ _ _ _ => trivial) rfl (Nat.le_of_ble_eq_true rfl) (q0 := 0) rfl rfl rfl [0, 1, 2, 3, 4, 5, 6, 7, 8, 9, 10, 11, 12, 13, 14, 15, 16, 17, 18, 19, 20, 21] [] [0, 1, 2, 3, 4, 5, 6, 7, 8, 9, 10, 11, 12, 13, 14, 15, 16, 17, 18, 19, 20, 21] ⟨rfl, rfl, rfl, rfl, rfl⟩ (fun _ => ⟨rfl, rfl⟩) dX6_statement_29 (fun r_28 u_ hr_27 => ?_)
    subst hr_27
    obtain ⟨τ_29, hτ_29⟩ : ∃ z, oneT sg sl (strN 1) τ_3 = z := ⟨_, rfl⟩
    have τ_29a : τ_29.1 ≤ sl := by rw [← hτ_29]; exact (oneT_le τ_3a)
    have τ_29b : τ_29.2 = 0 ∨ τ_29.2 = 1 := by rw [← hτ_29]; exact oneT_b
    refine xeq (ws' := (wM cI cC md T k tm dy P pk ptm pdy hpi tg tl R sg sl (upN (upN (upN u0.1 24 τ_29.1) 25 (wlN τ_29.2)) 29 (srS sg sl σ), u0.2.1, u0.2.2))) (by rw [hτ_29]) ?_
    refine xiastN (ws' := (wM cI cC md T k tm dy P pk ptm pdy hpi tg tl R sg sl (upN (upN (upN u0.1 24 τ_29.1) 25 (wlN τ_29.2)) 29 (srS sg sl σ), upA u0.2.1 30 (upN (u0.2.1 30) 0 ((oneS sg sl (strN 1) τ_3).getD 0)), u0.2.2))) h0 16 0 rfl rfl (by omega) (by decide) dX6_statement_32 rfl ?_
    refine xaload_n h0 0 dX6_statement_33 rfl rfl ?_
    refine xget (C := RX6) (T := TX6) (N := 52) (ci := 6) (v := .ref (md 30)) h0 hiX6 0 rfl rfl 30 (by decide) (List.mem_of_getElem? (i := 3) rfl) rfl dX6_statement_34 ?_
    refine xiconst (v := (nI 1)) h0 dX6_statement_37 (by decide) ?_
    refine xaload_n h0 0 dX6_statement_38 rfl rfl ?_
    refine xaload_n h0 0 dX6_statement_39 rfl rfl ?_
    refine xget (C := RX6) (T := TX6) (N := 52) (ci := 6) (v := .ref (md 28)) h0 hiX6 0 rfl rfl 28 (by decide) (List.mem_of_getElem? (i := 5) rfl) rfl dX6_statement_40 ?_
    refine xcallV_i (nn := 1) (w2 := fun u_ => (wM cI cC md T k tm dy P pk ptm pdy hpi tg tl R sg sl (upN (upN (upN u0.1 24 ((oneT sg sl (strN 2) τ_29).1)) 25 (wlN (oneT sg sl (strN 2) τ_29).2)) 29 (srS sg sl σ), upA u0.2.1 30 (upN (u0.2.1 30) 0 ((oneS sg sl (strN 1) τ_3).getD 0)), u0.2.2))) (wr := []) (rest := [.int (nI 1), .ref (md 30)]) h0 (c_X6_oneOf_28 (xL κ) D cI cC md T k tm dy P pk ptm pdy hpi tg tl R sg sl (upN u0.1 29 (srS sg sl σ), upA u0.2.1 30 (upN (u0.2.1 30) 0 ((oneS sg sl (strN 1) τ_3).getD 0)), u0.2.2) τ_29  hsl hsg τ_29a τ_29b ) gX6_statement_X6_oneOf (by decide +kernel) rfl rfl rfl ⟨Nat.le_of_ble_eq_true rfl, Nat.le_of_ble_eq_true rfl⟩ ⟨by decide, by decide⟩ (fun _ _ _ _ h => h) (fun _ _ _ _ _ _ _ => trivial) rfl (Nat.le_of_ble_eq_true rfl) (q0 := 0) rfl rfl rfl [0, 1, 2, 3, 4, 5, 6, 7, 8, 9, 10, 11, 12, 13, 14, 15, 16, 17, 18, 19, 20, 21] [] [0, 1, 2, 3, 4, 5, 6, 7, 8, 9, 10, 11, 12, 13, 14, 15, 16, 17, 18, 19, 20, 21] ⟨rfl, rfl, rfl, rfl, rfl⟩ (fun _ => ⟨rfl, rfl⟩) dX6_statement_43 (fun r_31 u_ hr_30 => ?_)
    subst hr_30
    obtain ⟨τ_32, hτ_32⟩ : ∃ z, oneT sg sl (strN 2) τ_29 = z := ⟨_, rfl⟩
    have τ_32a : τ_32.1 ≤ sl := by rw [← hτ_32]; exact (oneT_le τ_29a)
    have τ_32b : τ_32.2 = 0 ∨ τ_32.2 = 1 := by rw [← hτ_32]; exact oneT_b
    refine xeq (ws' := (wM cI cC md T k tm dy P pk ptm pdy hpi tg tl R sg sl (upN (upN (upN u0.1 24 τ_32.1) 25 (wlN τ_32.2)) 29 (srS sg sl σ), upA u0.2.1 30 (upN (u0.2.1 30) 0 ((oneS sg sl (strN 1) τ_3).getD 0)), u0.2.2))) (by rw [hτ_32]) ?_
    refine xiastN (ws' := (wM cI cC md T k tm dy P pk ptm pdy hpi tg tl R sg sl (upN (upN (upN u0.1 24 τ_32.1) 25 (wlN τ_32.2)) 29 (srS sg sl σ), upA u0.2.1 30 (upN (upN (u0.2.1 30) 0 ((oneS sg sl (strN 1) τ_3).getD 0)) 1 ((oneS sg sl (strN 2) τ_29).getD 0)), u0.2.2))) h0 16 0 rfl rfl (by omega) (by decide) dX6_statement_46 rfl ?_
    refine xaload_n h0 0 dX6_statement_47 rfl rfl ?_
    refine xget (C := RX6) (T := TX6) (N := 52) (ci := 6) (v := .ref (md 30)) h0 hiX6 0 rfl rfl 30 (by decide) (List.mem_of_getElem? (i := 3) rfl) rfl dX6_statement_48 ?_
    refine xiconst (v := (nI 2)) h0 dX6_statement_51 (by decide) ?_
    refine xaload_n h0 0 dX6_statement_52 rfl rfl ?_
    refine xiconst (v := (nI 3)) h0 dX6_statement_53 (by decide) ?_
    refine xcallV_i (nn := 1) (w2 := fun u_ => (wM cI cC md T k tm dy P pk ptm pdy hpi tg tl R sg sl (upN (upN (upN u0.1 24 ((numT sg sl 3 τ_32).1)) 25 (wlN (numT sg sl 3 τ_32).2)) 29 (srS sg sl σ), upA u0.2.1 30 (upN (upN (u0.2.1 30) 0 ((oneS sg sl (strN 1) τ_3).getD 0)) 1 ((oneS sg sl (strN 2) τ_29).getD 0)), u0.2.2))) (wr := []) (rest := [.int (nI 2), .ref (md 30)]) h0 (c_X6_number (xL κ) D cI cC md T k tm dy P pk ptm pdy hpi tg tl R sg sl (upN u0.1 29 (srS sg sl σ), upA u0.2.1 30 (upN (upN (u0.2.1 30) 0 ((oneS sg sl (strN 1) τ_3).getD 0)) 1 ((oneS sg sl (strN 2) τ_29).getD 0)), u0.2.2) τ_32 3 hsl hsg τ_32a τ_32b (by omega)) gX6_statement_X6_number (by decide +kernel) rfl rfl rfl ⟨Nat.le_of_ble_eq_true rfl, Nat.le_of_ble_eq_true rfl⟩ ⟨by decide, by decide⟩ (fun _ _ _ _ h => h) (fun _ _ _ _ _ _ _ => trivial) rfl (Nat.le_of_ble_eq_true rfl) (q0 := 0) rfl rfl rfl [0, 1, 2, 3, 4, 5, 6, 7, 8, 9, 10, 11, 12, 13, 14, 15, 16, 17, 18, 19, 20, 21] [] [0, 1, 2, 3, 4, 5, 6, 7, 8, 9, 10, 11, 12, 13, 14, 15, 16, 17, 18, 19, 20, 21] ⟨rfl, rfl, rfl, rfl, rfl⟩ (fun _ => ⟨rfl, rfl⟩) dX6_statement_54 (fun r_34 u_ hr_33 => ?_)
    subst hr_33
    obtain ⟨τ_35, hτ_35⟩ : ∃ z, numT sg sl 3 τ_32 = z := ⟨_, rfl⟩
    have τ_35a : τ_35.1 ≤ sl := by rw [← hτ_35]; exact (numT_le τ_32a)
    have τ_35b : τ_35.2 = 0 ∨ τ_35.2 = 1 := by rw [← hτ_35]; exact numT_b
    refine xeq (ws' := (wM cI cC md T k tm dy P pk ptm pdy hpi tg tl R sg sl (upN (upN (upN u0.1 24 τ_35.1) 25 (wlN τ_35.2)) 29 (srS sg sl σ), upA u0.2.1 30 (upN (upN (u0.2.1 30) 0 ((oneS sg sl (strN 1) τ_3).getD 0)) 1 ((oneS sg sl (strN 2) τ_29).getD 0)), u0.2.2))) (by rw [hτ_35]) ?_
    refine xiastN (ws' := (wM cI cC md T k tm dy P pk ptm pdy hpi tg tl R sg sl (upN (upN (upN u0.1 24 τ_35.1) 25 (wlN τ_35.2)) 29 (srS sg sl σ), upA u0.2.1 30 (upN (upN (upN (u0.2.1 30) 0 ((oneS sg sl (strN 1) τ_3).getD 0)) 1 ((oneS sg sl (strN 2) τ_29).getD 0)) 2 (numV sg sl 3 τ_32)), u0.2.2))) h0 16 0 rfl rfl (by omega) (by decide) dX6_statement_57 rfl ?_
    refine xaload_n h0 0 dX6_statement_58 rfl rfl ?_
    refine xbipush (v := (nI 44)) h0 dX6_statement_59 (by decide) ?_
    refine xcallV_v (nn := 1) (w2 := fun u_ => (wM cI cC md T k tm dy P pk ptm pdy hpi tg tl R sg sl (upN (upN (upN u0.1 24 ((oneT sg sl (strN 3) τ_35).1)) 25 (wlN (oneT sg sl (strN 3) τ_35).2)) 29 (srS sg sl σ), upA u0.2.1 30 (upN (upN (upN (u0.2.1 30) 0 ((oneS sg sl (strN 1) τ_3).getD 0)) 1 ((oneS sg sl (strN 2) τ_29).getD 0)) 2 (numV sg sl 3 τ_32)), u0.2.2))) (wr := []) (rest := []) h0 (c_X6_expect (xL κ) D cI cC md T k tm dy P pk ptm pdy hpi tg tl R sg sl (upN u0.1 29 (srS sg sl σ), upA u0.2.1 30 (upN (upN (upN (u0.2.1 30) 0 ((oneS sg sl (strN 1) τ_3).getD 0)) 1 ((oneS sg sl (strN 2) τ_29).getD 0)) 2 (numV sg sl 3 τ_32)), u0.2.2) τ_35 3 44 hsl hsg τ_35a τ_35b rfl (by decide)) gX6_statement_X6_expect (by decide +kernel) rfl rfl rfl ⟨Nat.le_of_ble_eq_true rfl, Nat.le_of_ble_eq_true rfl⟩ ⟨by decide, by decide⟩ (fun _ _ _ _ h => h) (fun _ _ _ _ _ _ _ => trivial) rfl (Nat.le_of_ble_eq_true rfl) (q0 := 0) rfl rfl rfl [0, 1, 2, 3, 4, 5, 6, 7, 8, 9, 10, 11, 12, 13, 14, 15, 16, 17, 18, 19, 20, 21] [] [0, 1, 2, 3, 4, 5, 6, 7, 8, 9, 10, 11, 12, 13, 14, 15, 16, 17, 18, 19, 20, 21] ⟨rfl, rfl, rfl, rfl, rfl⟩ (fun _ => ⟨rfl, rfl⟩) dX6_statement_61 (fun u_ hr_36 => ?_)
    obtain ⟨τ_38, hτ_38⟩ : ∃ z, oneT sg sl (strN 3) τ_35 = z := ⟨_, rfl⟩
    have τ_38a : τ_38.1 ≤ sl := by rw [← hτ_38]; exact (oneT_le τ_35a)
    have τ_38b : τ_38.2 = 0 ∨ τ_38.2 = 1 := by rw [← hτ_38]; exact oneT_b
    refine xeq (ws' := (wM cI cC md T k tm dy P pk ptm pdy hpi tg tl R sg sl (upN (upN (upN u0.1 24 τ_38.1) 25 (wlN τ_38.2)) 29 (srS sg sl σ), upA u0.2.1 30 (upN (upN (upN (u0.2.1 30) 0 ((oneS sg sl (strN 1) τ_3).getD 0)) 1 ((oneS sg sl (strN 2) τ_29).getD 0)) 2 (numV sg sl 3 τ_32)), u0.2.2))) (by rw [hτ_38]) ?_
    refine xaload_n h0 0 dX6_statement_64 rfl rfl ?_
    refine xget (C := RX6) (T := TX6) (N := 52) (ci := 6) (v := .ref (md 30)) h0 hiX6 0 rfl rfl 30 (by decide) (List.mem_of_getElem? (i := 3) rfl) rfl dX6_statement_65 ?_
    refine xiconst (v := (nI 3)) h0 dX6_statement_68 (by decide) ?_
    refine xaload_n h0 0 dX6_statement_69 rfl rfl ?_
    refine xiconst (v := (nI 1)) h0 dX6_statement_70 (by decide) ?_
    refine xcallV_i (nn := 1) (w2 := fun u_ => (wM cI cC md T k tm dy P pk ptm pdy hpi tg tl R sg sl (upN (upN (upN u0.1 24 ((numT sg sl 1 τ_38).1)) 25 (wlN (numT sg sl 1 τ_38).2)) 29 (srS sg sl σ), upA u0.2.1 30 (upN (upN (upN (u0.2.1 30) 0 ((oneS sg sl (strN 1) τ_3).getD 0)) 1 ((oneS sg sl (strN 2) τ_29).getD 0)) 2 (numV sg sl 3 τ_32)), u0.2.2))) (wr := []) (rest := [.int (nI 3), .ref (md 30)]) h0 (c_X6_number (xL κ) D cI cC md T k tm dy P pk ptm pdy hpi tg tl R sg sl (upN u0.1 29 (srS sg sl σ), upA u0.2.1 30 (upN (upN (upN (u0.2.1 30) 0 ((oneS sg sl (strN 1) τ_3).getD 0)) 1 ((oneS sg sl (strN 2) τ_29).getD 0)) 2 (numV sg sl 3 τ_32)), u0.2.2) τ_38 1 hsl hsg τ_38a τ_38b (by omega)) gX6_statement_X6_number (by decide +kernel) rfl rfl rfl ⟨Nat.le_of_ble_eq_true rfl, Nat.le_of_ble_eq_true rfl⟩ ⟨by decide, by decide⟩ (fun _ _ _ _ h => h) (fun _ _ _ _ _ _ _ => trivial) rfl (Nat.le_of_ble_eq_true rfl) (q0 := 0) rfl rfl rfl [0, 1, 2, 3, 4, 5, 6, 7, 8, 9, 10, 11, 12, 13, 14, 15, 16, 17, 18, 19, 20, 21] [] [0, 1, 2, 3, 4, 5, 6, 7, 8, 9, 10, 11, 12, 13, 14, 15, 16, 17, 18, 19, 20, 21] ⟨rfl, rfl, rfl, rfl, rfl⟩ (fun _ => ⟨rfl, rfl⟩) dX6_statement_71 (fun r_40 u_ hr_39 => ?_)
    subst hr_39
    obtain ⟨τ_41, hτ_41⟩ : ∃ z, numT sg sl 1 τ_38 = z := ⟨_, rfl⟩
    have τ_41a : τ_41.1 ≤ sl := by rw [← hτ_41]; exact (numT_le τ_38a)
    have τ_41b : τ_41.2 = 0 ∨ τ_41.2 = 1 := by rw [← hτ_41]; exact numT_b
    refine xeq (ws' := (wM cI cC md T k tm dy P pk ptm pdy hpi tg tl R sg sl (upN (upN (upN u0.1 24 τ_41.1) 25 (wlN τ_41.2)) 29 (srS sg sl σ), upA u0.2.1 30 (upN (upN (upN (u0.2.1 30) 0 ((oneS sg sl (strN 1) τ_3).getD 0)) 1 ((oneS sg sl (strN 2) τ_29).getD 0)) 2 (numV sg sl 3 τ_32)), u0.2.2))) (by rw [hτ_41]) ?_
    refine xiastN (ws' := (wM cI cC md T k tm dy P pk ptm pdy hpi tg tl R sg sl (upN (upN (upN u0.1 24 τ_41.1) 25 (wlN τ_41.2)) 29 (srS sg sl σ), upA u0.2.1 30 (upN (upN (upN (upN (u0.2.1 30) 0 ((oneS sg sl (strN 1) τ_3).getD 0)) 1 ((oneS sg sl (strN 2) τ_29).getD 0)) 2 (numV sg sl 3 τ_32)) 3 (numV sg sl 1 τ_38)), u0.2.2))) h0 16 0 rfl rfl (by omega) (by decide) dX6_statement_74 rfl ?_
    refine xgoto (tgt := 139) h0 dX6_statement_75 (by decide) ?_
    refine xaload_n h0 0 dX6_statement_139 rfl rfl ?_
    refine xbipush (v := (nI 59)) h0 dX6_statement_140 (by decide) ?_
    refine xcallV_v (nn := 1) (w2 := fun u_ => (wM cI cC md T k tm dy P pk ptm pdy hpi tg tl R sg sl (upN (upN (upN u0.1 24 ((oneT sg sl (strN 4) τ_41).1)) 25 (wlN (oneT sg sl (strN 4) τ_41).2)) 29 (srS sg sl σ), upA u0.2.1 30 (upN (upN (upN (upN (u0.2.1 30) 0 ((oneS sg sl (strN 1) τ_3).getD 0)) 1 ((oneS sg sl (strN 2) τ_29).getD 0)) 2 (numV sg sl 3 τ_32)) 3 (numV sg sl 1 τ_38)), u0.2.2))) (wr := []) (rest := []) h0 (c_X6_expect (xL κ) D cI cC md T k tm dy P pk ptm pdy hpi tg tl R sg sl (upN u0.1 29 (srS sg sl σ), upA u0.2.1 30 (upN (upN (upN (upN (u0.2.1 30) 0 ((oneS sg sl (strN 1) τ_3).getD 0)) 1 ((oneS sg sl (strN 2) τ_29).getD 0)) 2 (numV sg sl 3 τ_32)) 3 (numV sg sl 1 τ_38)), u0.2.2) τ_41 4 59 hsl hsg τ_41a τ_41b rfl (by decide)) gX6_statement_X6_expect (by decide +kernel) rfl rfl rfl ⟨Nat.le_of_ble_eq_true rfl, Nat.le_of_ble_eq_true rfl⟩ ⟨by decide, by decide⟩ (fun _ _ _ _ h => h) (fun _ _ _ _ _ _ _ => trivial) rfl (Nat.le_of_ble_eq_true rfl) (q0 := 0) rfl rfl rfl [0, 1, 2, 3, 4, 5, 6, 7, 8, 9, 10, 11, 12, 13, 14, 15, 16, 17, 18, 19, 20, 21] [] [0, 1, 2, 3, 4, 5, 6, 7, 8, 9, 10, 11, 12, 13, 14, 15, 16, 17, 18, 19, 20, 21] ⟨rfl, rfl, rfl, rfl, rfl⟩ (fun _ => ⟨rfl, rfl⟩) dX6_statement_142 (fun u_ hr_42 => ?_)
    obtain ⟨τ_44, hτ_44⟩ : ∃ z, oneT sg sl (strN 4) τ_41 = z := ⟨_, rfl⟩
    have τ_44a : τ_44.1 ≤ sl := by rw [← hτ_44]; exact (oneT_le τ_41a)
    have τ_44b : τ_44.2 = 0 ∨ τ_44.2 = 1 := by rw [← hτ_44]; exact oneT_b
    refine xeq (ws' := (wM cI cC md T k tm dy P pk ptm pdy hpi tg tl R sg sl (upN (upN (upN u0.1 24 τ_44.1) 25 (wlN τ_44.2)) 29 (srS sg sl σ), upA u0.2.1 30 (upN (upN (upN (upN (u0.2.1 30) 0 ((oneS sg sl (strN 1) τ_3).getD 0)) 1 ((oneS sg sl (strN 2) τ_29).getD 0)) 2 (numV sg sl 3 τ_32)) 3 (numV sg sl 1 τ_38)), u0.2.2))) (by rw [hτ_44]) ?_
    exact xvret h0 dX6_statement_145 () (by trivial) (by subst hτ_44 hτ_41 hτ_38 hτ_35 hτ_32 hτ_29 hτ_3; first | (rw [srT_p hs, srF_p _ hs]; first | done | rfl) | (rw [srT_l hs, srF_l _ hs]; first | done | rfl) | (rw [srT_m hs0 hs3, srF_m _ hs0 hs3]; first | done | rfl))
set_option maxHeartbeats 4000000 in
set_option maxRecDepth 100000 in
theorem c_X6_isAsItMustBe (l : Launch) (D : va_G) (cI cC : ClassId) (md : Nat → Nat) (T : TT) (k tm dy : Nat) (P : TT) (pk ptm pdy hpi : Nat) (tg : Nat → Nat) (tl : Nat) (R : Nat → Nat) (sg : Nat → Nat) (sl : Nat) (u0 : ScmT) (s n : Nat) (F : Nat → Nat) (hs : s ≤ 3) (hn : n ≤ 8) (hF : fbd s F) : XMi l yX6_isAsItMustBe wsX6_isAsItMustBe ({ frames := 0, cells := 0, slots := 0, locals := 0 } : Room) D (xT cI cC) xE0 (wM cI cC md T k tm dy P pk ptm pdy hpi tg tl R sg sl (upN u0.1 29 s, upA u0.2.1 30 F, u0.2.2)) [.ref (md 1), .int (nI n)] (S := Unit) (fun r _ => r = bI ((s = 0 ∧ F 2 ≤ 100 ∧ n < 8) ∨ (s = 3 ∧ F 0 ≤ 4) ∨ (s ≠ 0 ∧ s ≠ 3 ∧ F 0 < n ∧ F 1 < n ∧ F 0 ≠ F 1 ∧ 1 ≤ F 2 ∧ F 2 ≤ 60))) (fun _ => (wM cI cC md T k tm dy P pk ptm pdy hpi tg tl R sg sl (upN u0.1 29 s, upA u0.2.1 30 F, u0.2.2))) 0 0 := by
  refine xMet_i (cc := cX6_isAsItMustBe) (nL := 2) (ret := some .boolean) (by decide +kernel) rfl (Nat.le_of_ble_eq_true rfl) (fun κ A h0 hn0 hE => ?_)
  have hiX6 : ∀ w ∈ u_ws RX6 TX6 52, w ∈ wsX6_isAsItMustBe := by decide +kernel
  refine xlv (lv' := [(0, .ref (md 1)), (1, .int (nI n))]) [0, 1] rfl ?_
  refine xaload_n h0 0 dX6_isAsItMustBe_0 rfl rfl ?_
  refine xget (C := RX6) (T := TX6) (N := 52) (ci := 6) (v := .int (nI s)) h0 hiX6 0 rfl rfl 29 (by decide) (List.mem_of_getElem? (i := 1) rfl) rfl dX6_isAsItMustBe_1 ?_
  refine xnif_ne (tgt := 30) h0 dX6_isAsItMustBe_4 (by decide) (by omega) (fun c_1 => ?_) (fun c_1 => ?_)
  · skip
    have hs0 : s ≠ 0 := Nat.pos_iff_ne_zero.mp c_1
    refine xaload_n h0 0 dX6_isAsItMustBe_30 rfl rfl ?_
    refine xget (C := RX6) (T := TX6) (N := 52) (ci := 6) (v := .int (nI s)) h0 hiX6 0 rfl rfl 29 (by decide) (List.mem_of_getElem? (i := 1) rfl) rfl dX6_isAsItMustBe_31 ?_
    refine xiconst (v := (nI 3)) h0 dX6_isAsItMustBe_34 (by decide) ?_
    refine xncmp_ne (tgt := 54) h0 dX6_isAsItMustBe_35 (by decide) (by omega) (by omega) (fun c_2 => ?_) (fun c_2 => ?_)
    · skip
      obtain ⟨hF0, hF1, hF2⟩ := hF.2.2 hs0 c_2
      refine xaload_n h0 0 dX6_isAsItMustBe_54 rfl rfl ?_
      refine xget (C := RX6) (T := TX6) (N := 52) (ci := 6) (v := .ref (md 30)) h0 hiX6 0 rfl rfl 30 (by decide) (List.mem_of_getElem? (i := 2) rfl) rfl dX6_isAsItMustBe_55 ?_
      refine xiconst (v := (nI 0)) h0 dX6_isAsItMustBe_58 (by decide) ?_
      refine xiald (v := (nI (F 0))) h0 16 0 rfl rfl (by omega) (by decide) dX6_isAsItMustBe_59 (rfl) ?_
      refine xiload_n h0 1 dX6_isAsItMustBe_60 rfl rfl ?_
      refine xncmp_ge (tgt := 114) h0 dX6_isAsItMustBe_61 (by decide) (by omega) (by omega) (fun c_3 => ?_) (fun c_3 => ?_)
      · skip
        refine xiconst (v := (nI 0)) h0 dX6_isAsItMustBe_114 (by decide) ?_
        exact xzret h0 dX6_isAsItMustBe_115 nar_n0 () (by exact (bI_f (by first | omega | assumption | (simp_all; done))).symm) rfl
      · skip
        refine xaload_n h0 0 dX6_isAsItMustBe_64 rfl rfl ?_
        refine xget (C := RX6) (T := TX6) (N := 52) (ci := 6) (v := .ref (md 30)) h0 hiX6 0 rfl rfl 30 (by decide) (List.mem_of_getElem? (i := 2) rfl) rfl dX6_isAsItMustBe_65 ?_
        refine xiconst (v := (nI 1)) h0 dX6_isAsItMustBe_68 (by decide) ?_
        refine xiald (v := (nI (F 1))) h0 16 0 rfl rfl (by omega) (by decide) dX6_isAsItMustBe_69 (rfl) ?_
        refine xiload_n h0 1 dX6_isAsItMustBe_70 rfl rfl ?_
        refine xncmp_ge (tgt := 114) h0 dX6_isAsItMustBe_71 (by decide) (by omega) (by omega) (fun c_4 => ?_) (fun c_4 => ?_)
        · skip
          refine xiconst (v := (nI 0)) h0 dX6_isAsItMustBe_114 (by decide) ?_
          exact xzret h0 dX6_isAsItMustBe_115 nar_n0 () (by exact (bI_f (by first | omega | assumption | (simp_all; done))).symm) rfl
        · skip
          refine xaload_n h0 0 dX6_isAsItMustBe_74 rfl rfl ?_
          refine xget (C := RX6) (T := TX6) (N := 52) (ci := 6) (v := .ref (md 30)) h0 hiX6 0 rfl rfl 30 (by decide) (List.mem_of_getElem? (i := 2) rfl) rfl dX6_isAsItMustBe_75 ?_
          refine xiconst (v := (nI 0)) h0 dX6_isAsItMustBe_78 (by decide) ?_
          refine xiald (v := (nI (F 0))) h0 16 0 rfl rfl (by omega) (by decide) dX6_isAsItMustBe_79 (rfl) ?_
          refine xaload_n h0 0 dX6_isAsItMustBe_80 rfl rfl ?_
          refine xget (C := RX6) (T := TX6) (N := 52) (ci := 6) (v := .ref (md 30)) h0 hiX6 0 rfl rfl 30 (by decide) (List.mem_of_getElem? (i := 2) rfl) rfl dX6_isAsItMustBe_81 ?_
          refine xiconst (v := (nI 1)) h0 dX6_isAsItMustBe_84 (by decide) ?_
          refine xiald (v := (nI (F 1))) h0 16 0 rfl rfl (by omega) (by decide) dX6_isAsItMustBe_85 (rfl) ?_
          refine xncmp_eq (tgt := 114) h0 dX6_isAsItMustBe_86 (by decide) (by omega) (by omega) (fun c_5 => ?_) (fun c_5 => ?_)
          · skip
            refine xiconst (v := (nI 0)) h0 dX6_isAsItMustBe_114 (by decide) ?_
            exact xzret h0 dX6_isAsItMustBe_115 nar_n0 () (by exact (bI_f (by first | omega | assumption | (simp_all; done))).symm) rfl
          · skip
            refine xaload_n h0 0 dX6_isAsItMustBe_89 rfl rfl ?_
            refine xget (C := RX6) (T := TX6) (N := 52) (ci := 6) (v := .ref (md 30)) h0 hiX6 0 rfl rfl 30 (by decide) (List.mem_of_getElem? (i := 2) rfl) rfl dX6_isAsItMustBe_90 ?_
            refine xiconst (v := (nI 2)) h0 dX6_isAsItMustBe_93 (by decide) ?_
            refine xiald (v := (nI (F 2))) h0 16 0 rfl rfl (by omega) (by decide) dX6_isAsItMustBe_94 (rfl) ?_
            refine xiconst (v := (nI 1)) h0 dX6_isAsItMustBe_95 (by decide) ?_
            refine xncmp_lt (tgt := 114) h0 dX6_isAsItMustBe_96 (by decide) (by omega) (by omega) (fun c_6 => ?_) (fun c_6 => ?_)
            · skip
              refine xiconst (v := (nI 0)) h0 dX6_isAsItMustBe_114 (by decide) ?_
              exact xzret h0 dX6_isAsItMustBe_115 nar_n0 () (by exact (bI_f (by first | omega | assumption | (simp_all; done))).symm) rfl
            · skip
              refine xaload_n h0 0 dX6_isAsItMustBe_99 rfl rfl ?_
              refine xget (C := RX6) (T := TX6) (N := 52) (ci := 6) (v := .ref (md 30)) h0 hiX6 0 rfl rfl 30 (by decide) (List.mem_of_getElem? (i := 2) rfl) rfl dX6_isAsItMustBe_100 ?_
              refine xiconst (v := (nI 2)) h0 dX6_isAsItMustBe_103 (by decide) ?_
              refine xiald (v := (nI (F 2))) h0 16 0 rfl rfl (by omega) (by decide) dX6_isAsItMustBe_104 (rfl) ?_
              refine xbipush (v := (nI 60)) h0 dX6_isAsItMustBe_105 (by decide) ?_
              refine xncmp_gt (tgt := 114) h0 dX6_isAsItMustBe_107 (by decide) (by omega) (by omega) (fun c_7 => ?_) (fun c_7 => ?_)
              · skip
                refine xiconst (v := (nI 0)) h0 dX6_isAsItMustBe_114 (by decide) ?_
                exact xzret h0 dX6_isAsItMustBe_115 nar_n0 () (by exact (bI_f (by first | omega | assumption | (simp_all; done))).symm) rfl
              · skip
                refine xiconst (v := (nI 1)) h0 dX6_isAsItMustBe_110 (by decide) ?_
                refine xgoto (tgt := 115) h0 dX6_isAsItMustBe_111 (by decide) ?_
                exact xzret h0 dX6_isAsItMustBe_115 nar_n1 () (by exact (bI_t (by first | omega | assumption | (simp_all; done))).symm) rfl
    · skip
      have hF0 := hF.2.1 c_2
      refine xaload_n h0 0 dX6_isAsItMustBe_38 rfl rfl ?_
      refine xget (C := RX6) (T := TX6) (N := 52) (ci := 6) (v := .ref (md 30)) h0 hiX6 0 rfl rfl 30 (by decide) (List.mem_of_getElem? (i := 2) rfl) rfl dX6_isAsItMustBe_39 ?_
      refine xiconst (v := (nI 0)) h0 dX6_isAsItMustBe_42 (by decide) ?_
      refine xiald (v := (nI (F 0))) h0 16 0 rfl rfl (by omega) (by decide) dX6_isAsItMustBe_43 (rfl) ?_
      refine xiconst (v := (nI 4)) h0 dX6_isAsItMustBe_44 (by decide) ?_
      refine xncmp_gt (tgt := 52) h0 dX6_isAsItMustBe_45 (by decide) (by omega) (by omega) (fun c_8 => ?_) (fun c_8 => ?_)
      · skip
        refine xiconst (v := (nI 0)) h0 dX6_isAsItMustBe_52 (by decide) ?_
        exact xzret h0 dX6_isAsItMustBe_53 nar_n0 () (by exact (bI_f (by first | omega | assumption | (simp_all; done))).symm) rfl
      · skip
        refine xiconst (v := (nI 1)) h0 dX6_isAsItMustBe_48 (by decide) ?_
        refine xgoto (tgt := 53) h0 dX6_isAsItMustBe_49 (by decide) ?_
        exact xzret h0 dX6_isAsItMustBe_53 nar_n1 () (by exact (bI_t (by first | omega | assumption | (simp_all; done))).symm) rfl
  · skip
    have hF2 := hF.1 c_1
    refine xaload_n h0 0 dX6_isAsItMustBe_7 rfl rfl ?_
    refine xget (C := RX6) (T := TX6) (N := 52) (ci := 6) (v := .ref (md 30)) h0 hiX6 0 rfl rfl 30 (by decide) (List.mem_of_getElem? (i := 2) rfl) rfl dX6_isAsItMustBe_8 ?_
    refine xiconst (v := (nI 2)) h0 dX6_isAsItMustBe_11 (by decide) ?_
    refine xiald (v := (nI (F 2))) h0 16 0 rfl rfl (by omega) (by decide) dX6_isAsItMustBe_12 (rfl) ?_
    refine xbipush (v := (nI 100)) h0 dX6_isAsItMustBe_13 (by decide) ?_
    refine xncmp_gt (tgt := 28) h0 dX6_isAsItMustBe_15 (by decide) (by omega) (by omega) (fun c_9 => ?_) (fun c_9 => ?_)
    · skip
      refine xiconst (v := (nI 0)) h0 dX6_isAsItMustBe_28 (by decide) ?_
      exact xzret h0 dX6_isAsItMustBe_29 nar_n0 () (by exact (bI_f (by first | omega | assumption | (simp_all; done))).symm) rfl
    · skip
      refine xiload_n h0 1 dX6_isAsItMustBe_18 rfl rfl ?_
      refine xbipush (v := (nI 8)) h0 dX6_isAsItMustBe_19 (by decide) ?_
      refine xncmp_ge (tgt := 28) h0 dX6_isAsItMustBe_21 (by decide) (by omega) (by omega) (fun c_10 => ?_) (fun c_10 => ?_)
      · skip
        refine xiconst (v := (nI 0)) h0 dX6_isAsItMustBe_28 (by decide) ?_
        exact xzret h0 dX6_isAsItMustBe_29 nar_n0 () (by exact (bI_f (by first | omega | assumption | (simp_all; done))).symm) rfl
      · skip
        refine xiconst (v := (nI 1)) h0 dX6_isAsItMustBe_24 (by decide) ?_
        refine xgoto (tgt := 29) h0 dX6_isAsItMustBe_25 (by decide) ?_
        exact xzret h0 dX6_isAsItMustBe_29 nar_n1 () (by exact (bI_t (by first | omega | assumption | (simp_all; done))).symm) rfl
set_option maxHeartbeats 4000000 in
set_option maxRecDepth 100000 in
theorem c_X6_come (l : Launch) (D : va_G) (cI cC : ClassId) (md : Nat → Nat) (T : TT) (k tm dy : Nat) (P : TT) (pk ptm pdy hpi : Nat) (tg : Nat → Nat) (tl : Nat) (R : Nat → Nat) (sg : Nat → Nat) (sl : Nat) (u0 : ScmT) (s : Nat) (F : Nat → Nat) (hn : T 5 0 ≤ 8) (hs : s ≤ 3) (hf : (s = 0 ∧ F 2 ≤ 100 ∧ (T 5 0) < 8) ∨ (s = 3 ∧ F 0 ≤ 4) ∨ (s ≠ 0 ∧ s ≠ 3 ∧ F 0 < (T 5 0) ∧ F 1 < (T 5 0) ∧ F 0 ≠ F 1 ∧ 1 ≤ F 2 ∧ F 2 ≤ 60)) : XMv l yX6_come wsX6_come ({ frames := 0, cells := 0, slots := 0, locals := 0 } : Room) D (xT cI cC) xE0 (wM cI cC md T k tm dy P pk ptm pdy hpi tg tl R sg sl (upN u0.1 29 s, upA u0.2.1 30 F, u0.2.2)) [.ref (md 1)] (S := Unit) (fun _ => True) (fun _ => wM cI cC md (apF T s F) k tm dy P pk ptm pdy hpi tg tl R sg sl (upN u0.1 29 s, upA u0.2.1 30 F, u0.2.2)) 0 0 := by
  refine xMet_v (cc := cX6_come) (nL := 1)  (by decide +kernel) rfl (Nat.le_of_ble_eq_true rfl) (fun κ A h0 hn0 hE => ?_)
  have hiX6 : ∀ w ∈ u_ws RX6 TX6 52, w ∈ wsX6_come := by decide +kernel
  refine xlv (lv' := [(0, .ref (md 1))]) [0] rfl ?_
  refine xaload_n h0 0 dX6_come_0 rfl rfl ?_
  refine xget (C := RX6) (T := TX6) (N := 52) (ci := 6) (v := .int (nI s)) h0 hiX6 0 rfl rfl 29 (by decide) (List.mem_of_getElem? (i := 1) rfl) rfl dX6_come_1 ?_
  refine xnif_ne (tgt := 80) h0 dX6_come_4 (by decide) (by omega) (fun c_1 => ?_) (fun c_1 => ?_)
  · skip
    have hs0 : s ≠ 0 := Nat.pos_iff_ne_zero.mp c_1
    refine xaload_n h0 0 dX6_come_80 rfl rfl ?_
    refine xget (C := RX6) (T := TX6) (N := 52) (ci := 6) (v := .int (nI s)) h0 hiX6 0 rfl rfl 29 (by decide) (List.mem_of_getElem? (i := 1) rfl) rfl dX6_come_81 ?_
    refine xiconst (v := (nI 3)) h0 dX6_come_84 (by decide) ?_
    refine xncmp_ne (tgt := 101) h0 dX6_come_85 (by decide) (by omega) (by omega) (fun c_2 => ?_) (fun c_2 => ?_)
    · skip
      have hs3 : s ≠ 3 := c_2
      refine xaload_n h0 0 dX6_come_101 rfl rfl ?_
      refine xget (C := RX6) (T := TX6) (N := 52) (ci := 6) (v := .ref (md 10)) h0 hiX6 0 rfl rfl 10 (by decide) (List.mem_of_getElem? (i := 9) rfl) rfl dX6_come_102 ?_
      refine xbipush (v := (nI 8)) h0 dX6_come_105 (by decide) ?_
      refine xaload_n h0 0 dX6_come_107 rfl rfl ?_
      refine xget (C := RX6) (T := TX6) (N := 52) (ci := 6) (v := .ref (md 30)) h0 hiX6 0 rfl rfl 30 (by decide) (List.mem_of_getElem? (i := 4) rfl) rfl dX6_come_108 ?_
      refine xiconst (v := (nI 0)) h0 dX6_come_111 (by decide) ?_
      refine xiald (v := (nI (F 0))) h0 16 0 rfl rfl (by omega) (by decide) dX6_come_112 (rfl) ?_
      refine ximul (v := (nI (8 * (F 0)))) h0 dX6_come_113 (pk_mul _ _) ?_
      refine xaload_n h0 0 dX6_come_114 rfl rfl ?_
      refine xget (C := RX6) (T := TX6) (N := 52) (ci := 6) (v := .ref (md 30)) h0 hiX6 0 rfl rfl 30 (by decide) (List.mem_of_getElem? (i := 4) rfl) rfl dX6_come_115 ?_
      refine xiconst (v := (nI 1)) h0 dX6_come_118 (by decide) ?_
      refine xiald (v := (nI (F 1))) h0 16 0 rfl rfl (by omega) (by decide) dX6_come_119 (rfl) ?_
      refine xiadd (v := (nI ((8 * (F 0)) + (F 1)))) h0 dX6_come_120 (nI_add _ _) ?_
      refine xaload_n h0 0 dX6_come_121 rfl rfl ?_
      refine xget (C := RX6) (T := TX6) (N := 52) (ci := 6) (v := .ref (md 30)) h0 hiX6 0 rfl rfl 30 (by decide) (List.mem_of_getElem? (i := 4) rfl) rfl dX6_come_122 ?_
      refine xiconst (v := (nI 2)) h0 dX6_come_125 (by decide) ?_
      refine xiald (v := (nI (F 2))) h0 16 0 rfl rfl (by omega) (by decide) dX6_come_126 (rfl) ?_
      refine xiastN (ws' := (wM cI cC md (up2 T 4 ((8 * (F 0)) + (F 1)) (F 2)) k tm dy P pk ptm pdy hpi tg tl R sg sl (upN u0.1 29 s, upA u0.2.1 30 F, u0.2.2))) h0 6 0 rfl rfl (by omega) (by decide) dX6_come_127 rfl ?_
      refine xaload_n h0 0 dX6_come_128 rfl rfl ?_
      refine xget (C := RX6) (T := TX6) (N := 52) (ci := 6) (v := .int (nI s)) h0 hiX6 0 rfl rfl 29 (by decide) (List.mem_of_getElem? (i := 1) rfl) rfl dX6_come_129 ?_
      refine xiconst (v := (nI 2)) h0 dX6_come_132 (by decide) ?_
      refine xncmp_ne (tgt := 163) h0 dX6_come_133 (by decide) (by omega) (by omega) (fun c_3 => ?_) (fun c_3 => ?_)
      · skip
        have hs2 : s ≠ 2 := c_3
        exact xvret h0 dX6_come_163 () (by trivial) (by unfold apF; first | (rw [if_pos hs0]; first | done | rfl) | (rw [if_neg hs0, if_pos hs3]; first | done | rfl) | (rw [if_neg hs0, if_neg hs3, if_pos hs2]; first | done | rfl) | (rw [if_neg hs0, if_neg hs3, if_neg hs2]; first | done | rfl))
      · skip
        have hs2 : s = 2 := c_3
        refine xaload_n h0 0 dX6_come_136 rfl rfl ?_
        refine xget (C := RX6) (T := TX6) (N := 52) (ci := 6) (v := .ref (md 10)) h0 hiX6 0 rfl rfl 10 (by decide) (List.mem_of_getElem? (i := 9) rfl) rfl dX6_come_137 ?_
        refine xbipush (v := (nI 8)) h0 dX6_come_140 (by decide) ?_
        refine xaload_n h0 0 dX6_come_142 rfl rfl ?_
        refine xget (C := RX6) (T := TX6) (N := 52) (ci := 6) (v := .ref (md 30)) h0 hiX6 0 rfl rfl 30 (by decide) (List.mem_of_getElem? (i := 4) rfl) rfl dX6_come_143 ?_
        refine xiconst (v := (nI 1)) h0 dX6_come_146 (by decide) ?_
        refine xiald (v := (nI (F 1))) h0 16 0 rfl rfl (by omega) (by decide) dX6_come_147 (rfl) ?_
        refine ximul (v := (nI (8 * (F 1)))) h0 dX6_come_148 (pk_mul _ _) ?_
        refine xaload_n h0 0 dX6_come_149 rfl rfl ?_
        refine xget (C := RX6) (T := TX6) (N := 52) (ci := 6) (v := .ref (md 30)) h0 hiX6 0 rfl rfl 30 (by decide) (List.mem_of_getElem? (i := 4) rfl) rfl dX6_come_150 ?_
        refine xiconst (v := (nI 0)) h0 dX6_come_153 (by decide) ?_
        refine xiald (v := (nI (F 0))) h0 16 0 rfl rfl (by omega) (by decide) dX6_come_154 (rfl) ?_
        refine xiadd (v := (nI ((8 * (F 1)) + (F 0)))) h0 dX6_come_155 (nI_add _ _) ?_
        refine xaload_n h0 0 dX6_come_156 rfl rfl ?_
        refine xget (C := RX6) (T := TX6) (N := 52) (ci := 6) (v := .ref (md 30)) h0 hiX6 0 rfl rfl 30 (by decide) (List.mem_of_getElem? (i := 4) rfl) rfl dX6_come_157 ?_
        refine xiconst (v := (nI 2)) h0 dX6_come_160 (by decide) ?_
        refine xiald (v := (nI (F 2))) h0 16 0 rfl rfl (by omega) (by decide) dX6_come_161 (rfl) ?_
        refine xiastN (ws' := (wM cI cC md (up2 (up2 T 4 ((8 * (F 0)) + (F 1)) (F 2)) 4 ((8 * (F 1)) + (F 0)) (F 2)) k tm dy P pk ptm pdy hpi tg tl R sg sl (upN u0.1 29 s, upA u0.2.1 30 F, u0.2.2))) h0 6 0 rfl rfl (by omega) (by decide) dX6_come_162 rfl ?_
        exact xvret h0 dX6_come_163 () (by trivial) (by unfold apF; first | (rw [if_pos hs0]; first | done | rfl) | (rw [if_neg hs0, if_pos hs3]; first | done | rfl) | (rw [if_neg hs0, if_neg hs3, if_pos hs2]; first | done | rfl) | (rw [if_neg hs0, if_neg hs3, if_neg hs2]; first | done | rfl))
    · skip
      have hs3 : s = 3 := c_2
      refine xaload_n h0 0 dX6_come_88 rfl rfl ?_
      refine xaload_n h0 0 dX6_come_89 rfl rfl ?_
      refine xget (C := RX6) (T := TX6) (N := 52) (ci := 6) (v := .ref (md 30)) h0 hiX6 0 rfl rfl 30 (by decide) (List.mem_of_getElem? (i := 4) rfl) rfl dX6_come_90 ?_
      refine xiconst (v := (nI 0)) h0 dX6_come_93 (by decide) ?_
      refine xiald (v := (nI (F 0))) h0 16 0 rfl rfl (by omega) (by decide) dX6_come_94 (rfl) ?_
      refine xput (ws' := (wM cI cC md (up2 T 5 1 (F 0)) k tm dy P pk ptm pdy hpi tg tl R sg sl (upN u0.1 29 s, upA u0.2.1 30 F, u0.2.2))) (C := RX6) (T := TX6) (N := 52) (ci := 6) (ty := tyX6 2) h0 hiX6 tyX6 tyX6_ok nmX6 0 rfl rfl 2 (by decide) (List.mem_of_getElem? (i := 8) rfl) rfl (by decide +kernel) (rfl) (rfl) (Nat.le_of_ble_eq_true rfl) dX6_come_95 rfl ?_
      refine xgoto (tgt := 163) h0 dX6_come_98 (by decide) ?_
      exact xvret h0 dX6_come_163 () (by trivial) (by unfold apF; first | (rw [if_pos hs0]; first | done | rfl) | (rw [if_neg hs0, if_pos hs3]; first | done | rfl) | (rw [if_neg hs0, if_neg hs3, if_pos hs2]; first | done | rfl) | (rw [if_neg hs0, if_neg hs3, if_neg hs2]; first | done | rfl))
  · skip
    have hs0 : s = 0 := c_1
    refine xaload_n h0 0 dX6_come_7 rfl rfl ?_
    refine xget (C := RX6) (T := TX6) (N := 52) (ci := 6) (v := .ref (md 6)) h0 hiX6 0 rfl rfl 6 (by decide) (List.mem_of_getElem? (i := 2) rfl) rfl dX6_come_8 ?_
    refine xaload_n h0 0 dX6_come_11 rfl rfl ?_
    refine xget (C := RX6) (T := TX6) (N := 52) (ci := 6) (v := .int (nI (T 5 0))) h0 hiX6 0 rfl rfl 1 (by decide) (List.mem_of_getElem? (i := 3) rfl) rfl dX6_come_12 ?_
    refine xaload_n h0 0 dX6_come_15 rfl rfl ?_
    refine xget (C := RX6) (T := TX6) (N := 52) (ci := 6) (v := .ref (md 30)) h0 hiX6 0 rfl rfl 30 (by decide) (List.mem_of_getElem? (i := 4) rfl) rfl dX6_come_16 ?_
    refine xiconst (v := (nI 0)) h0 dX6_come_19 (by decide) ?_
    refine xiald (v := (nI (F 0))) h0 16 0 rfl rfl (by omega) (by decide) dX6_come_20 (rfl) ?_
    refine xiastN (ws' := (wM cI cC md (up2 T 0 (T 5 0) (F 0)) k tm dy P pk ptm pdy hpi tg tl R sg sl (upN u0.1 29 s, upA u0.2.1 30 F, u0.2.2))) h0 2 0 rfl rfl (by omega) (by decide) dX6_come_21 rfl ?_
    refine xaload_n h0 0 dX6_come_22 rfl rfl ?_
    refine xget (C := RX6) (T := TX6) (N := 52) (ci := 6) (v := .ref (md 7)) h0 hiX6 0 rfl rfl 7 (by decide) (List.mem_of_getElem? (i := 5) rfl) rfl dX6_come_23 ?_
    refine xaload_n h0 0 dX6_come_26 rfl rfl ?_
    refine xget (C := RX6) (T := TX6) (N := 52) (ci := 6) (v := .int (nI ((up2 T 0 (T 5 0) (F 0)) 5 0))) h0 hiX6 0 rfl rfl 1 (by decide) (List.mem_of_getElem? (i := 3) rfl) rfl dX6_come_27 ?_
    refine xaload_n h0 0 dX6_come_30 rfl rfl ?_
    refine xget (C := RX6) (T := TX6) (N := 52) (ci := 6) (v := .ref (md 30)) h0 hiX6 0 rfl rfl 30 (by decide) (List.mem_of_getElem? (i := 4) rfl) rfl dX6_come_31 ?_
    refine xiconst (v := (nI 1)) h0 dX6_come_34 (by decide) ?_
    refine xiald (v := (nI (F 1))) h0 16 0 rfl rfl (by omega) (by decide) dX6_come_35 (rfl) ?_
    refine xiastN (ws' := (wM cI cC md (up2 (up2 T 0 (T 5 0) (F 0)) 1 ((up2 T 0 (T 5 0) (F 0)) 5 0) (F 1)) k tm dy P pk ptm pdy hpi tg tl R sg sl (upN u0.1 29 s, upA u0.2.1 30 F, u0.2.2))) h0 3 0 rfl rfl (by show T 5 0 < 8; omega) (by decide) dX6_come_36 rfl ?_
    refine xaload_n h0 0 dX6_come_37 rfl rfl ?_
    refine xget (C := RX6) (T := TX6) (N := 52) (ci := 6) (v := .ref (md 8)) h0 hiX6 0 rfl rfl 8 (by decide) (List.mem_of_getElem? (i := 6) rfl) rfl dX6_come_38 ?_
    refine xaload_n h0 0 dX6_come_41 rfl rfl ?_
    refine xget (C := RX6) (T := TX6) (N := 52) (ci := 6) (v := .int (nI ((up2 (up2 T 0 (T 5 0) (F 0)) 1 ((up2 T 0 (T 5 0) (F 0)) 5 0) (F 1)) 5 0))) h0 hiX6 0 rfl rfl 1 (by decide) (List.mem_of_getElem? (i := 3) rfl) rfl dX6_come_42 ?_
    refine xaload_n h0 0 dX6_come_45 rfl rfl ?_
    refine xget (C := RX6) (T := TX6) (N := 52) (ci := 6) (v := .ref (md 30)) h0 hiX6 0 rfl rfl 30 (by decide) (List.mem_of_getElem? (i := 4) rfl) rfl dX6_come_46 ?_
    refine xiconst (v := (nI 2)) h0 dX6_come_49 (by decide) ?_
    refine xiald (v := (nI (F 2))) h0 16 0 rfl rfl (by omega) (by decide) dX6_come_50 (rfl) ?_
    refine xiastN (ws' := (wM cI cC md (up2 (up2 (up2 T 0 (T 5 0) (F 0)) 1 ((up2 T 0 (T 5 0) (F 0)) 5 0) (F 1)) 2 ((up2 (up2 T 0 (T 5 0) (F 0)) 1 ((up2 T 0 (T 5 0) (F 0)) 5 0) (F 1)) 5 0) (F 2)) k tm dy P pk ptm pdy hpi tg tl R sg sl (upN u0.1 29 s, upA u0.2.1 30 F, u0.2.2))) h0 4 0 rfl rfl (by show T 5 0 < 8; omega) (by decide) dX6_come_51 rfl ?_
    refine xaload_n h0 0 dX6_come_52 rfl rfl ?_
    refine xget (C := RX6) (T := TX6) (N := 52) (ci := 6) (v := .ref (md 9)) h0 hiX6 0 rfl rfl 9 (by decide) (List.mem_of_getElem? (i := 7) rfl) rfl dX6_come_53 ?_
    refine xaload_n h0 0 dX6_come_56 rfl rfl ?_
    refine xget (C := RX6) (T := TX6) (N := 52) (ci := 6) (v := .int (nI ((up2 (up2 (up2 T 0 (T 5 0) (F 0)) 1 ((up2 T 0 (T 5 0) (F 0)) 5 0) (F 1)) 2 ((up2 (up2 T 0 (T 5 0) (F 0)) 1 ((up2 T 0 (T 5 0) (F 0)) 5 0) (F 1)) 5 0) (F 2)) 5 0))) h0 hiX6 0 rfl rfl 1 (by decide) (List.mem_of_getElem? (i := 3) rfl) rfl dX6_come_57 ?_
    refine xaload_n h0 0 dX6_come_60 rfl rfl ?_
    refine xget (C := RX6) (T := TX6) (N := 52) (ci := 6) (v := .ref (md 30)) h0 hiX6 0 rfl rfl 30 (by decide) (List.mem_of_getElem? (i := 4) rfl) rfl dX6_come_61 ?_
    refine xiconst (v := (nI 3)) h0 dX6_come_64 (by decide) ?_
    refine xiald (v := (nI (F 3))) h0 16 0 rfl rfl (by omega) (by decide) dX6_come_65 (rfl) ?_
    refine xiastN (ws' := (wM cI cC md (up2 (up2 (up2 (up2 T 0 (T 5 0) (F 0)) 1 ((up2 T 0 (T 5 0) (F 0)) 5 0) (F 1)) 2 ((up2 (up2 T 0 (T 5 0) (F 0)) 1 ((up2 T 0 (T 5 0) (F 0)) 5 0) (F 1)) 5 0) (F 2)) 3 ((up2 (up2 (up2 T 0 (T 5 0) (F 0)) 1 ((up2 T 0 (T 5 0) (F 0)) 5 0) (F 1)) 2 ((up2 (up2 T 0 (T 5 0) (F 0)) 1 ((up2 T 0 (T 5 0) (F 0)) 5 0) (F 1)) 5 0) (F 2)) 5 0) (F 3)) k tm dy P pk ptm pdy hpi tg tl R sg sl (upN u0.1 29 s, upA u0.2.1 30 F, u0.2.2))) h0 5 0 rfl rfl (by show T 5 0 < 8; omega) (by decide) dX6_come_66 rfl ?_
    refine xaload_n h0 0 dX6_come_67 rfl rfl ?_
    refine xdup h0 dX6_come_68 rfl ?_
    refine xget (C := RX6) (T := TX6) (N := 52) (ci := 6) (v := .int (nI ((up2 (up2 (up2 (up2 T 0 (T 5 0) (F 0)) 1 ((up2 T 0 (T 5 0) (F 0)) 5 0) (F 1)) 2 ((up2 (up2 T 0 (T 5 0) (F 0)) 1 ((up2 T 0 (T 5 0) (F 0)) 5 0) (F 1)) 5 0) (F 2)) 3 ((up2 (up2 (up2 T 0 (T 5 0) (F 0)) 1 ((up2 T 0 (T 5 0) (F 0)) 5 0) (F 1)) 2 ((up2 (up2 T 0 (T 5 0) (F 0)) 1 ((up2 T 0 (T 5 0) (F 0)) 5 0) (F 1)) 5 0) (F 2)) 5 0) (F 3)) 5 0))) h0 hiX6 0 rfl rfl 1 (by decide) (List.mem_of_getElem? (i := 3) rfl) rfl dX6_come_69 ?_
    refine xiconst (v := (nI 1)) h0 dX6_come_72 (by decide) ?_
    refine xiadd (v := (nI (((up2 (up2 (up2 (up2 T 0 (T 5 0) (F 0)) 1 ((up2 T 0 (T 5 0) (F 0)) 5 0) (F 1)) 2 ((up2 (up2 T 0 (T 5 0) (F 0)) 1 ((up2 T 0 (T 5 0) (F 0)) 5 0) (F 1)) 5 0) (F 2)) 3 ((up2 (up2 (up2 T 0 (T 5 0) (F 0)) 1 ((up2 T 0 (T 5 0) (F 0)) 5 0) (F 1)) 2 ((up2 (up2 T 0 (T 5 0) (F 0)) 1 ((up2 T 0 (T 5 0) (F 0)) 5 0) (F 1)) 5 0) (F 2)) 5 0) (F 3)) 5 0) + 1))) h0 dX6_come_73 (nI_add _ _) ?_
    refine xput (ws' := (wM cI cC md (up2 (up2 (up2 (up2 (up2 T 0 (T 5 0) (F 0)) 1 ((up2 T 0 (T 5 0) (F 0)) 5 0) (F 1)) 2 ((up2 (up2 T 0 (T 5 0) (F 0)) 1 ((up2 T 0 (T 5 0) (F 0)) 5 0) (F 1)) 5 0) (F 2)) 3 ((up2 (up2 (up2 T 0 (T 5 0) (F 0)) 1 ((up2 T 0 (T 5 0) (F 0)) 5 0) (F 1)) 2 ((up2 (up2 T 0 (T 5 0) (F 0)) 1 ((up2 T 0 (T 5 0) (F 0)) 5 0) (F 1)) 5 0) (F 2)) 5 0) (F 3)) 5 0 (((up2 (up2 (up2 (up2 T 0 (T 5 0) (F 0)) 1 ((up2 T 0 (T 5 0) (F 0)) 5 0) (F 1)) 2 ((up2 (up2 T 0 (T 5 0) (F 0)) 1 ((up2 T 0 (T 5 0) (F 0)) 5 0) (F 1)) 5 0) (F 2)) 3 ((up2 (up2 (up2 T 0 (T 5 0) (F 0)) 1 ((up2 T 0 (T 5 0) (F 0)) 5 0) (F 1)) 2 ((up2 (up2 T 0 (T 5 0) (F 0)) 1 ((up2 T 0 (T 5 0) (F 0)) 5 0) (F 1)) 5 0) (F 2)) 5 0) (F 3)) 5 0) + 1)) k tm dy P pk ptm pdy hpi tg tl R sg sl (upN u0.1 29 s, upA u0.2.1 30 F, u0.2.2))) (C := RX6) (T := TX6) (N := 52) (ci := 6) (ty := tyX6 1) h0 hiX6 tyX6 tyX6_ok nmX6 0 rfl rfl 1 (by decide) (List.mem_of_getElem? (i := 3) rfl) rfl (by decide +kernel) (rfl) (rfl) (Nat.le_of_ble_eq_true rfl) dX6_come_74 rfl ?_
    refine xgoto (tgt := 163) h0 dX6_come_77 (by decide) ?_
    exact xvret h0 dX6_come_163 () (by trivial) (by unfold apF; first | (rw [if_pos hs0]; first | done | rfl) | (rw [if_neg hs0, if_pos hs3]; first | done | rfl) | (rw [if_neg hs0, if_neg hs3, if_pos hs2]; first | done | rfl) | (rw [if_neg hs0, if_neg hs3, if_neg hs2]; first | done | rfl))
set_option maxHeartbeats 4000000 in
set_option maxRecDepth 100000 in
theorem c_X6_read (l : Launch) (D : va_G) (cI cC : ClassId) (md : Nat → Nat) (T : TT) (k tm dy : Nat) (P : TT) (pk ptm pdy hpi : Nat) (tg : Nat → Nat) (tl : Nat) (R : Nat → Nat) (sg : Nat → Nat) (sl : Nat) (u0 : ScmT) (hT : TOK T) (hsl : sl ≤ 64) (hsg : ∀ j, sg j < 256) : XMi l yX6_read wsX6_read ({ frames := 3, cells := 0, slots := 0, locals := 64 } : Room) D (xT cI cC) xE0 (wM cI cC md T k tm dy P pk ptm pdy hpi tg tl R sg sl u0) [.ref (md 1)] (S := ScmT) (fun r _ => r = twA sg sl T) (fun u => wM cI cC md (twT sg sl T) k tm dy P pk ptm pdy hpi tg tl R sg sl u) 0 0 := by
  refine xMet_i (cc := cX6_read) (nL := 4) (ret := some .int) (by decide +kernel) rfl (Nat.le_of_ble_eq_true rfl) (fun κ A h0 hn0 hE => ?_)
  have hiX6 : ∀ w ∈ u_ws RX6 TX6 52, w ∈ wsX6_read := by decide +kernel
  refine xlv (lv' := [(0, .ref (md 1))]) [0] rfl ?_
  have hn8 := hT.1
  refine xiconst (v := (nI 0)) h0 dX6_read_0 (by decide) ?_
  refine xistore_n (lv' := [(1, .int (nI 0)), (0, .ref (md 1))]) h0 dX6_read_1 rfl (by decide) rfl ?_
  refine xaload_n h0 1 dX6_read_2 rfl rfl ?_
  refine xiconst (v := (nI 0)) h0 dX6_read_3 (by decide) ?_
  refine xput (ws' := (wM cI cC md T k tm dy P pk ptm pdy hpi tg tl R sg sl (upN u0.1 24 0, u0.2.1, u0.2.2))) (C := RX6) (T := TX6) (N := 52) (ci := 6) (ty := tyX6 24) h0 hiX6 tyX6 tyX6_ok nmX6 0 rfl rfl 24 (by decide) (List.mem_of_getElem? (i := 1) rfl) rfl (by decide +kernel) (rfl) (rfl) (Nat.le_of_ble_eq_true rfl) dX6_read_4 rfl ?_
  refine xaload_n h0 1 dX6_read_7 rfl rfl ?_
  refine xiconst (v := (nI 1)) h0 dX6_read_8 (by decide) ?_
  refine xput (ws' := (wM cI cC md T k tm dy P pk ptm pdy hpi tg tl R sg sl (upN (upN u0.1 24 0) 25 1, u0.2.1, u0.2.2))) (C := RX6) (T := TX6) (N := 52) (ci := 6) (ty := tyX6 25) h0 hiX6 tyX6 tyX6_ok nmX6 0 rfl rfl 25 (by decide) (List.mem_of_getElem? (i := 2) rfl) rfl (by decide +kernel) (rfl) (rfl) (Nat.le_of_ble_eq_true rfl) dX6_read_9 rfl ?_
  have la : ∀ (d_ : Nat) (p n : Nat) (v9 : Nat) (F : Nat → Nat), (66 - p ≤ d_) → (p ≤ sl) → (n ≤ p) → ((rd1 sg sl (65 - n) p).1 = (rd1 sg sl 65 0).1 ∧ n + (rd1 sg sl (65 - n) p).2 = (rd1 sg sl 65 0).2) → XG κ 4 D (xT cI cC) A (xQi (S := ScmT) κ D (xT cI cC) A (fun r _ => r = twA sg sl T) (fun u => wM cI cC md (twT sg sl T) k tm dy P pk ptm pdy hpi tg tl R sg sl u) 0 0) (wM cI cC md T k tm dy P pk ptm pdy hpi tg tl R sg sl (upN (upN (upN u0.1 24 p) 25 1) 29 v9, upA u0.2.1 30 F, u0.2.2)) 0 0 12 [(0, .ref (md 1)), (1, .int (nI n))] [] := by
    intro d_
    induction d_ with
    | zero => intro p n v9 F hm_ hp hnp hf; exact absurd hm_ (by omega)
    | succ d_ ih_la =>
      intro p n v9 F hm_ hp hnp hf
      refine xaload_n h0 0 dX6_read_12 rfl rfl ?_
      refine xcallV_v (nn := 0) (w2 := fun u_ => (wM cI cC md T k tm dy P pk ptm pdy hpi tg tl R sg sl (upN (upN (upN u0.1 24 ((srT sg sl (p, 0)).1)) 25 (wlN (srT sg sl (p, 0)).2)) 29 (srS sg sl (p, 0)), upA u0.2.1 30 (srF sg sl (p, 0) F), u0.2.2))) (wr := []) (rest := []) h0 (c_X6_statement (xL κ) D cI cC md T k tm dy P pk ptm pdy hpi tg tl R sg sl (upN u0.1 29 v9, upA u0.2.1 30 F, u0.2.2) (p, 0)  hsl hsg (by omega) (Or.inl rfl) ) gX6_read_X6_statement (by decide +kernel) rfl rfl rfl ⟨Nat.le_of_ble_eq_true rfl, Nat.le_of_ble_eq_true rfl⟩ ⟨by decide, by decide⟩ (fun _ _ _ _ h => h) (fun _ _ _ _ _ _ _ => trivial) rfl (Nat.le_of_ble_eq_true rfl) (q0 := 0) rfl rfl rfl [0, 1, 2, 3, 4, 5, 6, 7, 8, 9, 10, 11, 12, 13, 14, 15, 16, 17, 18, 19, 20, 21] [] [0, 1, 2, 3, 4, 5, 6, 7, 8, 9, 10, 11, 12, 13, 14, 15, 16, 17, 18, 19, 20, 21] ⟨rfl, rfl, rfl, rfl, rfl⟩ (fun _ => ⟨rfl, rfl⟩) dX6_read_13 (fun u_ hr_1 => ?_)
      refine xiinc (v := (nI (n + 1))) (lv' := [(1, .int (nI (n + 1))), (0, .ref (md 1))]) h0 1 dX6_read_16 rfl (nI_add _ _) (by decide) rfl ?_
      refine xaload_n h0 1 dX6_read_19 rfl rfl ?_
      refine xget (C := RX6) (T := TX6) (N := 52) (ci := 6) (v := .int (nI (wlN (srT sg sl (p, 0)).2))) h0 hiX6 0 rfl rfl 25 (by decide) (List.mem_of_getElem? (i := 2) rfl) rfl dX6_read_20 ?_
      refine xnif_eq (tgt := 37) h0 dX6_read_23 (by decide) (by first | omega | exact Nat.lt_of_le_of_lt (wl_le _) (by decide) | (have := srS_le (G := sg) (sl := sl) (p, 0); omega) | (have := srT_le (G := sg) (sl := sl) (p := p) hp; omega)) (fun c_3 => ?_) (fun c_3 => ?_)
      · skip
        have hb1 := wl_0 c_3 srT_b
        have he : ¬ ((srT sg sl (p, 0)).2 = 0 ∧ (srT sg sl (p, 0)).1 < sl) := fun z => by rw [hb1] at z; exact absurd z.1 (by decide)
        have hE : (rd1 sg sl 65 0).1 = srT sg sl (p, 0) ∧ (rd1 sg sl 65 0).2 = n + 1 := by rw [← hf.1, ← hf.2, show 65 - n = (65 - (n + 1)) + 1 by omega, rd1_e he]; exact ⟨rfl, rfl⟩
        refine xaload_n h0 1 dX6_read_37 rfl rfl ?_
        refine xget (C := RX6) (T := TX6) (N := 52) (ci := 6) (v := .int (nI (wlN (srT sg sl (p, 0)).2))) h0 hiX6 0 rfl rfl 25 (by decide) (List.mem_of_getElem? (i := 2) rfl) rfl dX6_read_38 ?_
        refine xnif_ne (tgt := 53) h0 dX6_read_41 (by decide) (by first | omega | exact Nat.lt_of_le_of_lt (wl_le _) (by decide) | (have := srS_le (G := sg) (sl := sl) (p, 0); omega) | (have := srT_le (G := sg) (sl := sl) (p := p) hp; omega)) (fun c_4 => ?_) (fun c_4 => ?_)
        · exact absurd c_4 (by intro z; rw [wl_0_ z] at hb1; exact absurd hb1 (by decide))
        · skip
          have htw : twT sg sl T = T := if_neg (fun z => by rw [hE.1, hb1] at z; exact absurd z.1 (by decide))
          refine xsipush (v := (-1000)) h0 dX6_read_44 (by decide) ?_
          refine xaload_n h0 1 dX6_read_47 rfl rfl ?_
          refine xget (C := RX6) (T := TX6) (N := 52) (ci := 6) (v := .int (nI ((srT sg sl (p, 0)).1))) h0 hiX6 0 rfl rfl 24 (by decide) (List.mem_of_getElem? (i := 1) rfl) rfl dX6_read_48 ?_
          refine xisub (v := ((-1000) - (nI ((srT sg sl (p, 0)).1)))) h0 dX6_read_51 rfl ?_
          exact xiret h0 dX6_read_52 (upN (upN (upN u0.1 24 ((srT sg sl (p, 0)).1)) 25 (wlN (srT sg sl (p, 0)).2)) 29 (srS sg sl (p, 0)), upA u0.2.1 30 (srF sg sl (p, 0) F), u0.2.2) (by unfold twA; rw [hE.1, if_neg (by rw [hb1]; decide)]) (by rw [htw]; first | done | rfl)
      · skip
        have hb0 := wl_1 c_3
        refine xaload_n h0 1 dX6_read_26 rfl rfl ?_
        refine xget (C := RX6) (T := TX6) (N := 52) (ci := 6) (v := .int (nI ((srT sg sl (p, 0)).1))) h0 hiX6 0 rfl rfl 24 (by decide) (List.mem_of_getElem? (i := 1) rfl) rfl dX6_read_27 ?_
        refine xaload_n h0 1 dX6_read_30 rfl rfl ?_
        refine xget (C := RX6) (T := TX6) (N := 52) (ci := 6) (v := .int (nI sl)) h0 hiX6 0 rfl rfl 23 (by decide) (List.mem_of_getElem? (i := 3) rfl) rfl dX6_read_31 ?_
        refine xncmp_lt (tgt := 12) h0 dX6_read_34 (by decide) (by first | omega | exact Nat.lt_of_le_of_lt (wl_le _) (by decide) | (have := srS_le (G := sg) (sl := sl) (p, 0); omega) | (have := srT_le (G := sg) (sl := sl) (p := p) hp; omega)) (by first | omega | exact Nat.lt_of_le_of_lt (wl_le _) (by decide) | (have := srS_le (G := sg) (sl := sl) (p, 0); omega) | (have := srT_le (G := sg) (sl := sl) (p := p) hp; omega)) (fun c_5 => ?_) (fun c_5 => ?_)
        · skip
          have hlt := c_5
          have hadv := srT_0 hb0
          refine xeq (ws' := (wM cI cC md T k tm dy P pk ptm pdy hpi tg tl R sg sl (upN (upN (upN u0.1 24 ((srT sg sl (p, 0)).1)) 25 1) 29 (srS sg sl (p, 0)), upA u0.2.1 30 (srF sg sl (p, 0) F), u0.2.2))) (by rw [wl_z hb0]) ?_
          refine xlv [1, 0] rfl ?_
          exact ih_la ((srT sg sl (p, 0)).1) (n + 1) (srS sg sl (p, 0)) (srF sg sl (p, 0) F) (by have := hadv.1; omega) (by exact hadv.2.1) (by omega) (by rw [← hf.1, ← hf.2, show 65 - n = (65 - (n + 1)) + 1 by omega, rd1_g ⟨hb0, hlt⟩]; exact ⟨rfl, by show _ = n + (_ + 1); omega⟩)
        · skip
          have he : ¬ ((srT sg sl (p, 0)).2 = 0 ∧ (srT sg sl (p, 0)).1 < sl) := fun z => absurd z.2 (Nat.not_lt.mpr c_5)
          have hE : (rd1 sg sl 65 0).1 = srT sg sl (p, 0) ∧ (rd1 sg sl 65 0).2 = n + 1 := by rw [← hf.1, ← hf.2, show 65 - n = (65 - (n + 1)) + 1 by omega, rd1_e he]; exact ⟨rfl, rfl⟩
          have hG : (rd1 sg sl 65 0).1.2 = 0 := by rw [hE.1]; exact hb0
          refine xaload_n h0 1 dX6_read_37 rfl rfl ?_
          refine xget (C := RX6) (T := TX6) (N := 52) (ci := 6) (v := .int (nI (wlN (srT sg sl (p, 0)).2))) h0 hiX6 0 rfl rfl 25 (by decide) (List.mem_of_getElem? (i := 2) rfl) rfl dX6_read_38 ?_
          refine xnif_ne (tgt := 53) h0 dX6_read_41 (by decide) (by first | omega | exact Nat.lt_of_le_of_lt (wl_le _) (by decide) | (have := srS_le (G := sg) (sl := sl) (p, 0); omega) | (have := srT_le (G := sg) (sl := sl) (p := p) hp; omega)) (fun c_6 => ?_) (fun c_6 => ?_)
          · skip
            refine xeq (ws' := (wM cI cC md T k tm dy P pk ptm pdy hpi tg tl R sg sl (upN (upN (upN u0.1 24 ((srT sg sl (p, 0)).1)) 25 1) 29 (srS sg sl (p, 0)), upA u0.2.1 30 (srF sg sl (p, 0) F), u0.2.2))) (by rw [wl_z hb0]) ?_
            refine xaload_n h0 1 dX6_read_53 rfl rfl ?_
            refine xiconst (v := (nI 0)) h0 dX6_read_54 (by decide) ?_
            refine xput (ws' := (wM cI cC md T k tm dy P pk ptm pdy hpi tg tl R sg sl (upN (upN (upN u0.1 24 0) 25 1) 29 (srS sg sl (p, 0)), upA u0.2.1 30 (srF sg sl (p, 0) F), u0.2.2))) (C := RX6) (T := TX6) (N := 52) (ci := 6) (ty := tyX6 24) h0 hiX6 tyX6 tyX6_ok nmX6 0 rfl rfl 24 (by decide) (List.mem_of_getElem? (i := 1) rfl) rfl (by decide +kernel) (rfl) (rfl) (Nat.le_of_ble_eq_true rfl) dX6_read_55 rfl ?_
            refine xaload_n h0 1 dX6_read_58 rfl rfl ?_
            refine xget (C := RX6) (T := TX6) (N := 52) (ci := 6) (v := .int (nI (T 5 0))) h0 hiX6 0 rfl rfl 1 (by decide) (List.mem_of_getElem? (i := 4) rfl) rfl dX6_read_59 ?_
            refine xistore_n (lv' := [(2, .int (nI (T 5 0))), (1, .int (nI (n + 1))), (0, .ref (md 1))]) h0 dX6_read_62 rfl (by decide) rfl ?_
            have lb : ∀ (d_ : Nat) (p c f : Nat) (v9 : Nat) (F : Nat → Nat), (f ≤ d_) → (p ≤ sl) → (c ≤ 8) → (sl < p + f) → (p < sl → (rd1 sg sl f p).1.2 = 0) → (rd2 sg sl f p c = rd2 sg sl 65 0 (T 5 0)) → XG κ 4 D (xT cI cC) A (xQi (S := ScmT) κ D (xT cI cC) A (fun r _ => r = twA sg sl T) (fun u => wM cI cC md (twT sg sl T) k tm dy P pk ptm pdy hpi tg tl R sg sl u) 0 0) (wM cI cC md T k tm dy P pk ptm pdy hpi tg tl R sg sl (upN (upN (upN u0.1 24 p) 25 1) 29 v9, upA u0.2.1 30 F, u0.2.2)) 0 0 63 [(0, .ref (md 1)), (1, .int (nI (n + 1))), (2, .int (nI c))] [] := by
              intro d_
              induction d_ with
              | zero => intro p c f v9 F hm_ hp hc hsf hg h2; exact absurd hm_ (by omega)
              | succ d_ ih_lb =>
                intro p c f v9 F hm_ hp hc hsf hg h2
                obtain ⟨g, hg_⟩ : ∃ g, f = g + 1 := ⟨f - 1, by omega⟩
                subst hg_
                refine xaload_n h0 0 dX6_read_63 rfl rfl ?_
                refine xget (C := RX6) (T := TX6) (N := 52) (ci := 6) (v := .int (nI p)) h0 hiX6 0 rfl rfl 24 (by decide) (List.mem_of_getElem? (i := 1) rfl) rfl dX6_read_64 ?_
                refine xaload_n h0 0 dX6_read_67 rfl rfl ?_
                refine xget (C := RX6) (T := TX6) (N := 52) (ci := 6) (v := .int (nI sl)) h0 hiX6 0 rfl rfl 23 (by decide) (List.mem_of_getElem? (i := 3) rfl) rfl dX6_read_68 ?_
                refine xncmp_ge (tgt := 115) h0 dX6_read_71 (by decide) (by first | omega | exact Nat.lt_of_le_of_lt (wl_le _) (by decide) | (have := srS_le (G := sg) (sl := sl) (p, 0); omega) | (have := srT_le (G := sg) (sl := sl) (p := p) hp; omega)) (by first | omega | exact Nat.lt_of_le_of_lt (wl_le _) (by decide) | (have := srS_le (G := sg) (sl := sl) (p, 0); omega) | (have := srT_le (G := sg) (sl := sl) (p := p) hp; omega)) (fun c_7 => ?_) (fun c_7 => ?_)
                · skip
                  have hr2 : rd2 sg sl 65 0 (T 5 0) = none := by rw [← h2]; exact rd2_e (Nat.not_lt.mpr c_7)
                  refine xaload_n h0 0 dX6_read_115 rfl rfl ?_
                  refine xiconst (v := (nI 0)) h0 dX6_read_116 (by decide) ?_
                  refine xput (ws' := (wM cI cC md T k tm dy P pk ptm pdy hpi tg tl R sg sl (upN (upN (upN u0.1 24 0) 25 1) 29 v9, upA u0.2.1 30 F, u0.2.2))) (C := RX6) (T := TX6) (N := 52) (ci := 6) (ty := tyX6 24) h0 hiX6 tyX6 tyX6_ok nmX6 0 rfl rfl 24 (by decide) (List.mem_of_getElem? (i := 1) rfl) rfl (by decide +kernel) (rfl) (rfl) (Nat.le_of_ble_eq_true rfl) dX6_read_117 rfl ?_
                  have lc : ∀ (d_ : Nat) (p f : Nat) (M : TT) (v9 : Nat) (F : Nat → Nat), (f ≤ d_) → (p ≤ sl) → (TOK M) → (sl < p + f) → (p < sl → (rd1 sg sl f p).1.2 = 0) → (rd2 sg sl f p (M 5 0) = none) → (rd3 sg sl f p M = rd3 sg sl 65 0 T) → XG κ 4 D (xT cI cC) A (xQi (S := ScmT) κ D (xT cI cC) A (fun r _ => r = twA sg sl T) (fun u => wM cI cC md (twT sg sl T) k tm dy P pk ptm pdy hpi tg tl R sg sl u) 0 0) (wM cI cC md M k tm dy P pk ptm pdy hpi tg tl R sg sl (upN (upN (upN u0.1 24 p) 25 1) 29 v9, upA u0.2.1 30 F, u0.2.2)) 0 0 120 [(0, .ref (md 1)), (1, .int (nI (n + 1)))] [] := by
                    intro d_
                    induction d_ with
                    | zero => intro p f M v9 F hm_ hp hM hsf hg h2 h3; exact absurd hm_ (by omega)
                    | succ d_ ih_lc =>
                      intro p f M v9 F hm_ hp hM hsf hg h2 h3
                      obtain ⟨g, hg_⟩ : ∃ g, f = g + 1 := ⟨f - 1, by omega⟩
                      subst hg_
                      refine xaload_n h0 0 dX6_read_120 rfl rfl ?_
                      refine xget (C := RX6) (T := TX6) (N := 52) (ci := 6) (v := .int (nI p)) h0 hiX6 0 rfl rfl 24 (by decide) (List.mem_of_getElem? (i := 1) rfl) rfl dX6_read_121 ?_
                      refine xaload_n h0 0 dX6_read_124 rfl rfl ?_
                      refine xget (C := RX6) (T := TX6) (N := 52) (ci := 6) (v := .int (nI sl)) h0 hiX6 0 rfl rfl 23 (by decide) (List.mem_of_getElem? (i := 3) rfl) rfl dX6_read_125 ?_
                      refine xncmp_ge (tgt := 142) h0 dX6_read_128 (by decide) (by first | omega | exact Nat.lt_of_le_of_lt (wl_le _) (by decide) | (have := srS_le (G := sg) (sl := sl) (p, 0); omega) | (have := srT_le (G := sg) (sl := sl) (p := p) hp; omega)) (by first | omega | exact Nat.lt_of_le_of_lt (wl_le _) (by decide) | (have := srS_le (G := sg) (sl := sl) (p, 0); omega) | (have := srT_le (G := sg) (sl := sl) (p := p) hp; omega)) (fun c_8 => ?_) (fun c_8 => ?_)
                      · skip
                        have htw : twT sg sl T = M := by unfold twT; rw [if_pos ⟨hG, hr2⟩, ← h3, rd3_e (Nat.not_lt.mpr c_8)]
                        refine xiload_n h0 1 dX6_read_142 rfl rfl ?_
                        exact xiret h0 dX6_read_143 (upN (upN (upN u0.1 24 p) 25 1) 29 v9, upA u0.2.1 30 F, u0.2.2) (by unfold twA; rw [if_pos hG, hr2, hE.2]) (by rw [htw]; first | done | rfl)
                      · skip
                        have hok := rd1_ok (hg c_8)
                        have hb0 := hok.1
                        have hpl := c_8
                        have hadv := srT_0 hb0
                        have hfz : fitD (M 5 0) (srS sg sl (p, 0)) (srF sg sl (p, 0) Z0F) := Decidable.byContradiction (fun z => by rw [rd2_n hpl z] at h2; cases h2)
                        have hfF := (srF_fit (G := sg) (sl := sl) (σ := (p, 0)) (M 5 0) Z0F F).mp hfz
                        have h2n : rd2 sg sl g (srT sg sl (p, 0)).1 (apF M (srS sg sl (p, 0)) (srF sg sl (p, 0) Z0F) 5 0) = none := by rw [ap_n, ← rd2_y hpl hfz]; exact h2
                        have h3n : rd3 sg sl g (srT sg sl (p, 0)).1 (apF M (srS sg sl (p, 0)) (srF sg sl (p, 0) Z0F)) = rd3 sg sl 65 0 T := by rw [← h3, rd3_y hpl]
                        have hMn := tok_ap hM hfz srF_b
                        refine xaload_n h0 0 dX6_read_131 rfl rfl ?_
                        refine xcallV_v (nn := 0) (w2 := fun u_ => (wM cI cC md M k tm dy P pk ptm pdy hpi tg tl R sg sl (upN (upN (upN u0.1 24 ((srT sg sl (p, 0)).1)) 25 (wlN (srT sg sl (p, 0)).2)) 29 (srS sg sl (p, 0)), upA u0.2.1 30 (srF sg sl (p, 0) F), u0.2.2))) (wr := []) (rest := []) h0 (c_X6_statement (xL κ) D cI cC md M k tm dy P pk ptm pdy hpi tg tl R sg sl (upN u0.1 29 v9, upA u0.2.1 30 F, u0.2.2) (p, 0)  hsl hsg (by omega) (Or.inl rfl) ) gX6_read_X6_statement (by decide +kernel) rfl rfl rfl ⟨Nat.le_of_ble_eq_true rfl, Nat.le_of_ble_eq_true rfl⟩ ⟨by decide, by decide⟩ (fun _ _ _ _ h => h) (fun _ _ _ _ _ _ _ => trivial) rfl (Nat.le_of_ble_eq_true rfl) (q0 := 0) rfl rfl rfl [0, 1, 2, 3, 4, 5, 6, 7, 8, 9, 10, 11, 12, 13, 14, 15, 16, 17, 18, 19, 20, 21] [] [0, 1, 2, 3, 4, 5, 6, 7, 8, 9, 10, 11, 12, 13, 14, 15, 16, 17, 18, 19, 20, 21] ⟨rfl, rfl, rfl, rfl, rfl⟩ (fun _ => ⟨rfl, rfl⟩) dX6_read_132 (fun u_ hr_9 => ?_)
                        refine xaload_n h0 0 dX6_read_135 rfl rfl ?_
                        refine xcallV_v (nn := 0) (w2 := fun u_ => (wM cI cC md (apF M (srS sg sl (p, 0)) (srF sg sl (p, 0) F)) k tm dy P pk ptm pdy hpi tg tl R sg sl (upN (upN (upN u0.1 24 ((srT sg sl (p, 0)).1)) 25 (wlN (srT sg sl (p, 0)).2)) 29 (srS sg sl (p, 0)), upA u0.2.1 30 (srF sg sl (p, 0) F), u0.2.2))) (wr := []) (rest := []) h0 (c_X6_come (xL κ) D cI cC md M k tm dy P pk ptm pdy hpi tg tl R sg sl (upN (upN u0.1 24 ((srT sg sl (p, 0)).1)) 25 (wlN (srT sg sl (p, 0)).2), u0.2.1, u0.2.2) (srS sg sl (p, 0)) (srF sg sl (p, 0) F) (by exact hM.1) (srS_le _) (by exact hfF)) gX6_read_X6_come (by decide +kernel) rfl rfl rfl ⟨Nat.le_of_ble_eq_true rfl, Nat.le_of_ble_eq_true rfl⟩ ⟨by decide, by decide⟩ (fun _ _ _ _ h => h) (fun _ _ _ _ _ _ _ => trivial) rfl (Nat.le_of_ble_eq_true rfl) (q0 := 0) rfl rfl rfl [0, 1, 2, 3, 4, 5, 6, 7, 8, 9, 10, 11, 12, 13, 14, 15, 16, 17, 18, 19, 20, 21] [] [0, 1, 2, 3, 4, 5, 6, 7, 8, 9, 10, 11, 12, 13, 14, 15, 16, 17, 18, 19, 20, 21] ⟨rfl, rfl, rfl, rfl, rfl⟩ (fun _ => ⟨rfl, rfl⟩) dX6_read_136 (fun u_ hr_11 => ?_)
                        refine xeq (ws' := (wM cI cC md (apF M (srS sg sl (p, 0)) (srF sg sl (p, 0) F)) k tm dy P pk ptm pdy hpi tg tl R sg sl (upN (upN (upN u0.1 24 ((srT sg sl (p, 0)).1)) 25 1) 29 (srS sg sl (p, 0)), upA u0.2.1 30 (srF sg sl (p, 0) F), u0.2.2))) (by rw [wl_z hb0]) ?_
                        refine xeq (ws' := (wM cI cC md (apF M (srS sg sl (p, 0)) (srF sg sl (p, 0) Z0F)) k tm dy P pk ptm pdy hpi tg tl R sg sl (upN (upN (upN u0.1 24 ((srT sg sl (p, 0)).1)) 25 1) 29 (srS sg sl (p, 0)), upA u0.2.1 30 (srF sg sl (p, 0) F), u0.2.2))) (by rw [srF_ap M F Z0F]) ?_
                        refine xgoto (tgt := 120) h0 dX6_read_139 (by decide) ?_
                        exact ih_lc ((srT sg sl (p, 0)).1) g (apF M (srS sg sl (p, 0)) (srF sg sl (p, 0) Z0F)) (srS sg sl (p, 0)) (srF sg sl (p, 0) F) (by omega) (by exact hadv.2.1) (by exact hMn) (by have := hadv.1; omega) (by exact hok.2) (by exact h2n) (by exact h3n)
                  refine xlv [0, 1] rfl ?_
                  exact lc (65) 0 65 T v9 F (by omega) (by exact Nat.zero_le _) (by exact hT) (by omega) (by intro _; exact hG) (by exact hr2) (by rfl)
                · skip
                  have hok := rd1_ok (hg c_7)
                  have hb0 := hok.1
                  have hpl := c_7
                  have hadv := srT_0 hb0
                  refine xaload_n h0 0 dX6_read_74 rfl rfl ?_
                  refine xget (C := RX6) (T := TX6) (N := 52) (ci := 6) (v := .int (nI p)) h0 hiX6 0 rfl rfl 24 (by decide) (List.mem_of_getElem? (i := 1) rfl) rfl dX6_read_75 ?_
                  refine xistore_n (lv' := [(3, .int (nI p)), (0, .ref (md 1)), (1, .int (nI (n + 1))), (2, .int (nI c))]) h0 dX6_read_78 rfl (by decide) rfl ?_
                  refine xaload_n h0 1 dX6_read_79 rfl rfl ?_
                  refine xcallV_v (nn := 0) (w2 := fun u_ => (wM cI cC md T k tm dy P pk ptm pdy hpi tg tl R sg sl (upN (upN (upN u0.1 24 ((srT sg sl (p, 0)).1)) 25 (wlN (srT sg sl (p, 0)).2)) 29 (srS sg sl (p, 0)), upA u0.2.1 30 (srF sg sl (p, 0) F), u0.2.2))) (wr := []) (rest := []) h0 (c_X6_statement (xL κ) D cI cC md T k tm dy P pk ptm pdy hpi tg tl R sg sl (upN u0.1 29 v9, upA u0.2.1 30 F, u0.2.2) (p, 0)  hsl hsg (by omega) (Or.inl rfl) ) gX6_read_X6_statement (by decide +kernel) rfl rfl rfl ⟨Nat.le_of_ble_eq_true rfl, Nat.le_of_ble_eq_true rfl⟩ ⟨by decide, by decide⟩ (fun _ _ _ _ h => h) (fun _ _ _ _ _ _ _ => trivial) rfl (Nat.le_of_ble_eq_true rfl) (q0 := 0) rfl rfl rfl [0, 1, 2, 3, 4, 5, 6, 7, 8, 9, 10, 11, 12, 13, 14, 15, 16, 17, 18, 19, 20, 21] [] [0, 1, 2, 3, 4, 5, 6, 7, 8, 9, 10, 11, 12, 13, 14, 15, 16, 17, 18, 19, 20, 21] ⟨rfl, rfl, rfl, rfl, rfl⟩ (fun _ => ⟨rfl, rfl⟩) dX6_read_80 (fun u_ hr_13 => ?_)
                  refine xaload_n h0 1 dX6_read_83 rfl rfl ?_
                  refine xiload_n h0 3 dX6_read_84 rfl rfl ?_
                  refine xcallV_i (nn := 1) (w2 := fun u_ => (wM cI cC md T k tm dy P pk ptm pdy hpi tg tl R sg sl (upN (upN (upN u0.1 24 ((srT sg sl (p, 0)).1)) 25 (wlN (srT sg sl (p, 0)).2)) 29 (srS sg sl (p, 0)), upA u0.2.1 30 (srF sg sl (p, 0) F), u0.2.2))) (wr := []) (rest := []) h0 (c_X6_isAsItMustBe (xL κ) D cI cC md T k tm dy P pk ptm pdy hpi tg tl R sg sl (upN (upN u0.1 24 ((srT sg sl (p, 0)).1)) 25 (wlN (srT sg sl (p, 0)).2), u0.2.1, u0.2.2) (srS sg sl (p, 0)) c (srF sg sl (p, 0) F) (srS_le _) (by exact hc) (by exact srF_4)) gX6_read_X6_isAsItMustBe (by decide +kernel) rfl rfl rfl ⟨Nat.le_of_ble_eq_true rfl, Nat.le_of_ble_eq_true rfl⟩ ⟨by decide, by decide⟩ (fun _ _ _ _ h => h) (fun _ _ _ _ _ _ _ => trivial) rfl (Nat.le_of_ble_eq_true rfl) (q0 := 0) rfl rfl rfl [0, 1, 2, 3, 4, 5, 6, 7, 8, 9, 10, 11, 12, 13, 14, 15, 16, 17, 18, 19, 20, 21] [] [0, 1, 2, 3, 4, 5, 6, 7, 8, 9, 10, 11, 12, 13, 14, 15, 16, 17, 18, 19, 20, 21] ⟨rfl, rfl, rfl, rfl, rfl⟩ (fun _ => ⟨rfl, rfl⟩) dX6_read_85 (fun r_16 u_ hr_15 => ?_)
                  subst hr_15
                  refine xbif_ne (tgt := 97) h0 dX6_read_88 (by decide)  (fun c_17 => ?_) (fun c_17 => ?_)
                  · skip
                    have hfit := (srF_fit (G := sg) (sl := sl) (σ := (p, 0)) c F Z0F).mp c_17
                    refine xeq (ws' := (wM cI cC md T k tm dy P pk ptm pdy hpi tg tl R sg sl (upN (upN (upN u0.1 24 ((srT sg sl (p, 0)).1)) 25 1) 29 (srS sg sl (p, 0)), upA u0.2.1 30 (srF sg sl (p, 0) F), u0.2.2))) (by rw [wl_z hb0]) ?_
                    refine xiload_n h0 3 dX6_read_97 rfl rfl ?_
                    refine xaload_n h0 1 dX6_read_98 rfl rfl ?_
                    refine xget (C := RX6) (T := TX6) (N := 52) (ci := 6) (v := .int (nI (srS sg sl (p, 0)))) h0 hiX6 0 rfl rfl 29 (by decide) (List.mem_of_getElem? (i := 5) rfl) rfl dX6_read_99 ?_
                    refine xnif_ne (tgt := 109) h0 dX6_read_102 (by decide) (by first | omega | exact Nat.lt_of_le_of_lt (wl_le _) (by decide) | (have := srS_le (G := sg) (sl := sl) (p, 0); omega) | (have := srT_le (G := sg) (sl := sl) (p := p) hp; omega)) (fun c_18 => ?_) (fun c_18 => ?_)
                    · skip
                      have hs0 : srS sg sl (p, 0) ≠ 0 := Nat.pos_iff_ne_zero.mp c_18
                      have h2n : rd2 sg sl g (srT sg sl (p, 0)).1 (c + 0) = rd2 sg sl 65 0 (T 5 0) := by rw [← h2, rd2_y hpl hfit, bN_f hs0]
                      have hc8 : c + 0 ≤ 8 := by rcases hfit with z | z | z <;> omega
                      refine xiconst (v := (nI 0)) h0 dX6_read_109 (by decide) ?_
                      refine xiadd (v := (nI (c + 0))) h0 dX6_read_110 (nI_add _ _) ?_
                      refine xistore_n (lv' := [(2, .int (nI (c + 0))), (3, .int (nI p)), (0, .ref (md 1)), (1, .int (nI (n + 1)))]) h0 dX6_read_111 rfl (by decide) rfl ?_
                      refine xgoto (tgt := 63) h0 dX6_read_112 (by decide) ?_
                      refine xlv [2, 3, 0] rfl ?_
                      exact ih_lb ((srT sg sl (p, 0)).1) (c + 0) g (srS sg sl (p, 0)) (srF sg sl (p, 0) F) (by omega) (by exact hadv.2.1) (by exact hc8) (by have := hadv.1; omega) (by exact hok.2) (by exact h2n)
                    · skip
                      have hs0 : srS sg sl (p, 0) = 0 := c_18
                      have h2n : rd2 sg sl g (srT sg sl (p, 0)).1 (c + 1) = rd2 sg sl 65 0 (T 5 0) := by rw [← h2, rd2_y hpl hfit, bN_t hs0]
                      have hc8 : c + 1 ≤ 8 := by rcases hfit with z | z | z <;> omega
                      refine xiconst (v := (nI 1)) h0 dX6_read_105 (by decide) ?_
                      refine xgoto (tgt := 110) h0 dX6_read_106 (by decide) ?_
                      refine xiadd (v := (nI (c + 1))) h0 dX6_read_110 (nI_add _ _) ?_
                      refine xistore_n (lv' := [(2, .int (nI (c + 1))), (3, .int (nI p)), (0, .ref (md 1)), (1, .int (nI (n + 1)))]) h0 dX6_read_111 rfl (by decide) rfl ?_
                      refine xgoto (tgt := 63) h0 dX6_read_112 (by decide) ?_
                      refine xlv [2, 3, 0] rfl ?_
                      exact ih_lb ((srT sg sl (p, 0)).1) (c + 1) g (srS sg sl (p, 0)) (srF sg sl (p, 0) F) (by omega) (by exact hadv.2.1) (by exact hc8) (by have := hadv.1; omega) (by exact hok.2) (by exact h2n)
                  · skip
                    have hr2 : rd2 sg sl 65 0 (T 5 0) = some p := by rw [← h2]; exact rd2_n hpl (fun z => c_17 ((srF_fit c F Z0F).mpr z))
                    have htw : twT sg sl T = T := if_neg (fun z => by rw [hr2] at z; cases z.2)
                    refine xsipush (v := (-2000)) h0 dX6_read_91 (by decide) ?_
                    refine xiload_n h0 0 dX6_read_94 rfl rfl ?_
                    refine xisub (v := ((-2000) - (nI p))) h0 dX6_read_95 rfl ?_
                    exact xiret h0 dX6_read_96 (upN (upN (upN u0.1 24 ((srT sg sl (p, 0)).1)) 25 (wlN (srT sg sl (p, 0)).2)) 29 (srS sg sl (p, 0)), upA u0.2.1 30 (srF sg sl (p, 0) F), u0.2.2) (by unfold twA; rw [if_pos hG, hr2]) (by rw [htw]; first | done | rfl)
            refine xlv [2, 1, 0] rfl ?_
            exact lb (65) 0 (T 5 0) 65 (srS sg sl (p, 0)) (srF sg sl (p, 0) F) (by omega) (by exact Nat.zero_le _) (by exact hn8) (by omega) (by intro _; exact hG) (by rfl)
          · exact absurd c_6 (by rw [wl_z hb0]; decide)
  refine xlv [1, 0] rfl ?_
  exact la (66) 0 0 (u0.1 29) (u0.2.1 30) (by omega) (by exact Nat.zero_le _) (by exact Nat.le_refl 0) (by exact ⟨rfl, Nat.zero_add _⟩)
